-- ===== the model's stretch =====
def mStr (J : Nat → Nat → Int64) (lo hi : zFr) : Prop := (J 305 18 = Int64.ofInt lo.1 ∧ J 305 19 = Int64.ofInt lo.2) ∧ J 305 20 = Int64.ofInt hi.1 ∧ J 305 21 = Int64.ofInt hi.2
def mJf (J J' : Nat → Nat → Int64) : Prop := (∀ x, x ≠ 305 → J' x = J x) ∧ ∀ j, j < 6 ∨ (8 ≤ j ∧ j < 18) ∨ 22 ≤ j → J' 305 j = J 305 j
theorem mJf_rfl {J : Nat → Nat → Int64} : mJf J J := ⟨fun _ _ => rfl, fun _ _ => rfl⟩
theorem mJf_tr {J J1 J2 : Nat → Nat → Int64} (h1 : mJf J J1) (h2 : mJf J1 J2) : mJf J J2 := ⟨fun x hx => (h2.1 x hx).trans (h1.1 x hx), fun j hj => (h2.2 j hj).trans (h1.2 j hj)⟩
theorem m_wide {G : zG} (hG : zGok G) {k' : Nat} (hk : 1 ≤ k') {I : Nat → Nat → Int32} {J : Nat → Nat → Int64} {past : Nat → Nat} {Q : zRt} {lo hi : zFr} {a b c d : Int64} (ea : a = Int64.ofInt lo.1) (eb : b = Int64.ofInt lo.2) (ec : c = Int64.ofInt hi.1) (ed : d = Int64.ofInt hi.2) (h : ∀ J', mJf J J' → mStr J' lo hi → Q none (zK0, I, J', zR0 past)) : zCalls G k' yX12_wide [.ref 305, .long a, .long b, .long c, .long d] (zK0, I, J, zR0 past) Q := by
  subst ea
  subst eb
  subst ec
  subst ed
  refine rnX12_wide hG hk 305 _ _ _ _ ?_
  refine sgX12_wide hG [] 60 0 ?_
  refine h _ ⟨fun x hx => by rw [z_upJ_ne hx, z_upJ_ne hx, z_upJ_ne hx, z_upJ_ne hx], fun j hj => by rw [uJ_k (by omega), uJ_k (by omega), uJ_k (by omega), uJ_k (by omega)]⟩ ⟨⟨?_, ?_⟩, ?_, ?_⟩
  · rw [uJ_k (by decide), uJ_k (by decide), uJ_k (by decide), uJ_s]
  · rw [uJ_k (by decide), uJ_k (by decide), uJ_s]
  · rw [uJ_k (by decide), uJ_s]
  · rw [uJ_s]
def ntB (lo : zFr) (f : zFr) : zFr := if fLt lo f then fRed f.1 f.2 else lo
def ntA (hi : zFr) (f : zFr) : zFr := if fLt f hi then fRed f.1 f.2 else hi
theorem m_notBelow {G : zG} (hG : zGok G) {k' : Nat} (hk : 3 ≤ k') {I : Nat → Nat → Int32} {J : Nat → Nat → Int64} {past : Nat → Nat} {Q : zRt} {lo hi f : zFr} (hs : mStr J lo hi) {a b : Int64} (ea : a = Int64.ofInt f.1) (eb : b = Int64.ofInt f.2) (bl : fB lo) (bf : fB f) (f0 : f.2 ≠ 0) (h : ∀ J', mJf J J' → mStr J' (ntB lo f) hi → Q none (zK0, I, J', zR0 past)) : zCalls G k' yX12_notBelow [.ref 305, .long a, .long b] (zK0, I, J, zR0 past) Q := by
  have b1 := bf.1
  have b2 := bf.2
  refine rnX12_notBelow hG hk 305 _ _ ?_
  refine sgX12_notBelow hG [] 60 0 ?_
  refine m_isLessI hG (by decide) hs.1.1 hs.1.2 ea eb bl bf ?_
  refine And.intro (fun c => ?_) (fun c => ?_)
  · have c := z_nb1 (x := 0) c
    refine m_setI hG (by decide) ea eb (Nat.lt_of_le_of_lt b1 (by decide)) (Nat.lt_of_le_of_lt b2 (by decide)) f0 (fun J1 f1 g1 e1 e2 => ?_)
    refine h _ ⟨fun x hx => by rw [z_upJ_ne hx, z_upJ_ne hx, f1 x hx], fun j hj => by rw [uJ_k (by omega), uJ_k (by omega), g1 j (by omega) (by omega)]⟩ ?_
    unfold ntB
    rw [if_pos c]
    refine ⟨⟨?_, ?_⟩, ?_, ?_⟩
    · rw [uJ_k (by decide), uJ_s]; exact e1
    · rw [uJ_s, uJ_k (by decide)]; exact e2
    · rw [uJ_k (by decide), uJ_k (by decide), g1 _ (by decide) (by decide)]; exact hs.2.1
    · rw [uJ_k (by decide), uJ_k (by decide), g1 _ (by decide) (by decide)]; exact hs.2.2
  · have c := (zb_eq0 _).mp c
    refine h J mJf_rfl ?_
    unfold ntB
    rw [c]
    exact hs
theorem m_notAbove {G : zG} (hG : zGok G) {k' : Nat} (hk : 3 ≤ k') {I : Nat → Nat → Int32} {J : Nat → Nat → Int64} {past : Nat → Nat} {Q : zRt} {lo hi f : zFr} (hs : mStr J lo hi) {a b : Int64} (ea : a = Int64.ofInt f.1) (eb : b = Int64.ofInt f.2) (bl : fB hi) (bf : fB f) (f0 : f.2 ≠ 0) (h : ∀ J', mJf J J' → mStr J' lo (ntA hi f) → Q none (zK0, I, J', zR0 past)) : zCalls G k' yX12_notAbove [.ref 305, .long a, .long b] (zK0, I, J, zR0 past) Q := by
  have b1 := bf.1
  have b2 := bf.2
  refine rnX12_notAbove hG hk 305 _ _ ?_
  refine sgX12_notAbove hG [] 60 0 ?_
  refine m_isLessI hG (by decide) ea eb hs.2.1 hs.2.2 bf bl ?_
  refine And.intro (fun c => ?_) (fun c => ?_)
  · have c := z_nb1 (x := 0) c
    refine m_setI hG (by decide) ea eb (Nat.lt_of_le_of_lt b1 (by decide)) (Nat.lt_of_le_of_lt b2 (by decide)) f0 (fun J1 f1 g1 e1 e2 => ?_)
    refine h _ ⟨fun x hx => by rw [z_upJ_ne hx, z_upJ_ne hx, f1 x hx], fun j hj => by rw [uJ_k (by omega), uJ_k (by omega), g1 j (by omega) (by omega)]⟩ ?_
    unfold ntA
    rw [if_pos c]
    refine ⟨⟨?_, ?_⟩, ?_, ?_⟩
    · rw [uJ_k (by decide), uJ_k (by decide), g1 _ (by decide) (by decide)]; exact hs.1.1
    · rw [uJ_k (by decide), uJ_k (by decide), g1 _ (by decide) (by decide)]; exact hs.1.2
    · rw [uJ_k (by decide), uJ_s]; exact e1
    · rw [uJ_s, uJ_k (by decide)]; exact e2
  · have c := (zb_eq0 _).mp c
    refine h J mJf_rfl ?_
    unfold ntA
    rw [c]
    exact hs
theorem m_isEmpty {G : zG} (hG : zGok G) {k' : Nat} (hk : 2 ≤ k') {I : Nat → Nat → Int32} {J : Nat → Nat → Int64} {past : Nat → Nat} {Q : zRt} {lo hi : zFr} (hs : mStr J lo hi) (bl : fB lo) (bh : fB hi) (h : Q (some (.int (zb (fLt hi lo)))) (zK0, I, J, zR0 past)) : zCalls G k' yX12_isEmpty [.ref 305] (zK0, I, J, zR0 past) Q := by
  refine rnX12_isEmpty hG hk 305 ?_
  refine sgX12_isEmpty hG [] 60 0 ?_
  refine m_isLessI hG (by decide) hs.2.1 hs.2.2 hs.1.1 hs.1.2 bh bl ?_
  exact And.intro (zb_01 _) h
theorem m_narrow {G : zG} (hG : zGok G) {k' : Nat} (hk : 4 ≤ k') {I : Nat → Nat → Int32} {J : Nat → Nat → Int64} {past : Nat → Nat} {Q : zRt} {lo hi : zFr} (hs : mStr J lo hi) {P R : Int64} {a q : Int} (eP : P = Int64.ofInt a) (eR : R = Int64.ofInt q) (bl : fB lo) (bh : fB hi) (ba : fB (q, a)) (h : ∀ J', mJf J J' → mStr J' (nwL lo a q) (nwH hi a q) → Q (some (.int (zb (decide (a ≠ 0 ∨ 0 ≤ q))))) (zK0, I, J', zR0 past)) : zCalls G k' yX12_narrow [.ref 305, .long P, .long R] (zK0, I, J, zR0 past) Q := by
  subst eP
  subst eR
  have ba1 : q.natAbs ≤ 1000000000 := ba.1
  have ba2 : a.natAbs ≤ 1000000000 := ba.2
  have a0 : Int64.ofInt a ≤ 0 ↔ a ≤ 0 := by rw [Int64.le_iff_toInt_le, lI_T (by omega), Int64.toInt_zero]
  have a1 : 0 ≤ Int64.ofInt a ↔ 0 ≤ a := by rw [Int64.le_iff_toInt_le, lI_T (by omega), Int64.toInt_zero]
  have a2 : Int64.ofInt a = 0 ↔ a = 0 := by rw [z_l_eq, lI_T (by omega), Int64.toInt_zero]
  have q0 : Int64.ofInt q < 0 ↔ q < 0 := by rw [Int64.lt_iff_toInt_lt, lI_T (by omega), Int64.toInt_zero]
  refine rnX12_narrow hG hk 305 _ _ ?_
  refine sgX12_narrow hG [12, 26] 60 0 ?_
  have z26 : ∀ J', mJf J J' → mStr J' (nwL lo a q) (nwH hi a q) → aX12_narrow G Q 26 [some (.ref 305), some (.long (Int64.ofInt a)), none, some (.long (Int64.ofInt q)), none] [] (zK0, I, J', zR0 past) := by
    intro J' hf hm
    have h := h J' hf hm
    refine sgX12_narrow hG [] 60 26 ?_
    refine And.intro (fun c => ?_) (fun c => ?_)
    · rw [a2] at c
      rw [decide_eq_true (Or.inl c)] at h
      exact And.intro (Or.inr rfl) h
    · rw [a2] at c
      refine And.intro (fun d => ?_) (fun d => ?_)
      · rw [q0] at d
        rw [decide_eq_false (fun z => by rcases z with z | z <;> omega)] at h
        exact And.intro (Or.inl rfl) h
      · rw [q0] at d
        rw [decide_eq_true (Or.inr (by omega))] at h
        exact And.intro (Or.inr rfl) h
  have z12 : ∀ J', mJf J J' → mStr J' lo (nwH hi a q) → aX12_narrow G Q 12 [some (.ref 305), some (.long (Int64.ofInt a)), none, some (.long (Int64.ofInt q)), none] [] (zK0, I, J', zR0 past) := by
    intro J' hf hm
    refine sgX12_narrow hG [12, 26] 60 12 ?_
    refine And.intro (fun c => ?_) (fun c => ?_)
    · rw [a1] at c
      refine z26 J' hf ?_
      unfold nwL
      rw [if_neg (fun z => by omega)]
      exact hm
    · rw [a1] at c
      refine m_notBelow hG (by decide) hm (f := (-q, -a)) (by show _ = Int64.ofInt (-q); rw [Int64.ofInt_neg]) (by show _ = Int64.ofInt (-a); rw [Int64.ofInt_neg]) bl ⟨by show (-q).natAbs ≤ _; omega, by show (-a).natAbs ≤ _; omega⟩ (by show -a ≠ 0; omega) (fun J2 f2 s2 => ?_)
      refine z26 J2 (mJf_tr hf f2) ?_
      have e : ntB lo (-q, -a) = nwL lo a q := by
        unfold ntB nwL fLt
        have k : lo.1 * -a < -q * lo.2 ↔ q * lo.2 < lo.1 * a := by rw [Int.mul_neg, Int.neg_mul]; omega
        by_cases c2 : q * lo.2 < lo.1 * a
        · rw [if_pos (decide_eq_true (k.mpr c2)), if_pos ⟨by omega, c2⟩]
          exact fRed_neg (by omega)
        · rw [if_neg (by rw [decide_eq_true_eq]; exact fun z => c2 (k.mp z)), if_neg (fun z => c2 z.2)]
      rw [← e]
      exact s2
  refine And.intro (fun c => ?_) (fun c => ?_)
  · rw [a0] at c
    refine z12 J mJf_rfl ?_
    unfold nwH
    rw [if_neg (fun z => by omega)]
    exact hs
  · rw [a0] at c
    refine m_notAbove hG (by decide) hs (f := (q, a)) rfl rfl bh ba (by show a ≠ 0; omega) (fun J2 f2 s2 => ?_)
    refine z12 J2 f2 ?_
    have e : ntA hi (q, a) = nwH hi a q := by
      unfold ntA nwH fLt
      by_cases c2 : q * hi.2 < hi.1 * a
      · rw [if_pos (decide_eq_true c2), if_pos ⟨by omega, c2⟩]
      · rw [if_neg (by rw [decide_eq_true_eq]; exact c2), if_neg (fun z => c2 z.2)]
    rw [← e]
    exact s2
-- ===== what is kept of a stretch =====
def mSl (I : Nat → Nat → Int32) (J : Nat → Nat → Int64) (s : Nat) (st : zSl) : Prop := I 312 s = zb st.1 ∧ (st.1 = true → (J 313 (2 * s) = Int64.ofInt st.2.1.1 ∧ J 313 (2 * s + 1) = Int64.ofInt st.2.1.2) ∧ J 314 (2 * s) = Int64.ofInt st.2.2.1 ∧ J 314 (2 * s + 1) = Int64.ofInt st.2.2.2)
def mTb (I : Nat → Nat → Int32) (J : Nat → Nat → Int64) (T : Nat → Nat → Nat → zSl) (n : Nat) : Prop := ∀ r w k, w < 2 → k < 7 → 14 * r + 7 * w + k < n → mSl I J (14 * r + 7 * w + k) (T r w k)
theorem m_sliceAt {G : zG} (hG : zGok G) {k' : Nat} (hk : 1 ≤ k') {σ : zSt} {Q : zRt} (r w k : Nat) {R W K : Int32} (eR : R = nI r) (eW : W = nI w) (eK : K = nI k) (h : Q (some (.int (nI (14 * r + 7 * w + k)))) σ) : zCalls G k' yX12_sliceAt [.int R, .int W, .int K] σ Q := by
  subst eR
  subst eW
  subst eK
  have e : (7 : Int32) * (2 * nI r + nI w) + nI k = nI (14 * r + 7 * w + k) := by
    rw [show (2 : Int32) = nI 2 from rfl, show (7 : Int32) = nI 7 from rfl, pk_mul, nI_add, pk_mul, nI_add]; congr 1; omega
  refine rnX12_sliceAt hG hk _ _ _ ?_
  refine sgX12_sliceAt hG [] 60 0 ?_
  rw [← e] at h
  exact h
theorem m_keepSlice {G : zG} (hG : zGok G) {k' : Nat} (hk : 1 ≤ k') {I : Nat → Nat → Int32} {J : Nat → Nat → Int64} {past : Nat → Nat} {Q : zRt} {lo hi : zFr} (hs : mStr J lo hi) {s : Nat} (h42 : s < 42) (b : Bool) {S B : Int32} (eS : S = nI s) (eB : B = zb b) (h : ∀ I' J', (∀ x, x ≠ 312 → I' x = I x) → (∀ j, j ≠ s → I' 312 j = I 312 j) → (∀ x, x ≠ 313 → x ≠ 314 → J' x = J x) → (∀ j, j ≠ 2 * s → j ≠ 2 * s + 1 → J' 313 j = J 313 j ∧ J' 314 j = J 314 j) → mSl I' J' s (b, lo, hi) → Q none (zK0, I', J', zR0 past)) : zCalls G k' yX12_keepSlice [.ref 305, .int S, .int B] (zK0, I, J, zR0 past) Q := by
  subst eS
  subst eB
  have i1 : (2 : Int32) * nI s = nI (2 * s) := by rw [show (2 : Int32) = nI 2 from rfl, pk_mul]
  have i2 : (2 : Int32) * nI s + 1 = nI (2 * s + 1) := by rw [i1, nI_1]
  have n0 : (nI s).toNatClampNeg = s := nI_clamp (by omega)
  have n1 : ((2 : Int32) * nI s).toNatClampNeg = 2 * s := by rw [i1, nI_clamp (by omega)]
  have n2 : ((2 : Int32) * nI s + 1).toNatClampNeg = 2 * s + 1 := by rw [i2, nI_clamp (by omega)]
  have v0 : vp_in (nI s) 42 := by exact vp_in_nI (by omega) (by omega)
  have v1 : vp_in ((2 : Int32) * nI s) 84 := by rw [i1]; exact vp_in_nI (by omega) (by omega)
  have v2 : vp_in ((2 : Int32) * nI s + 1) 84 := by rw [i2]; exact vp_in_nI (by omega) (by omega)
  refine rnX12_keepSlice hG hk 305 _ _ ?_
  refine sgX12_keepSlice hG [] 100 0 ?_
  refine And.intro v0 ?_
  have fin : ∀ (a1 a2 a3 a4 : Int64), (b = true → (a1 = Int64.ofInt lo.1 ∧ a2 = Int64.ofInt lo.2) ∧ a3 = Int64.ofInt hi.1 ∧ a4 = Int64.ofInt hi.2) → Q none (zK0, z_upI I 312 (nI s).toNatClampNeg (vp_nar .boolean (zb b)), z_upJ (z_upJ (z_upJ (z_upJ J 313 ((2 : Int32) * nI s).toNatClampNeg a1) 313 ((2 : Int32) * nI s + 1).toNatClampNeg a2) 314 ((2 : Int32) * nI s).toNatClampNeg a3) 314 ((2 : Int32) * nI s + 1).toNatClampNeg a4, zR0 past) := by
    intro a1 a2 a3 a4 ha
    rw [n0, n1, n2]
    refine h _ _ (fun x hx => z_upI_ne hx) (fun j hj => uI_k hj) (fun x hx hy => by rw [z_upJ_ne hy, z_upJ_ne hy, z_upJ_ne hx, z_upJ_ne hx]) (fun j hj hk => ⟨by rw [uJ_p (by decide), uJ_p (by decide), uJ_k hk, uJ_k hj], by rw [uJ_k hk, uJ_k hj, uJ_p (by decide), uJ_p (by decide)]⟩) ⟨?_, fun c => ?_⟩
    · rw [uI_s]
      show vp_nar .boolean (zb b) = zb b
      cases b <;> decide
    · obtain ⟨⟨e1, e2⟩, e3, e4⟩ := ha c
      refine ⟨⟨?_, ?_⟩, ?_, ?_⟩
      · rw [uJ_p (by decide), uJ_p (by decide), uJ_k (by omega), uJ_s]; exact e1
      · rw [uJ_p (by decide), uJ_p (by decide), uJ_s]; exact e2
      · rw [uJ_k (by omega), uJ_s]; exact e3
      · rw [uJ_s]; exact e4
  cases b with
  | false =>
    refine And.intro (fun _ => ?_) (fun c => absurd rfl c)
    refine And.intro v1 ?_
    refine And.intro (fun _ => ?_) (fun c => absurd rfl c)
    refine And.intro v2 ?_
    refine And.intro (fun _ => ?_) (fun c => absurd rfl c)
    refine And.intro v1 ?_
    refine And.intro (fun _ => ?_) (fun c => absurd rfl c)
    refine And.intro v2 ?_
    exact fin 0 1 0 1 (fun c => by simp at c)
  | true =>
    refine And.intro (fun c => absurd c (by decide)) (fun _ => ?_)
    refine And.intro v1 ?_
    refine And.intro (fun c => absurd c (by decide)) (fun _ => ?_)
    refine And.intro v2 ?_
    refine And.intro (fun c => absurd c (by decide)) (fun _ => ?_)
    refine And.intro v1 ?_
    refine And.intro (fun c => absurd c (by decide)) (fun _ => ?_)
    refine And.intro v2 ?_
    refine fin _ _ _ _ (fun _ => ⟨⟨hs.1.1, ?_⟩, ?_, ?_⟩)
    · rw [uJ_p (by decide)]; exact hs.1.2
    · rw [uJ_p (by decide), uJ_p (by decide)]; exact hs.2.1
    · rw [uJ_p (by decide), uJ_p (by decide), uJ_p (by decide)]; exact hs.2.2
