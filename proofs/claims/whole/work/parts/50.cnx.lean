-- ===== the class: stretches that meet and join =====
def cAcc (I : Nat → Nat → Int32) (J : Nat → Nat → Int64) (p l u : Nat) (st : zSl) : Prop := I p 0 = zb (!st.1) ∧ (st.1 = true → cFx J l st.2.1 ∧ cFx J u st.2.2)
theorem cAcc_fr {I I1 : Nat → Nat → Int32} {J J1 : Nat → Nat → Int64} {p l u : Nat} {st : zSl} (h : cAcc I J p l u st) (h1 : I1 p = I p) (h2 : J1 l = J l) (h3 : J1 u = J u) : cAcc I1 J1 p l u st := ⟨by rw [h1]; exact h.1, fun c => ⟨cFx_fr (h.2 c).1 h2, cFx_fr (h.2 c).2 h3⟩⟩
theorem cAcc_T {I : Nat → Nat → Int32} {J : Nat → Nat → Int64} {past : Nat → Nat} {s p l u : Nat} {st : zSl} (hf : slF past s p l u) : cAcc I J p l u st ↔ cSlT I J s st := by
  obtain ⟨⟨rfl, rfl, rfl⟩, _⟩ := hf
  exact Iff.rfl
theorem c_meet {G : zG} (hG : zGok G) {k' : Nat} (hk : 2 ≤ k') {I : Nat → Nat → Int32} {J : Nat → Nat → Int64} {past : Nat → Nat} {Q : zRt} {s p l u s2 p2 l2 u2 : Nat} (hf : slF past s p l u) (hf2 : slF past s2 p2 l2 u2) (hne : s ≠ s2) {a b c d : zFr} (ha : cFx J l a) (hb : cFx J u b) (hc : cFx J l2 c) (hd : cFx J u2 d) (ba : fB a) (bb : fB b) (bc : fB c) (bd : fB d) (h : ∀ J', (∀ x, x ≠ l → x ≠ u → J' x = J x) → cFx J' l (if fLt a c then c else a) → cFx J' u (if fLt d b then d else b) → Q none (zK0, I, J', zR0 past)) : zCalls G k' yX9_meet [.ref p, .ref p2] (zK0, I, J, zR0 past) Q := by
  obtain ⟨⟨ep, el, eu⟩, p9, r1, r2, l6, u6⟩ := hf
  obtain ⟨⟨ep', el', eu'⟩, p9', r1', r2', l6', u6'⟩ := hf2
  have z25 : ∀ J1, (∀ x, x ≠ l → J1 x = J x) → cFx J1 l (if fLt a c then c else a) → aX9_meet G Q 25 [some (.ref p), some (.ref p2)] [] (zK0, I, J1, zR0 past) := by
    intro J1 f1 q1
    refine sgX9_meet hG [25] 60 25 ?_
    refine zB_in p9' (op_in r2' ?_)
    refine zB_in p9 (op_in r2 ?_)
    refine zB_in u6' ?_
    refine c_isBelowI hG (by decide) u2 u u6' u6 (cFx_fr hd (f1 u2 (by omega))) (cFx_fr hb (f1 u (by omega))) bd bb ?_
    refine And.intro (fun e => ?_) (fun e => ?_)
    · have e := (zb_eq0 _).mp e
      refine h J1 (fun x x1 _ => f1 x x1) q1 ?_
      rw [e]; exact cFx_fr hb (f1 u (by omega))
    · have e := z_nb1 (x := 0) e
      refine zB_in p9 (op_in r2 ?_)
      refine zB_in p9' (op_in r2' ?_)
      refine zB_in u6 ?_
      refine c_rcopyI hG (by decide) u u2 u6 u6' (by omega) (cFx_fr hd (f1 u2 (by omega))) (fun J2 f2 q2 => ?_)
      refine h J2 (fun x x1 x2 => (f2 x x2).trans (f1 x x1)) (cFx_fr q1 (f2 l (by omega))) ?_
      rw [e]; exact q2
  refine rnX9_meet hG hk p p2 ?_
  refine sgX9_meet hG [25] 60 0 ?_
  refine zB_in p9 (op_in r1 ?_)
  refine zB_in p9' (op_in r1' ?_)
  refine zB_in l6 ?_
  refine c_isBelowI hG (by decide) l l2 l6 l6' ha hc ba bc ?_
  refine And.intro (fun e => ?_) (fun e => ?_)
  · have e := (zb_eq0 _).mp e
    refine z25 J (fun _ _ => rfl) ?_
    rw [e]; exact ha
  · have e := z_nb1 (x := 0) e
    refine zB_in p9 (op_in r1 ?_)
    refine zB_in p9' (op_in r1' ?_)
    refine zB_in l6 ?_
    refine c_rcopyI hG (by decide) l l2 l6 l6' (by omega) hc (fun J2 f2 q2 => ?_)
    refine z25 J2 f2 ?_
    rw [e]; exact q2
theorem c_join {G : zG} (hG : zGok G) {k' : Nat} (hk : 2 ≤ k') {I : Nat → Nat → Int32} {J : Nat → Nat → Int64} {past : Nat → Nat} {Q : zRt} {s p l u : Nat} (hf : slF past s p l u) {acc : zSl} (hs : cAcc I J p l u acc) (a b : Nat) (a6 : Nat.beq (zKd zK0 a).1 6 = true) (b6 : Nat.beq (zKd zK0 b).1 6 = true) (ha : a < 135) (hb : b < 135) {f g : zFr} (qa : cFx J a f) (qb : cFx J b g) (hA : acc.1 = true → fB acc.2.1 ∧ fB acc.2.2) (bf : fB f) (bg : fB g) (nl : fLt g f = false) (h : ∀ I' J', (∀ x, x ≠ p → I' x = I x) → (∀ x, x ≠ l → x ≠ u → J' x = J x) → cAcc I' J' p l u (jn acc (true, f, g)) → Q none (zK0, I', J', zR0 past)) : zCalls G k' yX9_join [.ref p, .ref a, .ref b] (zK0, I, J, zR0 past) Q := by
  obtain ⟨⟨ep, el, eu⟩, p9, r1, r2, l6, u6⟩ := hf
  have ej : jn acc (true, f, g) = (true, (if !acc.1 || fLt f acc.2.1 then f else acc.2.1), if !acc.1 || fLt acc.2.2 g then g else acc.2.2) := by unfold jn; rw [nl]; rfl
  rw [ej] at h
  have z52 : ∀ J1, (∀ x, x ≠ l → x ≠ u → J1 x = J x) → cFx J1 l (if !acc.1 || fLt f acc.2.1 then f else acc.2.1) → cFx J1 u (if !acc.1 || fLt acc.2.2 g then g else acc.2.2) → aX9_join G Q 52 [some (.ref p), some (.ref a), some (.ref b)] [] (zK0, I, J1, zR0 past) := by
    intro J1 f1 q1 q2
    refine sgX9_join hG [18, 26, 44, 52] 60 52 ?_
    refine zB_in p9 (And.intro (Or.inl rfl) ?_)
    exact h _ J1 (fun x hx => z_upI_ne hx) f1 ⟨uI_s, fun _ => ⟨q1, q2⟩⟩
  have z44 : ∀ J1, (∀ x, x ≠ l → J1 x = J x) → cFx J1 l (if !acc.1 || fLt f acc.2.1 then f else acc.2.1) → (!acc.1 || fLt acc.2.2 g) = true → aX9_join G Q 44 [some (.ref p), some (.ref a), some (.ref b)] [] (zK0, I, J1, zR0 past) := by
    intro J1 f1 q1 e
    refine sgX9_join hG [18, 26, 44, 52] 60 44 ?_
    refine zB_in p9 (op_in r2 ?_)
    refine zB_in u6 ?_
    refine c_rcopyI hG (by decide) u b u6 b6 (by omega) (cFx_fr qb (f1 b (by omega))) (fun J2 f2 q2 => ?_)
    refine z52 J2 (fun x x1 x2 => (f2 x x2).trans (f1 x x1)) (cFx_fr q1 (f2 l (by omega))) ?_
    rw [e]; exact q2
  have z26 : ∀ J1, (∀ x, x ≠ l → J1 x = J x) → cFx J1 l (if !acc.1 || fLt f acc.2.1 then f else acc.2.1) → aX9_join G Q 26 [some (.ref p), some (.ref a), some (.ref b)] [] (zK0, I, J1, zR0 past) := by
    intro J1 f1 q1
    refine sgX9_join hG [18, 26, 44, 52] 60 26 ?_
    refine zB_in p9 ?_
    refine And.intro (fun c => ?_) (fun c => ?_)
    · rw [hs.1] at c
      have c := z_nb1 (x := 0) c
      exact z44 J1 f1 q1 (by rw [c]; rfl)
    · rw [hs.1] at c
      have c := (zb_eq0 _).mp c
      have c1 : acc.1 = true := by rw [Bool.not_eq_false'] at c; exact c
      refine zB_in p9 (op_in r2 ?_)
      refine zB_in u6 ?_
      have qu := cFx_fr (hs.2 c1).2 (f1 u (by omega))
      refine c_isBelowI hG (by decide) u b u6 b6 qu (cFx_fr qb (f1 b (by omega))) (hA c1).2 bg ?_
      refine And.intro (fun e => ?_) (fun e => ?_)
      · have e := (zb_eq0 _).mp e
        refine z52 J1 (fun x x1 _ => f1 x x1) q1 ?_
        rw [c, e]; exact qu
      · have e := z_nb1 (x := 0) e
        exact z44 J1 f1 q1 (by rw [c, e]; rfl)
  have z18 : (!acc.1 || fLt f acc.2.1) = true → aX9_join G Q 18 [some (.ref p), some (.ref a), some (.ref b)] [] (zK0, I, J, zR0 past) := by
    intro e
    refine sgX9_join hG [18, 26, 44, 52] 60 18 ?_
    refine zB_in p9 (op_in r1 ?_)
    refine zB_in l6 ?_
    refine c_rcopyI hG (by decide) l a l6 a6 (by omega) qa (fun J2 f2 q2 => ?_)
    refine z26 J2 f2 ?_
    rw [e]; exact q2
  refine rnX9_join hG hk p a b ?_
  refine sgX9_join hG [18, 26, 44, 52] 60 0 ?_
  refine zB_in p9 ?_
  refine And.intro (fun c => ?_) (fun c => ?_)
  · rw [hs.1] at c
    have c := z_nb1 (x := 0) c
    exact z18 (by rw [c]; rfl)
  · rw [hs.1] at c
    have c := (zb_eq0 _).mp c
    have c1 : acc.1 = true := by rw [Bool.not_eq_false'] at c; exact c
    refine zB_in p9 (op_in r1 ?_)
    refine zB_in a6 ?_
    refine c_isBelowI hG (by decide) a l a6 l6 qa (hs.2 c1).1 bf (hA c1).1 ?_
    refine And.intro (fun e => ?_) (fun e => ?_)
    · have e := (zb_eq0 _).mp e
      refine z26 J (fun _ _ => rfl) ?_
      rw [c, e]; exact (hs.2 c1).1
    · have e := z_nb1 (x := 0) e
      exact z18 (by rw [c, e]; rfl)
theorem c_contains {G : zG} (hG : zGok G) {k' : Nat} (hk : 1 ≤ k') {I : Nat → Nat → Int32} {J : Nat → Nat → Int64} {past : Nat → Nat} {Q : zRt} {s p l u : Nat} (hf : slF past s p l u) {st : zSl} (hs : cAcc I J p l u st) {x d : Int} {X D : Int64} (eX : X = Int64.ofInt x) (eD : D = Int64.ofInt d) (bs : st.1 = true → fB st.2.1 ∧ fB st.2.2) (bx : fB (x, d)) (h : Q (some (.int (zb (st.1 && (!fLt (x, d) st.2.1 && !fLt st.2.2 (x, d)))))) (zK0, I, J, zR0 past)) : zCalls G k' yX9_contains [.ref p, .long X, .long D] (zK0, I, J, zR0 past) Q := by
  obtain ⟨⟨ep, el, eu⟩, p9, r1, r2, l6, u6⟩ := hf
  subst eX
  subst eD
  refine rnX9_contains hG hk p _ _ ?_
  refine sgX9_contains hG [] 60 0 ?_
  refine zB_in p9 ?_
  refine And.intro (fun c => ?_) (fun c => ?_)
  · rw [hs.1] at c
    have c := z_nb1 (x := 0) c
    rw [Bool.not_eq_true'] at c
    rw [c] at h
    exact And.intro (Or.inl rfl) h
  · rw [hs.1] at c
    have c := (zb_eq0 _).mp c
    have c1 : st.1 = true := by rw [Bool.not_eq_false'] at c; exact c
    rw [c1] at h
    obtain ⟨ql, qu⟩ := hs.2 c1
    obtain ⟨b1, b2⟩ := bs c1
    have e1 := fLt_I bx b1
    have e2 := fLt_I b2 bx
    rw [← ql.1, ← ql.2] at e1
    rw [← qu.1, ← qu.2] at e2
    refine zB_in p9 (op_in r1 ?_)
    refine zB_in l6 ?_
    refine zB_in p9 (op_in r1 ?_)
    refine zB_in l6 ?_
    refine And.intro (fun e => ?_) (fun e => ?_)
    · rw [e1.mp e] at h
      exact And.intro (Or.inl rfl) h
    · have e : fLt (x, d) st.2.1 = false := Bool.eq_false_iff.mpr (fun q => e (e1.mpr q))
      rw [e] at h
      refine zB_in p9 (op_in r2 ?_)
      refine zB_in u6 ?_
      refine zB_in p9 (op_in r2 ?_)
      refine zB_in u6 ?_
      refine And.intro (fun e3 => ?_) (fun e3 => ?_)
      · rw [e2.mp e3] at h
        exact And.intro (Or.inl rfl) h
      · have e3 : fLt st.2.2 (x, d) = false := Bool.eq_false_iff.mpr (fun q => e3 (e2.mpr q))
        rw [e3] at h
        exact And.intro (Or.inr rfl) h
-- ===== the class: narrow() =====
theorem bwG_eq {s m k : Int} {f g : zFr} {st : zSl} : bwG s f g m k st = nw st (s * (g.1 - k * g.2) * f.2 - s * (f.1 - k * f.2) * g.2) ((s * (g.1 - k * g.2) * f.2 - s * (f.1 - k * f.2) * g.2) * m - s * (f.1 - k * f.2) * g.2) := by
  have e1 : s * (g.1 - k * g.2) * f.2 - s * (f.1 - k * f.2) * g.2 = s * bwS f g := by unfold bwS; grind
  have e2 : s * bwS f g * m - s * (f.1 - k * f.2) * g.2 = s * bwR f g m k := by unfold bwR; grind
  rw [e1, e2]; rfl
theorem fRed_s {s a b : Int} (hs : s = 1 ∨ s = -1) (hb : b ≠ 0) : fRed (s * a) (s * b) = fRed a b := by
  rcases hs with rfl | rfl
  · rw [Int.one_mul, Int.one_mul]
  · rw [show (-1 : Int) * a = -a by omega, show (-1 : Int) * b = -b by omega]; exact fRed_neg hb
theorem c_narrow7 {G : zG} (hG : zGok G) {k' : Nat} (hk : 4 ≤ k') {I : Nat → Nat → Int32} {J : Nat → Nat → Int64} {past : Nat → Nat} {Q : zRt} (a b : Nat) (a6 : Nat.beq (zKd zK0 a).1 6 = true) (b6 : Nat.beq (zKd zK0 b).1 6 = true) (ha : 135 ≤ a) (hb : 135 ≤ b) {f g lo hi : zFr} (qa : cFx J a f) (qb : cFx J b g) (ql : cFx J 132 lo) (qh : cFx J 133 hi) {s : Int} (hs : s = 1 ∨ s = -1) {m k : Nat} (hm : m ≤ 6) (hk6 : k ≤ 6) {S M K : Int32} (eS : S = Int32.ofInt s) (eM : M = nI m) (eK : K = nI k) (wf : fW 300 f) (wg : fW 300 g) (hi0 : bwI 1080000 m (true, lo, hi)) (h : ∀ (b : Bool) J', (∀ x, x ≠ 132 → x ≠ 133 → x ≠ 134 → J' x = J x) → (b = true → (bwG s f g m k (true, lo, hi)).1 = true ∧ cFx J' 132 (bwG s f g m k (true, lo, hi)).2.1 ∧ cFx J' 133 (bwG s f g m k (true, lo, hi)).2.2) → (b = false → fD (bwG s f g m k (true, lo, hi))) → Q (some (.int (zb b))) (zK0, I, J', zR0 past)) : zCalls G k' yX7_narrow [.ref 130, .ref a, .ref b, .int S, .int M, .int K] (zK0, I, J, zR0 past) Q := by
  subst eS
  subst eM
  subst eK
  obtain ⟨f2, fb1, fb2⟩ := fW_p wf
  obtain ⟨g2, gb1, gb2⟩ := fW_p wg
  obtain ⟨bl, bh⟩ := bwI_B (by decide) hi0
  obtain ⟨⟨rl, rh⟩, _, ⟨ml, mh⟩, _⟩ := hi0
  have ml : (m : Int) * lo.2 ≤ lo.1 := ml
  have mh : hi.1 ≤ ((m : Int) + 1) * hi.2 := mh
  have rl : isR lo := rl
  have rh : isR hi := rh
  have bS := bwS_bd wf wg
  have bR := bwR_bd wf wg (m := m) (k := k) (by omega) (by omega)
  have sS : (Int32.ofInt s).toInt64 = Int64.ofInt s := iI_l (by omega)
  have sM : (nI m).toInt64 = Int64.ofInt m := by rw [nI_I]; exact iI_l (by omega)
  have sK : (nI k).toInt64 = Int64.ofInt k := by rw [nI_I]; exact iI_l (by omega)
  have hA : (Int32.ofInt s).toInt64 * (J a 0 - (nI k).toInt64 * J a 1) = Int64.ofInt (s * (f.1 - k * f.2)) := by
    rw [sS, sK, qa.1, qa.2, Int64.ofInt_mul, Int64.ofInt_sub, Int64.ofInt_mul]
  have hC : (Int32.ofInt s).toInt64 * (J b 0 - (nI k).toInt64 * J b 1) = Int64.ofInt (s * (g.1 - k * g.2)) := by
    rw [sS, sK, qb.1, qb.2, Int64.ofInt_mul, Int64.ofInt_sub, Int64.ofInt_mul]
  have hsb : s.natAbs ≤ 1 := by omega
  have bA := bd_mul hsb (bd_sub fb1 (bd_mul (show ((k : Nat) : Int).natAbs ≤ 6 by omega) fb2))
  have bC := bd_mul hsb (bd_sub gb1 (bd_mul (show ((k : Nat) : Int).natAbs ≤ 6 by omega) gb2))
  have cA : (0 : Int64) < (Int32.ofInt s).toInt64 * (J a 0 - (nI k).toInt64 * J a 1) ↔ 0 < s * (f.1 - k * f.2) := by
    rw [hA, Int64.lt_iff_toInt_lt, lI_T (by omega), Int64.toInt_zero]
  have cC : (0 : Int64) < (Int32.ofInt s).toInt64 * (J b 0 - (nI k).toInt64 * J b 1) ↔ 0 < s * (g.1 - k * g.2) := by
    rw [hC, Int64.lt_iff_toInt_lt, lI_T (by omega), Int64.toInt_zero]
  have eG := @bwG_eq s m k f g (true, lo, hi)
  have eSs : s * (g.1 - k * g.2) * f.2 - s * (f.1 - k * f.2) * g.2 = s * bwS f g := by unfold bwS; grind
  have eRs : s * bwS f g * m - s * (f.1 - k * f.2) * g.2 = s * bwR f g m k := by unfold bwR; grind
  have bX : bwS f g ≠ 0 → fB (fRed (bwR f g m k) (bwS f g)) := by
    intro n
    have := fRed_bd (a := bwR f g m k) n
    exact ⟨by omega, by omega⟩
  have z66 : ∀ v6 v7 : Int32, bwS f g ≠ 0 → (∀ D J1, (∀ x, x ≠ 134 → J1 x = J x) → cFx J1 134 (fRed (bwR f g m k) (bwS f g)) → aX7_narrow G Q 121 [some (.ref 130), some (.ref a), some (.ref b), some (.int (Int32.ofInt s)), some (.int (nI m)), some (.int (nI k)), some (.int v6), some (.int v7), some (.long D), none] [] (zK0, I, J1, zR0 past)) → aX7_narrow G Q 66 [some (.ref 130), some (.ref a), some (.ref b), some (.int (Int32.ofInt s)), some (.int (nI m)), some (.int (nI k)), some (.int v6), some (.int v7), none, none] [] (zK0, I, J, zR0 past) := by
    intro v6 v7 n0 h
    have eD : J b 0 * J a 1 - J a 0 * J b 1 = Int64.ofInt (bwS f g) := by
      unfold bwS
      rw [qa.1, qa.2, qb.1, qb.2, Int64.ofInt_sub, Int64.ofInt_mul, Int64.ofInt_mul]
    have eN : (nI m).toInt64 * (J b 0 * J a 1 - J a 0 * J b 1) + ((nI k).toInt64 * J a 1 - J a 0) * J b 1 = Int64.ofInt (bwR f g m k) := by
      rw [eD, sM, sK, qa.1, qa.2, qb.2, ← Int64.ofInt_mul, ← Int64.ofInt_mul, ← Int64.ofInt_sub, ← Int64.ofInt_mul, ← Int64.ofInt_add]
      congr 1
      unfold bwR
      grind
    refine sgX7_narrow hG [66, 121, 151, 181] 60 66 ?_
    refine zB_in b6 ?_
    refine zB_in a6 ?_
    refine zB_in a6 ?_
    refine zB_in b6 ?_
    refine zB_in a6 ?_
    refine zB_in a6 ?_
    refine zB_in b6 ?_
    refine c_putI hG (by decide) 134 rfl eN eD (by omega) (by omega) n0 (fun J1 f1 q1 => ?_)
    exact h _ J1 f1 q1
  have z181 : ∀ (v6 v7 : Int32) D J1, (∀ x, x ≠ 132 → x ≠ 133 → x ≠ 134 → J1 x = J x) → ((bwG s f g m k (true, lo, hi)).1 = true ∧ cFx J1 132 (bwG s f g m k (true, lo, hi)).2.1 ∧ cFx J1 133 (bwG s f g m k (true, lo, hi)).2.2) → aX7_narrow G Q 181 [some (.ref 130), some (.ref a), some (.ref b), some (.int (Int32.ofInt s)), some (.int (nI m)), some (.int (nI k)), some (.int v6), some (.int v7), some (.long D), none] [] (zK0, I, J1, zR0 past) := by
    intro v6 v7 D J1 f1 q1
    refine sgX7_narrow hG [66, 121, 151, 181] 60 181 ?_
    exact And.intro (Or.inr rfl) (h true J1 f1 (fun _ => q1) (fun c => by simp at c))
  have pBoth : ¬ 0 < s * (f.1 - k * f.2) → ¬ 0 < s * (g.1 - k * g.2) → Q (some (.int (zb true))) (zK0, I, J, zR0 past) := by
    intro c d
    refine h true J (fun _ _ _ _ => rfl) (fun _ => ?_) (fun c => by simp at c)
    rw [eG, bw_both f2 g2 rl.1 rh.1 ml mh (by omega) (by omega)]
    exact ⟨rfl, ql, qh⟩
  have pNone : 0 < s * (f.1 - k * f.2) → 0 < s * (g.1 - k * g.2) → Q (some (.int (zb false))) (zK0, I, J, zR0 past) := by
    intro c d
    refine h false J (fun _ _ _ _ => rfl) (fun c => by simp at c) (fun _ => ?_)
    rw [eG]
    exact bw_none f2 g2 rl.1 rh.1 ml mh c d
  have p10 : ¬ 0 < s * (f.1 - k * f.2) → 0 < s * (g.1 - k * g.2) → aX7_narrow G Q 66 [some (.ref 130), some (.ref a), some (.ref b), some (.int (Int32.ofInt s)), some (.int (nI m)), some (.int (nI k)), some (.int 1), some (.int 0), none, none] [] (zK0, I, J, zR0 past) := by
    intro c d
    obtain ⟨k1, k2⟩ := bw_fst (R := (s * (g.1 - k * g.2) * f.2 - s * (f.1 - k * f.2) * g.2) * m - s * (f.1 - k * f.2) * g.2) (lo := lo) (hi := hi) f2 g2 (Int.not_lt.mp c) d
    rw [← eG, eSs, eRs] at k2
    rw [eSs] at k1
    have n0 : bwS f g ≠ 0 := fun q => by rw [q] at k1; omega
    rw [fRed_s hs n0] at k2
    refine z66 1 0 n0 (fun D J1 f1 q1 => ?_)
    have ql1 := cFx_fr ql (f1 132 (by decide))
    have qh1 := cFx_fr qh (f1 133 (by decide))
    have z151 : ∀ J2, (∀ x, x ≠ 133 → J2 x = J1 x) → cFx J2 133 (if fLt (fRed (bwR f g m k) (bwS f g)) hi then fRed (bwR f g m k) (bwS f g) else hi) → aX7_narrow G Q 151 [some (.ref 130), some (.ref a), some (.ref b), some (.int (Int32.ofInt s)), some (.int (nI m)), some (.int (nI k)), some (.int 1), some (.int 0), some (.long D), none] [] (zK0, I, J2, zR0 past) := by
      intro J2 f2 q2
      refine sgX7_narrow hG [66, 121, 151, 181] 60 151 ?_
      refine And.intro (fun _ => ?_) (fun c => absurd rfl c)
      refine z181 1 0 D J2 (fun x x1 x2 x3 => (f2 x x2).trans (f1 x x3)) ?_
      rw [k2]
      exact ⟨rfl, cFx_fr ql1 (f2 132 (by decide)), q2⟩
    refine sgX7_narrow hG [66, 121, 151, 181] 60 121 ?_
    refine And.intro (fun c => absurd c (by decide)) (fun _ => ?_)
    refine c_isBelowI hG (by decide) 134 133 rfl rfl q1 qh1 (bX n0) bh ?_
    refine And.intro (fun e => ?_) (fun e => ?_)
    · have e := (zb_eq0 _).mp e
      refine z151 J1 (fun _ _ => rfl) ?_
      rw [e]; exact qh1
    · have e := z_nb1 (x := 0) e
      refine c_rcopyI hG (by decide) 133 134 rfl rfl (by decide) q1 (fun J2 f2 q2 => ?_)
      refine z151 J2 f2 ?_
      rw [e]; exact q2
  have p01 : 0 < s * (f.1 - k * f.2) → ¬ 0 < s * (g.1 - k * g.2) → aX7_narrow G Q 66 [some (.ref 130), some (.ref a), some (.ref b), some (.int (Int32.ofInt s)), some (.int (nI m)), some (.int (nI k)), some (.int 0), some (.int 1), none, none] [] (zK0, I, J, zR0 past) := by
    intro c d
    obtain ⟨k1, k2⟩ := bw_snd (R := (s * (g.1 - k * g.2) * f.2 - s * (f.1 - k * f.2) * g.2) * m - s * (f.1 - k * f.2) * g.2) (lo := lo) (hi := hi) f2 g2 c (Int.not_lt.mp d)
    rw [← eG, eSs, eRs] at k2
    rw [eSs] at k1
    have n0 : bwS f g ≠ 0 := fun q => by rw [q] at k1; omega
    rw [fRed_s hs n0] at k2
    refine z66 0 1 n0 (fun D J1 f1 q1 => ?_)
    have ql1 := cFx_fr ql (f1 132 (by decide))
    have qh1 := cFx_fr qh (f1 133 (by decide))
    refine sgX7_narrow hG [66, 121, 151, 181] 60 121 ?_
    refine And.intro (fun _ => ?_) (fun c => absurd rfl c)
    refine sgX7_narrow hG [66, 121, 151, 181] 60 151 ?_
    refine And.intro (fun c => absurd c (by decide)) (fun _ => ?_)
    refine c_isBelowI hG (by decide) 132 134 rfl rfl ql1 q1 bl (bX n0) ?_
    refine And.intro (fun e => ?_) (fun e => ?_)
    · have e := (zb_eq0 _).mp e
      refine z181 0 1 D J1 (fun x x1 x2 x3 => f1 x x3) ?_
      rw [k2, e]
      exact ⟨rfl, ql1, qh1⟩
    · have e := z_nb1 (x := 0) e
      refine c_rcopyI hG (by decide) 132 134 rfl rfl (by decide) q1 (fun J2 f2 q2 => ?_)
      refine z181 0 1 D J2 (fun x x1 x2 x3 => (f2 x x1).trans (f1 x x3)) ?_
      rw [k2, e]
      exact ⟨rfl, q2, cFx_fr qh1 (f2 133 (by decide))⟩
  refine rnX7_narrow hG hk 130 a b _ _ _ ?_
  refine sgX7_narrow hG [66, 121, 151, 181] 60 0 ?_
  refine zB_in a6 ?_
  refine zB_in a6 ?_
  refine And.intro (fun c => ?_) (fun c => ?_)
  · have c := cA.mp c
    refine zB_in b6 ?_
    refine zB_in b6 ?_
    refine And.intro (fun d => ?_) (fun d => ?_)
    · have d := cC.mp d
      refine And.intro (fun z => absurd rfl z) (fun _ => ?_)
      exact And.intro (Or.inl rfl) (pNone c d)
    · have d : ¬ 0 < s * (g.1 - k * g.2) := fun q => d (cC.mpr q)
      refine And.intro (fun _ => ?_) (fun z => absurd z (by decide))
      exact p01 c d
  · have c : ¬ 0 < s * (f.1 - k * f.2) := fun q => c (cA.mpr q)
    refine zB_in b6 ?_
    refine zB_in b6 ?_
    refine And.intro (fun d => ?_) (fun d => ?_)
    · have d := cC.mp d
      refine And.intro (fun _ => ?_) (fun z => absurd z (by decide))
      exact p10 c d
    · have d : ¬ 0 < s * (g.1 - k * g.2) := fun q => d (cC.mpr q)
      refine And.intro (fun z => absurd rfl z) (fun _ => ?_)
      exact And.intro (Or.inr rfl) (pBoth c d)
