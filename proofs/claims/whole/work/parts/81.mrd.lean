-- ===== reading a text (model) =====
theorem b255 : ∀ n, n < 256 → (nI n).toInt8.toInt32 &&& 255 = nI n := by decide +kernel
theorem b127 : ∀ n, n < 128 → (nI n).toInt8.toInt32 = nI n := by decide +kernel
/-- a text that can be: bytes -/
def tOk (tn : Nat) (tf : Nat → Int32) : Prop := tn ≤ 80 ∧ ∀ j, j < tn → ∃ n, n < 256 ∧ tf j = nI n
def mTx (I : Nat → Nat → Int32) (tn : Nat) (tf : Nat → Int32) : Prop := I 305 8 = nI tn ∧ ∀ j, j < tn → I 307 j = (tf j).toInt8.toInt32
def mAt (I : Nat → Nat → Int32) (s : Nat × Option Nat) : Prop := I 305 9 = nI s.1 ∧ I 305 10 = oI s.2 ∧ s.1 < 100 ∧ ∀ e, s.2 = some e → e < 100
def mPf (I I' : Nat → Nat → Int32) : Prop := (∀ x, x ≠ 305 → I' x = I x) ∧ ∀ j, j ≠ 9 → j ≠ 10 → I' 305 j = I 305 j
theorem mPf_rfl {I : Nat → Nat → Int32} : mPf I I := ⟨fun _ _ => rfl, fun _ _ _ => rfl⟩
theorem mPf_tr {I I1 I2 : Nat → Nat → Int32} (h1 : mPf I I1) (h2 : mPf I1 I2) : mPf I I2 := ⟨fun x a => (h2.1 x a).trans (h1.1 x a), fun j a b => (h2.2 j a b).trans (h1.2 j a b)⟩
theorem mTx_fr {I I1 : Nat → Nat → Int32} {tn : Nat} {tf : Nat → Int32} (h : mTx I tn tf) (f : mPf I I1) : mTx I1 tn tf := ⟨by rw [f.2 8 (by decide) (by decide)]; exact h.1, fun j hj => by rw [f.1 307 (by decide)]; exact h.2 j hj⟩
theorem m_here {G : zG} (hG : zGok G) {k' : Nat} (hk : 1 ≤ k') {I : Nat → Nat → Int32} {J : Nat → Nat → Int64} {past : Nat → Nat} {Q : zRt} {tn : Nat} {tf : Nat → Int32} (ok : tOk tn tf) (ht : mTx I tn tf) {s : Nat × Option Nat} (ha : mAt I s) (h : Q (some (.int (tAt tn tf s.1))) (zK0, I, J, zR0 past)) : zCalls G k' yX12_here [.ref 305] (zK0, I, J, zR0 past) Q := by
  have h80 := ok.1
  have hs := ha.2.2.1
  unfold tAt at h
  refine rnX12_here hG hk 305 ?_
  refine sgX12_here hG [] 60 0 ?_
  refine And.intro (fun c => ?_) (fun c => ?_)
  · rw [ht.1, ha.1, nI_leI (by omega) (by omega)] at c
    rw [if_neg (by omega)] at h
    exact h
  · rw [ht.1, ha.1, nI_leI (by omega) (by omega)] at c
    rw [if_pos (by omega)] at h
    obtain ⟨n, hn, en⟩ := ok.2 s.1 (by omega)
    have e : I 307 (I 305 9).toNatClampNeg &&& 255 = tf s.1 := by rw [ha.1, nI_clamp (by omega), ht.2 s.1 (by omega), en, b255 n hn]
    refine And.intro (by rw [ha.1]; exact vp_in_nI (by omega) (by omega)) ?_
    rw [← e] at h
    exact h
theorem m_fine {G : zG} (hG : zGok G) {k' : Nat} (hk : 1 ≤ k') {I : Nat → Nat → Int32} {J : Nat → Nat → Int64} {past : Nat → Nat} {Q : zRt} {s : Nat × Option Nat} (ha : mAt I s) (h : Q (some (.int (zb s.2.isNone))) (zK0, I, J, zR0 past)) : zCalls G k' yX12_fine [.ref 305] (zK0, I, J, zR0 past) Q := by
  have e := oI_m1 ha.2.2.2
  refine rnX12_fine hG hk 305 ?_
  refine sgX12_fine hG [] 60 0 ?_
  refine And.intro (fun c => ?_) (fun c => ?_)
  · rw [ha.2.1, e] at c
    obtain ⟨x, ex⟩ := Option.ne_none_iff_exists'.mp c
    rw [ex] at h
    exact And.intro (Or.inl rfl) h
  · rw [ha.2.1, e] at c
    rw [c] at h
    exact And.intro (Or.inr rfl) h
def pFlt (s : Nat × Option Nat) (x : Nat) : Nat × Option Nat := (s.1, match s.2 with | none => some x | some e => some e)
theorem m_fault {G : zG} (hG : zGok G) {k' : Nat} (hk : 2 ≤ k') {I : Nat → Nat → Int32} {J : Nat → Nat → Int64} {past : Nat → Nat} {Q : zRt} {s : Nat × Option Nat} (ha : mAt I s) {x : Nat} (hx : x < 100) {X : Int32} (eX : X = nI x) (h : ∀ I', mPf I I' → mAt I' (pFlt s x) → Q none (zK0, I', J, zR0 past)) : zCalls G k' yX12_fault [.ref 305, .int X] (zK0, I, J, zR0 past) Q := by
  subst eX
  obtain ⟨at', w⟩ := s
  refine rnX12_fault hG hk 305 _ ?_
  refine sgX12_fault hG [] 60 0 ?_
  refine m_fine hG (by decide) ha ?_
  cases w with
  | none =>
    refine And.intro (fun c => absurd c (show ¬ zb true = 0 by decide)) (fun _ => ?_)
    refine h _ ⟨fun y hy => z_upI_ne hy, fun j _ b => uI_k b⟩ ⟨by rw [uI_k (by decide)]; exact ha.1, uI_s, ha.2.2.1, fun e he => by cases he; exact hx⟩
  | some e =>
    refine And.intro (fun _ => ?_) (fun c => absurd rfl c)
    exact h I mPf_rfl ha
def pPas (T : Nat → Int32) (c : Int32) (s : Nat × Option Nat) : Bool := s.2.isNone && decide (T s.1 = c)
theorem m_passes {G : zG} (hG : zGok G) {k' : Nat} (hk : 2 ≤ k') {I : Nat → Nat → Int32} {J : Nat → Nat → Int64} {past : Nat → Nat} {Q : zRt} {tn : Nat} {tf : Nat → Int32} (ok : tOk tn tf) (ht : mTx I tn tf) {s : Nat × Option Nat} (ha : mAt I s) (c : Int32) (hc : ¬ c = -1) (h0 : pPas (tAt tn tf) c s = false → Q (some (.int 0)) (zK0, I, J, zR0 past)) (h1 : pPas (tAt tn tf) c s = true → ∀ I', mPf I I' → mAt I' (s.1 + 1, s.2) → Q (some (.int 1)) (zK0, I', J, zR0 past)) : zCalls G k' yX12_passes [.ref 305, .int c] (zK0, I, J, zR0 past) Q := by
  have h80 := ok.1
  refine rnX12_passes hG hk 305 _ ?_
  refine sgX12_passes hG [] 60 0 ?_
  refine m_fine hG (by decide) ha ?_
  refine And.intro (fun q => ?_) (fun q => ?_)
  · exact And.intro (Or.inl rfl) (h0 (by unfold pPas; rw [(zb_eq0 _).mp q]; rfl))
  have q := z_nb1 (x := 0) q
  refine m_here hG (by decide) ok ht ha ?_
  refine And.intro (fun d => ?_) (fun d => ?_)
  · have lt := tAt_lt hc d
    refine And.intro (Or.inr rfl) ?_
    refine h1 (by unfold pPas; rw [q, decide_eq_true d]; rfl) _ ⟨fun y hy => z_upI_ne hy, fun j a _ => uI_k a⟩ ⟨by rw [uI_s, ha.1, nI_1], by rw [uI_k (by decide)]; exact ha.2.1, by show s.1 + 1 < 100; omega, ha.2.2.2⟩
  · exact And.intro (Or.inl rfl) (h0 (by unfold pPas; rw [decide_eq_false d, Bool.and_false]))
def pSt (T : Nat → Int32) (w : Int32) (s : Nat × Option Nat) : Nat × Option Nat := match s.2 with
  | none => if fit (T s.1) w then (s.1 + 1, none) else (s.1, some s.1)
  | some _ => s
theorem m_need {G : zG} (hG : zGok G) {k' : Nat} (hk : 3 ≤ k') {I : Nat → Nat → Int32} {J : Nat → Nat → Int64} {past : Nat → Nat} {Q : zRt} {tn : Nat} {tf : Nat → Int32} (ok : tOk tn tf) (ht : mTx I tn tf) {s : Nat × Option Nat} (ha : mAt I s) (c : Int32) (hc : ¬ c = -1) (hf : s.2 = none → fit (tAt tn tf s.1) c = decide (tAt tn tf s.1 = c)) (h : ∀ I', mPf I I' → mAt I' (pSt (tAt tn tf) c s) → Q none (zK0, I', J, zR0 past)) : zCalls G k' yX12_need [.ref 305, .int c] (zK0, I, J, zR0 past) Q := by
  obtain ⟨at', w⟩ := s
  have hs := ha.2.2.1
  refine rnX12_need hG hk 305 _ ?_
  refine sgX12_need hG [] 60 0 ?_
  refine m_passes hG (by decide) ok ht ha c hc (fun q => ?_) (fun q I1 f1 a1 => ?_)
  · refine And.intro (fun d => absurd rfl d) (fun _ => ?_)
    refine m_fault hG (by decide) ha (x := at') hs ha.1 (fun I1 f1 a1 => ?_)
    refine h I1 f1 ?_
    cases w with
    | none =>
      have e : decide (tAt tn tf at' = c) = false := q
      have hf := hf rfl
      have e2 : pSt (tAt tn tf) c (at', none) = (at', some at') := if_neg (by rw [hf, e]; decide)
      rw [e2]; exact a1
    | some x => exact a1
  · refine And.intro (fun _ => ?_) (fun d => absurd d (by decide))
    refine h I1 f1 ?_
    cases w with
    | none =>
      have e : decide (tAt tn tf at' = c) = true := q
      have hf := hf rfl
      have e2 : pSt (tAt tn tf) c (at', none) = (at' + 1, none) := if_pos (by rw [hf, e])
      rw [e2]; exact a1
    | some x => cases q
theorem m_digit {G : zG} (hG : zGok G) {k' : Nat} (hk : 3 ≤ k') {I : Nat → Nat → Int32} {J : Nat → Nat → Int64} {past : Nat → Nat} {Q : zRt} {tn : Nat} {tf : Nat → Int32} (ok : tOk tn tf) (ht : mTx I tn tf) {s : Nat × Option Nat} (ha : mAt I s) (w mm : Int32) (hw : w = 53 ∧ mm = 6 ∨ w = 57 ∧ mm = 10) (h : ∀ I' v, mPf I I' → mAt I' (pSt (tAt tn tf) w s) → (s.2 = none → fit (tAt tn tf s.1) w = true → v = tAt tn tf s.1 - 48) → Q (some (.int v)) (zK0, I', J, zR0 past)) : zCalls G k' yX12_digit [.ref 305, .int mm] (zK0, I, J, zR0 past) Q := by
  have h80 := ok.1
  obtain ⟨at', wr⟩ := s
  have hs := ha.2.2.1
  have ef : ∀ c : Int32, fit c w = (decide (48 ≤ c) && decide (c ≤ 48 + mm - 1)) := by
    intro c
    rcases hw with ⟨rfl, rfl⟩ | ⟨rfl, rfl⟩
    · unfold fit dgt
      rw [if_neg (by decide), if_pos rfl, show (48 : Int32) + 6 - 1 = 53 by decide]
      by_cases x : c ≤ 53
      · rw [decide_eq_true x, Bool.and_true, Bool.and_true, decide_eq_true (show c ≤ 57 from Int32.le_trans x (by decide)), Bool.and_true]
      · rw [decide_eq_false x, Bool.and_false, Bool.and_false]
    · unfold fit dgt
      rw [if_neg (by decide), if_neg (by decide), if_pos rfl, show (48 : Int32) + 10 - 1 = 57 by decide]
  refine rnX12_digit hG hk 305 _ ?_
  refine sgX12_digit hG [] 60 0 ?_
  refine m_fine hG (by decide) ha ?_
  cases wr with
  | some x =>
    refine And.intro (fun c => absurd rfl c) (fun _ => ?_)
    exact h I 0 mPf_rfl ha (fun q => by cases q)
  | none =>
    refine And.intro (fun _ => ?_) (fun c => absurd c (show ¬ zb true = 0 by decide))
    refine m_here hG (by decide) ok ht ha ?_
    refine m_in hG (by decide) _ _ _ ?_
    rw [z_ifb, ← ef]
    refine And.intro (fun c => ?_) (fun c => ?_)
    · have c := z_nb1 (x := 0) c
      have c : fit (tAt tn tf at') w = true := c
      have ce := c
      rw [ef, Bool.and_eq_true, decide_eq_true_eq, decide_eq_true_eq] at ce
      have lt : at' < tn := by
        rcases Nat.lt_or_ge at' tn with z | z
        · exact z
        · have e : tAt tn tf at' = -1 := by unfold tAt; rw [if_neg (by omega)]
          rw [e] at ce
          exact absurd ce.1 (by decide)
      obtain ⟨n, hn, en⟩ := ok.2 at' lt
      have eT : tAt tn tf at' = tf at' := by unfold tAt; rw [if_pos lt]
      have n128 : n < 128 := by
        have c2 := ce.2
        rw [eT, en] at c2
        have c3 : nI n ≤ nI 57 := Int32.le_trans c2 (by rcases hw with ⟨rfl, rfl⟩ | ⟨rfl, rfl⟩ <;> decide)
        rw [nI_leI (by omega) (by omega)] at c3
        omega
      have i1 : z_upI I 305 9 (I 305 9 + 1) 305 9 - 1 = nI at' := by rw [uI_s, ha.1, nI_1, show (1 : Int32) = nI 1 from rfl, pk_sub (by omega)]; congr 1
      refine And.intro (by rw [i1]; exact vp_in_nI (by omega) (by omega)) ?_
      have ev : z_upI I 305 9 (I 305 9 + 1) 307 (z_upI I 305 9 (I 305 9 + 1) 305 9 - 1).toNatClampNeg - 48 = tAt tn tf at' - 48 := by
        rw [i1, nI_clamp (by omega), uI_p (by decide), ht.2 at' lt, en, b127 n n128, eT, en]
      refine h _ _ ⟨fun y hy => z_upI_ne hy, fun j a _ => uI_k a⟩ ?_ (fun _ _ => ev)
      have e2 : pSt (tAt tn tf) w (at', none) = (at' + 1, none) := if_pos c
      rw [e2]
      exact ⟨by rw [uI_s, ha.1, nI_1], by rw [uI_k (by decide)]; exact ha.2.1, by show at' + 1 < 100; omega, fun e he => by cases he⟩
    · have c := (zb_eq0 _).mp c
      have c : fit (tAt tn tf at') w = false := c
      refine m_fault hG (by decide) ha (x := at') hs ha.1 (fun I1 f1 a1 => ?_)
      have e2 : pSt (tAt tn tf) w (at', none) = (at', some at') := if_neg (by rw [c]; decide)
      refine h I1 0 f1 (by rw [e2]; exact a1) (fun _ q => ?_)
      exact absurd (c.symm.trans q) (by decide)
theorem m_sided {G : zG} (hG : zGok G) {k' : Nat} (hk : 4 ≤ k') {I : Nat → Nat → Int32} {J : Nat → Nat → Int64} {past : Nat → Nat} {Q : zRt} {tn : Nat} {tf : Nat → Int32} (ok : tOk tn tf) (ht : mTx I tn tf) {s : Nat × Option Nat} (ha : mAt I s) (h : ∀ I' v, mPf I I' → mAt I' (pSt (tAt tn tf) 43 s) → (s.2 = none → fit (tAt tn tf s.1) 43 = true → v = if tAt tn tf s.1 = 45 then -1 else 1) → Q (some (.int v)) (zK0, I', J, zR0 past)) : zCalls G k' yX12_sided [.ref 305] (zK0, I, J, zR0 past) Q := by
  have ef : ∀ c : Int32, fit c 43 = (decide (c = 43) || decide (c = 45)) := fun c => by unfold fit; rw [if_pos rfl]
  refine rnX12_sided hG hk 305 ?_
  refine sgX12_sided hG [] 60 0 ?_
  refine m_passes hG (by decide) ok ht ha 45 (by decide) (fun q => ?_) (fun q I1 f1 a1 => ?_)
  · refine And.intro (fun _ => ?_) (fun d => absurd rfl d)
    refine m_need hG (by decide) ok ht ha 43 (by decide) (fun n => ?_) (fun I1 f1 a1 => ?_)
    · unfold pPas at q
      rw [n] at q
      have q : decide (tAt tn tf s.1 = 45) = false := q
      rw [ef, q, Bool.or_false]
    · refine h I1 1 f1 a1 (fun n _ => ?_)
      unfold pPas at q
      rw [n] at q
      have q : decide (tAt tn tf s.1 = 45) = false := q
      rw [if_neg (of_decide_eq_false q)]
  · refine And.intro (fun d => absurd d (by decide)) (fun _ => ?_)
    unfold pPas at q
    rw [Bool.and_eq_true] at q
    have n : s.2 = none := by
      cases z : s.2 with
      | none => rfl
      | some x => rw [z] at q; cases q.1
    have t := of_decide_eq_true q.2
    refine h I1 (-1) f1 ?_ (fun _ _ => by rw [if_pos t])
    have e2 : pSt (tAt tn tf) 43 s = (s.1 + 1, s.2) := by
      unfold pSt
      rw [n]
      exact if_pos (by rw [ef, decide_eq_true t, Bool.or_true])
    rw [e2]; exact a1
