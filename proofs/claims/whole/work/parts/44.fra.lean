-- ===== fractions as pairs of whole numbers =====
abbrev zFr : Type := Int × Int
def fS (a b : Int) : Int := if b < 0 then -((Nat.gcd a.natAbs b.natAbs : Nat) : Int) else ((Nat.gcd a.natAbs b.natAbs : Nat) : Int)
def fRed (a b : Int) : zFr := (a.tdiv (fS a b), b.tdiv (fS a b))
def isR (f : zFr) : Prop := 0 < f.2 ∧ Nat.gcd f.1.natAbs f.2.natAbs = 1
def fLt (f g : zFr) : Bool := decide (f.1 * g.2 < g.1 * f.2)
theorem fS_f {a b : Int} (h : b ≠ 0) : fS a b ≠ 0 ∧ fS a b * (fRed a b).1 = a ∧ fS a b * (fRed a b).2 = b ∧ (0 < b → 0 < fS a b) ∧ (b < 0 → fS a b < 0) ∧ (fS a b).natAbs = Nat.gcd a.natAbs b.natAbs := by
  have g0 : 0 < Nat.gcd a.natAbs b.natAbs := Nat.gcd_pos_of_pos_right _ (by omega)
  have d1 : ((Nat.gcd a.natAbs b.natAbs : Nat) : Int) ∣ a := Int.ofNat_dvd_left.mpr (Nat.gcd_dvd_left _ _)
  have d2 : ((Nat.gcd a.natAbs b.natAbs : Nat) : Int) ∣ b := Int.ofNat_dvd_left.mpr (Nat.gcd_dvd_right _ _)
  have e1 : fS a b ∣ a := by
    unfold fS
    split
    · exact Int.neg_dvd.mpr d1
    · exact d1
  have e2 : fS a b ∣ b := by
    unfold fS
    split
    · exact Int.neg_dvd.mpr d2
    · exact d2
  refine ⟨?_, Int.mul_tdiv_cancel' e1, Int.mul_tdiv_cancel' e2, ?_, ?_, ?_⟩
  · unfold fS; split <;> omega
  · intro q; unfold fS; rw [if_neg (by omega)]; omega
  · intro q; unfold fS; rw [if_pos q]; omega
  · unfold fS; split <;> omega
theorem fRed_R {a b : Int} (h : b ≠ 0) : isR (fRed a b) := by
  obtain ⟨s0, s1, s2, s3, s4, s5⟩ := fS_f (a := a) h
  refine ⟨?_, ?_⟩
  · rcases Int.lt_or_gt_of_ne h with c | c
    · have k := s4 c
      rcases Int.lt_or_le 0 (fRed a b).2 with z | z
      · exact z
      · have := Int.mul_nonneg_of_nonpos_of_nonpos (Int.le_of_lt k) z
        omega
    · have k := s3 c
      rcases Int.lt_or_le 0 (fRed a b).2 with z | z
      · exact z
      · have := Int.mul_nonpos_of_nonneg_of_nonpos (Int.le_of_lt k) z
        omega
  · have g0 : 0 < Nat.gcd a.natAbs b.natAbs := Nat.gcd_pos_of_pos_right _ (by omega)
    have n1 : a.natAbs = Nat.gcd a.natAbs b.natAbs * (fRed a b).1.natAbs := by rw [← s5, ← Int.natAbs_mul, s1]
    have n2 : b.natAbs = Nat.gcd a.natAbs b.natAbs * (fRed a b).2.natAbs := by rw [← s5, ← Int.natAbs_mul, s2]
    have k : Nat.gcd (Nat.gcd a.natAbs b.natAbs * (fRed a b).1.natAbs) (Nat.gcd a.natAbs b.natAbs * (fRed a b).2.natAbs) = Nat.gcd a.natAbs b.natAbs := by rw [← n1, ← n2]
    rw [Nat.gcd_mul_left] at k
    exact Nat.eq_of_mul_eq_mul_left g0 (by rw [k, Nat.mul_one])
theorem fRed_bd {a b : Int} (h : b ≠ 0) : (fRed a b).1.natAbs ≤ a.natAbs ∧ (fRed a b).2.natAbs ≤ b.natAbs := by
  unfold fRed
  rw [Int.natAbs_tdiv, Int.natAbs_tdiv]
  exact ⟨Nat.div_le_self _ _, Nat.div_le_self _ _⟩
theorem isR_uniq {f g : zFr} (hf : isR f) (hg : isR g) (h : f.1 * g.2 = g.1 * f.2) : f = g := by
  obtain ⟨f0, f1⟩ := hf
  obtain ⟨g0, g1⟩ := hg
  have h2 : f.1.natAbs * g.2.natAbs = g.1.natAbs * f.2.natAbs := by rw [← Int.natAbs_mul, h, Int.natAbs_mul]
  have a1 : f.2.natAbs ∣ g.2.natAbs := by
    have c : Nat.Coprime f.2.natAbs f.1.natAbs := by rw [Nat.Coprime, Nat.gcd_comm]; exact f1
    exact c.dvd_of_dvd_mul_left ⟨g.1.natAbs, by rw [h2, Nat.mul_comm]⟩
  have a2 : g.2.natAbs ∣ f.2.natAbs := by
    have c : Nat.Coprime g.2.natAbs g.1.natAbs := by rw [Nat.Coprime, Nat.gcd_comm]; exact g1
    exact c.dvd_of_dvd_mul_left ⟨f.1.natAbs, by rw [← h2, Nat.mul_comm]⟩
  have e2 : f.2 = g.2 := by have := Nat.dvd_antisymm a1 a2; omega
  have e1 : f.1 = g.1 := by
    rw [e2] at h
    exact Int.eq_of_mul_eq_mul_right (by omega) h
  exact Prod.ext e1 e2
theorem fRed_id {f : zFr} (h : isR f) : fRed f.1 f.2 = f := by
  have n0 : f.2 ≠ 0 := by have := h.1; omega
  obtain ⟨s0, s1, s2, _⟩ := fS_f (a := f.1) n0
  refine isR_uniq (fRed_R n0) h ?_
  refine Int.eq_of_mul_eq_mul_left s0 ?_
  rw [← Int.mul_assoc, s1, Int.mul_comm (fS f.1 f.2), Int.mul_assoc, Int.mul_comm _ (fS f.1 f.2), s2]
theorem fRed_val {a b : Int} (h : b ≠ 0) : (fRed a b).1 * b = a * (fRed a b).2 := by
  obtain ⟨s0, s1, s2, _⟩ := fS_f (a := a) h
  refine Int.eq_of_mul_eq_mul_left s0 ?_
  rw [← Int.mul_assoc, s1, ← Int.mul_assoc, Int.mul_comm _ a, Int.mul_assoc, s2]
theorem fRed_eq {a b c d : Int} (hb : b ≠ 0) (hd : d ≠ 0) (h : a * d = c * b) : fRed a b = fRed c d := by
  refine isR_uniq (fRed_R hb) (fRed_R hd) ?_
  have v1 := fRed_val (a := a) hb
  have v2 := fRed_val (a := c) hd
  refine Int.eq_of_mul_eq_mul_left (show b * d ≠ 0 from Int.mul_ne_zero hb hd) ?_
  grind
theorem fRed_neg {a b : Int} (hb : b ≠ 0) : fRed (-a) (-b) = fRed a b := fRed_eq (by omega) hb (by grind)
theorem zred_I {a b : Int} (ha : a.natAbs < 2 ^ 62) (hb : b.natAbs < 2 ^ 62) (h0 : b ≠ 0) : zred (Int64.ofInt a) (Int64.ofInt b) = (Int64.ofInt (fRed a b).1, Int64.ofInt (fRed a b).2) := by
  have ta := lI_T (a := a) (by omega)
  have tb := lI_T (a := b) (by omega)
  obtain ⟨s0, s1, s2, s3, s4, s5⟩ := fS_f (a := a) h0
  obtain ⟨r1, r2⟩ := fRed_bd (a := a) h0
  have gl : Nat.gcd a.natAbs b.natAbs ≤ b.natAbs := Nat.gcd_le_right _ (by omega)
  have eg : (if Int64.ofInt b < 0 then -(zgcd (Int64.ofInt a) (Int64.ofInt b)) else zgcd (Int64.ofInt a) (Int64.ofInt b)) = Int64.ofInt (fS a b) := by
    unfold zgcd fS
    rw [ta, tb, lN_I]
    have el : Int64.ofInt b < 0 ↔ b < 0 := by rw [Int64.lt_iff_toInt_lt, tb, Int64.toInt_zero]
    by_cases c : b < 0
    · rw [if_pos (el.mpr c), if_pos c, ← Int64.ofInt_neg]
    · rw [if_neg (fun q => c (el.mp q)), if_neg c]
  have ts := lI_T (a := fS a b) (by omega)
  unfold zred
  rw [eg]
  refine Prod.ext ?_ ?_
  · show Int64.ofInt a / Int64.ofInt (fS a b) = Int64.ofInt (fRed a b).1
    rw [z_l_eq, z_ldiv (by omega), ta, ts, lI_T (by omega)]; rfl
  · show Int64.ofInt b / Int64.ofInt (fS a b) = Int64.ofInt (fRed a b).2
    rw [z_l_eq, z_ldiv (by omega), tb, ts, lI_T (by omega)]; rfl
/-- how large a fraction's numbers may be -/
def fB (f : zFr) : Prop := f.1.natAbs ≤ 1000000000 ∧ f.2.natAbs ≤ 1000000000
theorem fB_m {f g : zFr} (hf : fB f) (hg : fB g) : (f.1 * g.2).natAbs ≤ 1000000000000000000 := by
  have := bd_mul hf.1 hg.2
  omega
-- ===== the class's fractions =====
def cFx (J : Nat → Nat → Int64) (p : Nat) (f : zFr) : Prop := J p 0 = Int64.ofInt f.1 ∧ J p 1 = Int64.ofInt f.2
theorem cFx_fr {J J1 : Nat → Nat → Int64} {p : Nat} {f : zFr} (h : cFx J p f) (h1 : J1 p = J p) : cFx J1 p f := ⟨by rw [h1]; exact h.1, by rw [h1]; exact h.2⟩
theorem c_putI {G : zG} (hG : zGok G) {k' : Nat} (hk : 3 ≤ k') {I : Nat → Nat → Int32} {J : Nat → Nat → Int64} {past : Nat → Nat} {Q : zRt} (p : Nat) (hp : Nat.beq (zKd zK0 p).1 6 = true) {a b : Int} {A B : Int64} (eA : A = Int64.ofInt a) (eB : B = Int64.ofInt b) (ha : a.natAbs < 2 ^ 62) (hb : b.natAbs < 2 ^ 49) (h0 : b ≠ 0) (h : ∀ J', (∀ x, x ≠ p → J' x = J x) → cFx J' p (fRed a b) → Q none (zK0, I, J', zR0 past)) : zCalls G k' yX6_put [.ref p, .long A, .long B] (zK0, I, J, zR0 past) Q := by
  subst eA
  subst eB
  have ta := lI_T (a := a) (by omega)
  have tb := lI_T (a := b) (by omega)
  refine c_put hG hk p hp _ _ (by omega) (by omega) (fun q => by rw [q, Int64.toInt_zero] at tb; omega) ?_
  refine h _ (fun x hx => by rw [z_upJ_ne hx, z_upJ_ne hx]) ⟨?_, ?_⟩
  · rw [uJ_k (by decide), uJ_s, zred_I ha (by omega) h0]
  · rw [uJ_s, zred_I ha (by omega) h0]
theorem c_rcopyI {G : zG} (hG : zGok G) {k' : Nat} (hk : 1 ≤ k') {I : Nat → Nat → Int32} {J : Nat → Nat → Int64} {past : Nat → Nat} {Q : zRt} (p q : Nat) (hp : Nat.beq (zKd zK0 p).1 6 = true) (hq : Nat.beq (zKd zK0 q).1 6 = true) (hpq : q ≠ p) {f : zFr} (hf : cFx J q f) (h : ∀ J', (∀ x, x ≠ p → J' x = J x) → cFx J' p f → Q none (zK0, I, J', zR0 past)) : zCalls G k' yX6_copy [.ref p, .ref q] (zK0, I, J, zR0 past) Q := by
  refine c_rcopy hG hk p q hp hq hpq ?_
  refine h _ (fun x hx => by rw [z_upJ_ne hx, z_upJ_ne hx]) ⟨?_, ?_⟩
  · rw [uJ_k (by decide), uJ_s]; exact hf.1
  · rw [uJ_s]; exact hf.2
theorem fLt_I {f g : zFr} (hf : fB f) (hg : fB g) : Int64.ofInt f.1 * Int64.ofInt g.2 < Int64.ofInt g.1 * Int64.ofInt f.2 ↔ fLt f g = true := by
  have a := fB_m hf hg
  have b := fB_m hg hf
  rw [← Int64.ofInt_mul, ← Int64.ofInt_mul, lI_lt (by omega) (by omega)]
  unfold fLt
  rw [decide_eq_true_eq]
theorem c_isBelowI {G : zG} (hG : zGok G) {k' : Nat} (hk : 1 ≤ k') {I : Nat → Nat → Int32} {J : Nat → Nat → Int64} {past : Nat → Nat} {Q : zRt} (p q : Nat) (hp : Nat.beq (zKd zK0 p).1 6 = true) (hq : Nat.beq (zKd zK0 q).1 6 = true) {f g : zFr} (hf : cFx J p f) (hg : cFx J q g) (bf : fB f) (bg : fB g) (h : Q (some (.int (zb (fLt f g)))) (zK0, I, J, zR0 past)) : zCalls G k' yX6_isBelow [.ref p, .ref q] (zK0, I, J, zR0 past) Q := by
  refine c_isBelow hG hk p q hp hq ?_
  rw [hf.1, hf.2, hg.1, hg.2, zb_if]
  have e := fLt_I bf bg
  by_cases c : fLt f g = true
  · rw [c] at h
    rw [decide_eq_true (e.mpr c)]
    exact h
  · rw [decide_eq_false (fun q => c (e.mp q))]
    rw [show fLt f g = false by cases z : fLt f g <;> simp_all] at h
    exact h
-- ===== the model's =====
theorem m_setI {G : zG} (hG : zGok G) {k' : Nat} (hk : 2 ≤ k') {I : Nat → Nat → Int32} {J : Nat → Nat → Int64} {past : Nat → Nat} {Q : zRt} {a b : Int} {A B : Int64} (eA : A = Int64.ofInt a) (eB : B = Int64.ofInt b) (ha : a.natAbs < 2 ^ 62) (hb : b.natAbs < 2 ^ 62) (h0 : b ≠ 0) (h : ∀ J', (∀ x, x ≠ 305 → J' x = J x) → (∀ j, j ≠ 6 → j ≠ 7 → J' 305 j = J 305 j) → J' 305 6 = Int64.ofInt (fRed a b).1 → J' 305 7 = Int64.ofInt (fRed a b).2 → Q none (zK0, I, J', zR0 past)) : zCalls G k' yX12_set [.ref 305, .long A, .long B] (zK0, I, J, zR0 past) Q := by
  subst eA
  subst eB
  have ta := lI_T (a := a) (by omega)
  have tb := lI_T (a := b) (by omega)
  refine m_set hG hk _ _ (by omega) (by omega) (fun q => by rw [q, Int64.toInt_zero] at tb; omega) ?_
  refine h _ (fun x hx => by rw [z_upJ_ne hx, z_upJ_ne hx]) (fun j a b => by rw [uJ_k b, uJ_k a]) ?_ ?_
  · rw [uJ_k (by decide), uJ_s, zred_I ha (by omega) h0]
  · rw [uJ_s, zred_I ha (by omega) h0]
theorem m_isLessI {G : zG} (hG : zGok G) {k' : Nat} (hk : 1 ≤ k') {σ : zSt} {Q : zRt} {f g : zFr} {a b c d : Int64} (ea : a = Int64.ofInt f.1) (eb : b = Int64.ofInt f.2) (ec : c = Int64.ofInt g.1) (ed : d = Int64.ofInt g.2) (bf : fB f) (bg : fB g) (h : Q (some (.int (zb (fLt f g)))) σ) : zCalls G k' yX12_isLess [.long a, .long b, .long c, .long d] σ Q := by
  subst ea
  subst eb
  subst ec
  subst ed
  refine m_isLess hG hk _ _ _ _ ?_
  rw [zb_if]
  have e := fLt_I bf bg
  by_cases c : fLt f g = true
  · rw [c] at h
    rw [decide_eq_true (e.mpr c)]
    exact h
  · rw [decide_eq_false (fun q => c (e.mp q))]
    rw [show fLt f g = false by cases z : fLt f g <;> simp_all] at h
    exact h
