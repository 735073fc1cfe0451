-- ===== whether a point passes a region =====
def cC (n : Int) : Int32 := if n < 0 then -1 else if n = 0 then 0 else 1
theorem cC_lt (n : Int) : cC n < 0 ↔ n < 0 := by
  unfold cC
  by_cases c : n < 0
  · rw [if_pos c]; exact ⟨fun _ => c, fun _ => by decide⟩
  · rw [if_neg c]
    by_cases d : n = 0
    · rw [if_pos d]; exact ⟨fun q => absurd q (by decide), fun q => absurd q c⟩
    · rw [if_neg d]; exact ⟨fun q => absurd q (by decide), fun q => absurd q c⟩
theorem cC_gt (n : Int) : 0 < cC n ↔ 0 < n := by
  unfold cC
  by_cases c : n < 0
  · rw [if_pos c]; exact ⟨fun q => absurd q (by decide), fun q => by omega⟩
  · rw [if_neg c]
    by_cases d : n = 0
    · rw [if_pos d]; exact ⟨fun q => absurd q (by decide), fun q => by omega⟩
    · rw [if_neg d]; exact ⟨fun _ => by omega, fun _ => by decide⟩
theorem cC_cmp {a b : Int} (ha : a.natAbs < 2 ^ 62) (hb : b.natAbs < 2 ^ 62) : (if Int64.ofInt a < Int64.ofInt b then (-1 : Int32) else if Int64.ofInt a = Int64.ofInt b then 0 else 1) = cC (a - b) := by
  have e1 := lI_lt (a := a) (b := b) (by omega) (by omega)
  have e2 := lI_eq (a := a) (b := b) (by omega) (by omega)
  unfold cC
  by_cases c : a < b
  · rw [if_pos (e1.mpr c), if_pos (by omega)]
  · rw [if_neg (fun q => c (e1.mp q)), if_neg (c := a - b < 0) (by omega)]
    by_cases d : a = b
    · rw [if_pos (e2.mpr d), if_pos (by omega)]
    · rw [if_neg (fun q => d (e2.mp q)), if_neg (by omega)]
def lnA (f g : zFr) (o : Int) : Int := o * f.2 * g.2
def lnB (f g : zFr) (v d : Int) : Int := f.1 * g.2 * (d - v) + g.1 * f.2 * v
def lnC (f g : zFr) (v o d : Int) : Int := lnA f g o - lnB f g v d
theorem ln_bd {f g : zFr} (hf : fW 1080000 f) (hg : fW 1080000 g) {v o d : Nat} (hv : v ≤ d) (ho : o ≤ 72) (hd : d ≤ 12) : (lnA f g o).natAbs < 2 ^ 62 ∧ (lnB f g v d).natAbs < 2 ^ 62 := by
  obtain ⟨_, a1, a2⟩ := fW_p hf
  obtain ⟨_, b1, b2⟩ := fW_p hg
  have x1 := bd_mul (bd_mul (show ((o : Nat) : Int).natAbs ≤ 72 by omega) a2) b2
  have x2 := bd_add (bd_mul (bd_mul a1 b2) (show ((d : Int) - v).natAbs ≤ 12 by omega)) (bd_mul (bd_mul b1 a2) (show ((v : Nat) : Int).natAbs ≤ 12 by omega))
  exact ⟨Nat.lt_of_le_of_lt x1 (by decide), Nat.lt_of_le_of_lt x2 (by decide)⟩
theorem nI_L {n : Nat} (h : n < 2 ^ 31) : (nI n).toInt64 = Int64.ofInt n := by rw [nI_I]; exact iI_l (by omega)
theorem c_aboveLine {G : zG} (hG : zGok G) {k' : Nat} (hk : 2 ≤ k') {I : Nat → Nat → Int32} {J : Nat → Nat → Int64} {past : Nat → Nat} {Q : zRt} (a b : Nat) (a6 : Nat.beq (zKd zK0 a).1 6 = true) (b6 : Nat.beq (zKd zK0 b).1 6 = true) {f g : zFr} (qa : cFx J a f) (qb : cFx J b g) (wf : fW 1080000 f) (wg : fW 1080000 g) {v o d : Nat} (hv : v ≤ d) (ho : o ≤ 72) (hd : d ≤ 12) {V O D : Int32} (eV : V = nI v) (eO : O = nI o) (eD : D = nI d) (h : Q (some (.int (cC (lnC f g v o d)))) (zK0, I, J, zR0 past)) : zCalls G k' yX7_aboveLine [.ref a, .ref b, .int V, .int O, .int D] (zK0, I, J, zR0 past) Q := by
  subst eV
  subst eO
  subst eD
  obtain ⟨b1, b2⟩ := ln_bd wf wg hv ho hd
  have eA : (nI o).toInt64 * J a 1 * J b 1 = Int64.ofInt (lnA f g o) := by
    unfold lnA
    rw [nI_L (by omega), qa.2, qb.2, Int64.ofInt_mul, Int64.ofInt_mul]
  have eB : J a 0 * J b 1 * (nI d - nI v).toInt64 + J b 0 * J a 1 * (nI v).toInt64 = Int64.ofInt (lnB f g v d) := by
    unfold lnB
    rw [pk_sub hv, nI_L (by omega), nI_L (by omega), qa.1, qa.2, qb.1, qb.2, Int64.ofInt_add, Int64.ofInt_mul, Int64.ofInt_mul, Int64.ofInt_mul, Int64.ofInt_mul, show ((d - v : Nat) : Int) = (d : Int) - v by omega]
  refine rnX7_aboveLine hG hk a b _ _ _ ?_
  refine sgX7_aboveLine hG [] 60 0 ?_
  refine zB_in a6 ?_
  refine zB_in b6 ?_
  refine zB_in b6 ?_
  refine zB_in a6 ?_
  refine zB_in a6 ?_
  refine zB_in b6 ?_
  refine z_arg (args' := [.long (Int64.ofInt (lnA f g o)), .long (Int64.ofInt (lnB f g v d))]) (by rw [← eA, ← eB]) ?_
  refine j_cmp hG (by decide) _ _ ?_
  rw [cC_cmp b1 b2]
  exact h
theorem m_isBetween {G : zG} (hG : zGok G) {k' : Nat} (hk : 1 ≤ k') {I : Nat → Nat → Int32} {J : Nat → Nat → Int64} {past : Nat → Nat} {Q : zRt} (o9 : Nat) (ho9 : o9 = 313 ∨ o9 = 314) {s : Nat} (hs42 : s < 41) {f g : zFr} (q1 : J o9 (2 * s) = Int64.ofInt f.1) (q2 : J o9 (2 * s + 1) = Int64.ofInt f.2) (q3 : J o9 (2 * s + 2) = Int64.ofInt g.1) (q4 : J o9 (2 * s + 3) = Int64.ofInt g.2) (wf : fW 1080000 f) (wg : fW 1080000 g) {v o d : Nat} (hv : v ≤ d) (ho : o ≤ 72) (hd : d ≤ 12) {S V O D : Int32} (eS : S = nI s) (eV : V = nI v) (eO : O = nI o) (eD : D = nI d) (h : Q (some (.int (cC (lnC f g v o d)))) (zK0, I, J, zR0 past)) : zCalls G k' yX12_isBetween [.ref o9, .int S, .int V, .int O, .int D] (zK0, I, J, zR0 past) Q := by
  subst eS
  subst eV
  subst eO
  subst eD
  obtain ⟨b1, b2⟩ := ln_bd wf wg hv ho hd
  have i0 : (2 : Int32) * nI s = nI (2 * s) := by rw [show (2 : Int32) = nI 2 from rfl, pk_mul]
  have i1 : (2 : Int32) * nI s + 1 = nI (2 * s + 1) := by rw [i0, nI_1]
  have i2 : (2 : Int32) * nI s + 2 = nI (2 * s + 2) := by rw [i0, show (2 : Int32) = nI 2 from rfl, nI_add]
  have i3 : (2 : Int32) * nI s + 3 = nI (2 * s + 3) := by rw [i0, show (3 : Int32) = nI 3 from rfl, nI_add]
  have v0 : vp_in ((2 : Int32) * nI s) 84 := by rw [i0]; exact vp_in_nI (by omega) (by omega)
  have v1 : vp_in ((2 : Int32) * nI s + 1) 84 := by rw [i1]; exact vp_in_nI (by omega) (by omega)
  have v2 : vp_in ((2 : Int32) * nI s + 2) 84 := by rw [i2]; exact vp_in_nI (by omega) (by omega)
  have v3 : vp_in ((2 : Int32) * nI s + 3) 84 := by rw [i3]; exact vp_in_nI (by omega) (by omega)
  have j0 : J o9 ((2 : Int32) * nI s).toNatClampNeg = Int64.ofInt f.1 := by rw [i0, nI_clamp (by omega)]; exact q1
  have j1 : J o9 ((2 : Int32) * nI s + 1).toNatClampNeg = Int64.ofInt f.2 := by rw [i1, nI_clamp (by omega)]; exact q2
  have j2 : J o9 ((2 : Int32) * nI s + 2).toNatClampNeg = Int64.ofInt g.1 := by rw [i2, nI_clamp (by omega)]; exact q3
  have j3 : J o9 ((2 : Int32) * nI s + 3).toNatClampNeg = Int64.ofInt g.2 := by rw [i3, nI_clamp (by omega)]; exact q4
  have eA : (nI o).toInt64 * J o9 ((2 : Int32) * nI s + 1).toNatClampNeg * J o9 ((2 : Int32) * nI s + 3).toNatClampNeg = Int64.ofInt (lnA f g o) := by
    unfold lnA
    rw [nI_L (by omega), j1, j3, Int64.ofInt_mul, Int64.ofInt_mul]
  have eB : J o9 ((2 : Int32) * nI s).toNatClampNeg * J o9 ((2 : Int32) * nI s + 3).toNatClampNeg * (nI d - nI v).toInt64 + J o9 ((2 : Int32) * nI s + 2).toNatClampNeg * J o9 ((2 : Int32) * nI s + 1).toNatClampNeg * (nI v).toInt64 = Int64.ofInt (lnB f g v d) := by
    unfold lnB
    rw [pk_sub hv, nI_L (by omega), nI_L (by omega), j0, j1, j2, j3, Int64.ofInt_add, Int64.ofInt_mul, Int64.ofInt_mul, Int64.ofInt_mul, Int64.ofInt_mul, show ((d - v : Nat) : Int) = (d : Int) - v by omega]
  have l1 := lI_le (a := lnA f g o) (b := lnB f g v d) (by omega) (by omega)
  have l2 := lI_le (a := lnB f g v d) (b := lnA f g o) (by omega) (by omega)
  rw [← eA, ← eB] at l1 l2
  rcases ho9 with rfl | rfl
  all_goals
    refine rnX12_isBetween hG hk _ _ _ _ _ ?_
    refine sgX12_isBetween hG [] 80 0 ?_
    refine And.intro v0 ?_
    refine And.intro v1 ?_
    refine And.intro v2 ?_
    refine And.intro v3 ?_
    refine And.intro (fun c => ?_) (fun c => ?_)
    · have c := l1.mp c
      refine And.intro (fun e => ?_) (fun e => ?_)
      · have e := l2.mp e
        have x : cC (lnC f g v o d) = 0 := by
          unfold cC lnC
          rw [if_neg (by omega), if_pos (by omega)]
        rw [x] at h
        exact h
      · have e : ¬ lnB f g v d ≤ lnA f g o := fun q => e (l2.mpr q)
        have x : cC (lnC f g v o d) = -1 := by
          unfold cC lnC
          rw [if_pos (by omega)]
        rw [x] at h
        exact h
    · have c : ¬ lnA f g o ≤ lnB f g v d := fun q => c (l1.mpr q)
      have x : cC (lnC f g v o d) = 1 := by
        unfold cC lnC
        rw [if_neg (by omega), if_neg (by omega)]
      rw [x] at h
      exact h
def sPs (T : Nat → zSl) (z o d : Nat) : Bool := if z % d = 0 then (T (z / d)).1 && (!fLt ((o : Int), (d : Int)) (T (z / d)).2.1 && !fLt (T (z / d)).2.2 ((o : Int), (d : Int))) else (T (z / d)).1 && ((T (z / d + 1)).1 && (!decide (lnC (T (z / d)).2.1 (T (z / d + 1)).2.1 (z % d : Nat) o d < 0) && !decide (0 < lnC (T (z / d)).2.2 (T (z / d + 1)).2.2 (z % d : Nat) o d)))
def sPw (T : Nat → Nat → zSl) (w x y d : Nat) : Bool := sPs (T w) (if w = 0 then x else y) (if w = 0 then y else x) d
theorem zd_in {z d : Nat} (h0 : 1 ≤ d) (hz : z ≤ 6 * d) : z / d ≤ 6 ∧ (z % d ≠ 0 → z / d ≤ 5) ∧ z % d < d := by
  have e := Nat.div_add_mod z d
  have m := Nat.mod_lt z h0
  have k1 : z / d ≤ 6 := by
    rcases Nat.lt_or_ge 6 (z / d) with c | c
    · have := Nat.mul_le_mul_left d c
      omega
    · exact c
  refine ⟨k1, fun n => ?_, m⟩
  rcases Nat.lt_or_ge 5 (z / d) with c | c
  · have := Nat.mul_le_mul_left d c
    omega
  · exact c
theorem fB_od {o d : Nat} (ho : o ≤ 72) (hd : d ≤ 12) : fB ((o : Int), (d : Int)) := ⟨by show ((o : Nat) : Int).natAbs ≤ _; omega, by show ((d : Nat) : Int).natAbs ≤ _; omega⟩
theorem c_passes {G : zG} (hG : zGok G) {k' : Nat} (hk : 3 ≤ k') {I : Nat → Nat → Int32} {J : Nat → Nat → Int64} {past : Nat → Nat} {Q : zRt} {T : Nat → Nat → zSl} {r w : Nat} (hr : r < 3) (hw : w < 2) (hT : ∀ w k, w < 2 → k < 7 → cSlT I J (14 * r + 7 * w + k) (T w k)) (hW : ∀ w k, w < 2 → k < 7 → slW 1080000 (T w k)) {x y d : Nat} (h0 : 1 ≤ d) (hd : d ≤ 12) (hx : x ≤ 6 * d) (hy : y ≤ 6 * d) {R W X Y D : Int32} (eR : R = nI r) (eW : W = nI w) (eX : X = nI x) (eY : Y = nI y) (eD : D = nI d) (h : Q (some (.int (zb (sPw T w x y d)))) (zK0, I, J, zR0 past)) : zCalls G k' yX7_passes [.ref 130, .int R, .int W, .int X, .int Y, .int D] (zK0, I, J, zR0 past) Q := by
  subst eR
  subst eX
  subst eY
  subst eD
  have nd : ¬ nI d = 0 := nI_ne0 (by omega) (by omega)
  have z32 : ∀ (z o : Nat), z ≤ 6 * d → o ≤ 6 * d → Q (some (.int (zb (sPs (T w) z o d)))) (zK0, I, J, zR0 past) → aX7_passes G Q 32 [some (.ref 130), some (.int (nI r)), some (.int W), some (.int (nI x)), some (.int (nI y)), some (.int (nI d)), some (.int (nI z)), some (.int (nI o)), none, none, none, none] [] (zK0, I, J, zR0 past) := by
    intro z o hz ho h
    obtain ⟨k6, k5, km⟩ := zd_in h0 hz
    have ed := pk_div (a := z) (d := d) (by omega) (by omega) (by omega)
    have em := pk_rem (a := z) (d := d) (by omega) (by omega) (by omega)
    refine sgX7_passes hG [73, 149] 60 32 ?_
    refine And.intro nd ?_
    refine And.intro nd ?_
    refine c_at hG (by decide) r w (z / d) hr hw (by omega) rfl eW ed (fun p l u hf => ?_)
    have hf' := hf
    obtain ⟨⟨ep, el, eu⟩, p9, r1, r2, l6, u6⟩ := hf'
    have t1 : cAcc I J p l u (T w (z / d)) := (cAcc_T hf).mpr (hT w (z / d) hw (by omega))
    have w1 := hW w (z / d) hw (by omega)
    refine And.intro (fun c => ?_) (fun c => ?_)
    rotate_left
    · have c : nI z - nI z / nI d * nI d = 0 := c
      rw [em, show (0 : Int32) = nI 0 from rfl, nI_eq (by omega) (by omega)] at c
      refine zB_in p9 ?_
      refine c_contains hG (by decide) hf t1 (x := o) (d := d) (nI_L (by omega)) (nI_L (by omega)) (slW_B (by decide) w1) (fB_od (by omega) hd) ?_
      refine And.intro (zb_01 _) ?_
      unfold sPs at h
      rw [if_pos c] at h
      exact h
    have c : ¬ nI z - nI z / nI d * nI d = 0 := c
    rw [em, show (0 : Int32) = nI 0 from rfl, nI_eq (by omega) (by omega)] at c
    unfold sPs at h
    rw [if_neg c] at h
    have k5 := k5 c
    refine sgX7_passes hG [149] 60 73 ?_
    refine c_at hG (by decide) r w (z / d + 1) hr hw (by omega) rfl eW (by rw [ed, nI_1]) (fun p2 l2 u2 hf2 => ?_)
    have hf2' := hf2
    obtain ⟨⟨ep2, el2, eu2⟩, p92, r12, r22, l62, u62⟩ := hf2'
    have t2 : cAcc I J p2 l2 u2 (T w (z / d + 1)) := (cAcc_T hf2).mpr (hT w (z / d + 1) hw (by omega))
    have w2 := hW w (z / d + 1) hw (by omega)
    have no : ∀ {A B C D E F : Option Value}, Q (some (.int (zb false))) (zK0, I, J, zR0 past) → aX7_passes G Q 149 [some (.ref 130), some (.int (nI r)), some (.int W), some (.int (nI x)), some (.int (nI y)), some (.int (nI d)), A, B, C, D, E, F] [] (zK0, I, J, zR0 past) := by
      intro A B C D E F q
      refine sgX7_passes hG [] 60 149 ?_
      exact And.intro (Or.inl rfl) q
    refine zB_in p9 ?_
    refine And.intro (fun e => ?_) (fun e => ?_)
    · rw [t1.1] at e
      have e := z_nb1 (x := 0) e
      rw [Bool.not_eq_true'] at e
      rw [e] at h
      exact no h
    rw [t1.1] at e
    have e := (zb_eq0 _).mp e
    have e1 : (T w (z / d)).1 = true := by rw [Bool.not_eq_false'] at e; exact e
    rw [e1] at h
    refine zB_in p92 ?_
    refine And.intro (fun e => ?_) (fun e => ?_)
    · rw [t2.1] at e
      have e := z_nb1 (x := 0) e
      rw [Bool.not_eq_true'] at e
      rw [e] at h
      exact no h
    rw [t2.1] at e
    have e := (zb_eq0 _).mp e
    have e2 : (T w (z / d + 1)).1 = true := by rw [Bool.not_eq_false'] at e; exact e
    rw [e2] at h
    refine zB_in p9 (op_in r1 ?_)
    refine zB_in p92 (op_in r12 ?_)
    refine c_aboveLine hG (by decide) l l2 l6 l62 (t1.2 e1).1 (t2.2 e2).1 (w1 e1).1.1 (w2 e2).1.1 (v := z % d) (o := o) (d := d) (by omega) (by omega) hd em rfl rfl ?_
    refine And.intro (fun e => ?_) (fun e => ?_)
    · rw [cC_lt] at e
      rw [decide_eq_true e] at h
      exact no h
    rw [cC_lt] at e
    rw [decide_eq_false e] at h
    refine zB_in p9 (op_in r2 ?_)
    refine zB_in p92 (op_in r22 ?_)
    refine c_aboveLine hG (by decide) u u2 u6 u62 (t1.2 e1).2 (t2.2 e2).2 (w1 e1).1.2 (w2 e2).1.2 (v := z % d) (o := o) (d := d) (by omega) (by omega) hd em rfl rfl ?_
    refine And.intro (fun e => ?_) (fun e => ?_)
    · rw [cC_gt] at e
      rw [decide_eq_true e] at h
      exact no h
    rw [cC_gt] at e
    rw [decide_eq_false e] at h
    exact And.intro (Or.inr rfl) h
  refine rnX7_passes hG hk 130 _ _ _ _ _ ?_
  refine sgX7_passes hG [32] 60 0 ?_
  refine And.intro (fun _ => ?_) (fun c => absurd (by rw [show (1 : Int32) = nI 1 from rfl, nI_leI (by omega) (by omega)]; omega) c)
  unfold sPw at h
  rcases (show w = 0 ∨ w = 1 by omega) with rfl | rfl
  · refine And.intro (fun c => absurd (by rw [eW]; rfl) c) (fun _ => ?_)
    refine And.intro (fun c => absurd (by rw [eW]; rfl) c) (fun _ => ?_)
    exact z32 x y hx hy h
  · refine And.intro (fun _ => ?_) (fun c => absurd c (by rw [eW]; decide))
    refine And.intro (fun _ => ?_) (fun c => absurd c (by rw [eW]; decide))
    exact z32 y x hy hx h
theorem m_comesBy {G : zG} (hG : zGok G) {k' : Nat} (hk : 2 ≤ k') {I : Nat → Nat → Int32} {J : Nat → Nat → Int64} {past : Nat → Nat} {Q : zRt} {T : Nat → Nat → zSl} {r w : Nat} (hr : r < 3) (hw : w < 2) (hT : ∀ w k, w < 2 → k < 7 → mSl I J (14 * r + 7 * w + k) (T w k)) (hW : ∀ w k, w < 2 → k < 7 → slW 1080000 (T w k)) {x y d : Nat} (h0 : 1 ≤ d) (hd : d ≤ 12) (hx : x ≤ 6 * d) (hy : y ≤ 6 * d) {R W X Y D : Int32} (eR : R = nI r) (eW : W = nI w) (eX : X = nI x) (eY : Y = nI y) (eD : D = nI d) (h : Q (some (.int (zb (sPw T w x y d)))) (zK0, I, J, zR0 past)) : zCalls G k' yX12_comesBy [.ref 305, .int R, .int W, .int X, .int Y, .int D] (zK0, I, J, zR0 past) Q := by
  subst eR
  subst eX
  subst eY
  subst eD
  have nd : ¬ nI d = 0 := nI_ne0 (by omega) (by omega)
  have z24 : ∀ (z o : Nat), z ≤ 6 * d → o ≤ 6 * d → Q (some (.int (zb (sPs (T w) z o d)))) (zK0, I, J, zR0 past) → aX12_comesBy G Q 24 [some (.ref 305), some (.int (nI r)), some (.int W), some (.int (nI x)), some (.int (nI y)), some (.int (nI d)), some (.int (nI z)), some (.int (nI o)), none, none, none] [] (zK0, I, J, zR0 past) := by
    intro z o hz ho h
    obtain ⟨k6, k5, km⟩ := zd_in h0 hz
    have ed := pk_div (a := z) (d := d) (by omega) (by omega) (by omega)
    have em := pk_rem (a := z) (d := d) (by omega) (by omega) (by omega)
    have s1 := hT w (z / d) hw (by omega)
    have w1 := hW w (z / d) hw (by omega)
    have i0 : (2 : Int32) * nI (14 * r + 7 * w + z / d) = nI (2 * (14 * r + 7 * w + z / d)) := by rw [show (2 : Int32) = nI 2 from rfl, pk_mul]
    have i1 : (2 : Int32) * nI (14 * r + 7 * w + z / d) + 1 = nI (2 * (14 * r + 7 * w + z / d) + 1) := by rw [i0, nI_1]
    have n0 := nI_clamp (n := 14 * r + 7 * w + z / d) (by omega)
    have v0 : vp_in ((2 : Int32) * nI (14 * r + 7 * w + z / d)) 84 := by rw [i0]; exact vp_in_nI (by omega) (by omega)
    have v1 : vp_in ((2 : Int32) * nI (14 * r + 7 * w + z / d) + 1) 84 := by rw [i1]; exact vp_in_nI (by omega) (by omega)
    have n1 : ((2 : Int32) * nI (14 * r + 7 * w + z / d)).toNatClampNeg = 2 * (14 * r + 7 * w + z / d) := by rw [i0, nI_clamp (by omega)]
    have n2 : ((2 : Int32) * nI (14 * r + 7 * w + z / d) + 1).toNatClampNeg = 2 * (14 * r + 7 * w + z / d) + 1 := by rw [i1, nI_clamp (by omega)]
    refine sgX12_comesBy hG [59, 134, 188] 60 24 ?_
    refine And.intro nd ?_
    refine And.intro nd ?_
    refine m_sliceAt hG (by decide) r w (z / d) rfl eW ed ?_
    refine And.intro (by exact vp_in_nI (by omega) (by omega)) ?_
    refine And.intro (fun c => ?_) (fun c => ?_)
    rotate_left
    · have c : I 312 (nI (14 * r + 7 * w + z / d)).toNatClampNeg = 0 := c
      rw [n0, s1.1] at c
      have c := (zb_eq0 _).mp c
      unfold sPs at h
      rw [c] at h
      refine And.intro (Or.inl rfl) ?_
      split at h
      · exact h
      · exact h
    have c : ¬ I 312 (nI (14 * r + 7 * w + z / d)).toNatClampNeg = 0 := c
    rw [n0, s1.1] at c
    have e1 := z_nb1 (x := 0) c
    obtain ⟨⟨l1, l2⟩, u1, u2⟩ := s1.2 e1
    obtain ⟨⟨f1, f2⟩, _⟩ := w1 e1
    refine sgX12_comesBy hG [132, 134, 188] 60 59 ?_
    refine And.intro (fun c => ?_) (fun c => ?_)
    rotate_left
    · have c : nI z - nI z / nI d * nI d = 0 := c
      rw [em, show (0 : Int32) = nI 0 from rfl, nI_eq (by omega) (by omega)] at c
      unfold sPs at h
      rw [if_pos c, e1] at h
      have no : ∀ {A B C D E : Option Value}, Q (some (.int (zb false))) (zK0, I, J, zR0 past) → aX12_comesBy G Q 132 [some (.ref 305), some (.int (nI r)), some (.int W), some (.int (nI x)), some (.int (nI y)), some (.int (nI d)), A, B, C, D, E] [] (zK0, I, J, zR0 past) := by
        intro A B C D E q
        refine sgX12_comesBy hG [] 60 132 ?_
        exact And.intro (Or.inl rfl) q
      refine And.intro v0 ?_
      refine And.intro v1 ?_
      refine m_isLessI hG (by decide) (f := ((o : Int), (d : Int))) (g := (T w (z / d)).2.1) (nI_L (by omega)) (nI_L (by omega)) (by rw [n1]; exact l1) (by rw [n2]; exact l2) (fB_od (by omega) hd) (fW_Bb (by decide) f1) ?_
      refine And.intro (fun c => ?_) (fun c => ?_)
      · have c := z_nb1 (x := 0) c
        rw [c] at h
        exact no h
      have c := (zb_eq0 _).mp c
      rw [c] at h
      refine And.intro v0 ?_
      refine And.intro v1 ?_
      refine m_isLessI hG (by decide) (f := (T w (z / d)).2.2) (g := ((o : Int), (d : Int))) (by rw [n1]; exact u1) (by rw [n2]; exact u2) (nI_L (by omega)) (nI_L (by omega)) (fW_Bb (by decide) f2) (fB_od (by omega) hd) ?_
      refine And.intro (fun c => ?_) (fun c => ?_)
      · have c := z_nb1 (x := 0) c
        rw [c] at h
        exact no h
      have c := (zb_eq0 _).mp c
      rw [c] at h
      exact And.intro (Or.inr rfl) h
    have c : ¬ nI z - nI z / nI d * nI d = 0 := c
    rw [em, show (0 : Int32) = nI 0 from rfl, nI_eq (by omega) (by omega)] at c
    unfold sPs at h
    rw [if_neg c, e1] at h
    have k5 := k5 c
    have s2 := hT w (z / d + 1) hw (by omega)
    have w2 := hW w (z / d + 1) hw (by omega)
    have eN : nI (14 * r + 7 * w + z / d) + 1 = nI (14 * r + 7 * w + (z / d + 1)) := by rw [nI_1]; rfl
    have e312 : I 312 (nI (14 * r + 7 * w + z / d) + 1).toNatClampNeg = zb (T w (z / d + 1)).1 := by rw [eN, nI_clamp (by omega)]; exact s2.1
    have no : ∀ {A B C D E : Option Value}, Q (some (.int (zb false))) (zK0, I, J, zR0 past) → aX12_comesBy G Q 188 [some (.ref 305), some (.int (nI r)), some (.int W), some (.int (nI x)), some (.int (nI y)), some (.int (nI d)), A, B, C, D, E] [] (zK0, I, J, zR0 past) := by
      intro A B C D E q
      refine sgX12_comesBy hG [] 60 188 ?_
      exact And.intro (Or.inl rfl) q
    refine sgX12_comesBy hG [148, 188] 60 134 ?_
    refine And.intro (by rw [eN]; exact vp_in_nI (by omega) (by omega)) ?_
    refine And.intro (fun e => ?_) (fun e => ?_)
    rotate_left
    · have e : I 312 (nI (14 * r + 7 * w + z / d) + 1).toNatClampNeg = 0 := e
      rw [e312] at e
      have e := (zb_eq0 _).mp e
      rw [e] at h
      exact And.intro (Or.inl rfl) h
    have e : ¬ I 312 (nI (14 * r + 7 * w + z / d) + 1).toNatClampNeg = 0 := e
    rw [e312] at e
    have e2 := z_nb1 (x := 0) e
    rw [e2] at h
    obtain ⟨⟨l3, l4⟩, u3, u4⟩ := s2.2 e2
    obtain ⟨⟨f3, f4⟩, _⟩ := w2 e2
    rw [show 2 * (14 * r + 7 * w + (z / d + 1)) = 2 * (14 * r + 7 * w + z / d) + 2 by omega] at l3 l4 u3 u4
    refine sgX12_comesBy hG [188] 60 148 ?_
    refine m_isBetween hG (by decide) 313 (Or.inl rfl) (s := 14 * r + 7 * w + z / d) (by omega) l1 l2 l3 l4 f1 f3 (v := z % d) (o := o) (d := d) (by omega) (by omega) hd rfl em rfl rfl ?_
    refine And.intro (fun e => ?_) (fun e => ?_)
    · rw [cC_lt] at e
      rw [decide_eq_true e] at h
      exact no h
    rw [cC_lt] at e
    rw [decide_eq_false e] at h
    refine m_isBetween hG (by decide) 314 (Or.inr rfl) (s := 14 * r + 7 * w + z / d) (by omega) u1 u2 u3 u4 f2 f4 (v := z % d) (o := o) (d := d) (by omega) (by omega) hd rfl em rfl rfl ?_
    refine And.intro (fun e => ?_) (fun e => ?_)
    · rw [cC_gt] at e
      rw [decide_eq_true e] at h
      exact no h
    rw [cC_gt] at e
    rw [decide_eq_false e] at h
    exact And.intro (Or.inr rfl) h
  refine rnX12_comesBy hG hk 305 _ _ _ _ _ ?_
  refine sgX12_comesBy hG [24] 60 0 ?_
  unfold sPw at h
  rcases (show w = 0 ∨ w = 1 by omega) with rfl | rfl
  · refine And.intro (fun c => absurd (by rw [eW]; rfl) c) (fun _ => ?_)
    refine And.intro (fun c => absurd (by rw [eW]; rfl) c) (fun _ => ?_)
    exact z24 x y hx hy h
  · refine And.intro (fun _ => ?_) (fun c => absurd c (by rw [eW]; decide))
    refine And.intro (fun _ => ?_) (fun c => absurd c (by rw [eW]; decide))
    exact z24 y x hy hx h
