-- ===== how large corners are =====
theorem k_bd {π : zPl} (hv : vRw π) {i j : Nat} (hi : i < π.1 + 4) (hj : j < π.1 + 4) : (kD π i j).natAbs ≤ 50 ∧ (kX π i j).natAbs ≤ 500 ∧ (kY π i j).natAbs ≤ 500 := by
  obtain ⟨a1, b1, c1⟩ := pR_bd hv hi
  obtain ⟨a2, b2, c2⟩ := pR_bd hv hj
  have x1 := bd_sub (bd_mul a1 b2) (bd_mul a2 b1)
  have x2 := bd_sub (bd_mul c1 b2) (bd_mul c2 b1)
  have x3 := bd_sub (bd_mul a1 c2) (bd_mul a2 c1)
  unfold kD kX kY rI
  exact ⟨x1, x2, x3⟩
theorem kU_bd {π : zPl} (hv : vRw π) {i j : Nat} (hi : i < π.1 + 4) (hj : j < π.1 + 4) {a b : Int} (ha : a.natAbs ≤ 9) (hb : b.natAbs ≤ 9) : (a * kX π i j + b * kY π i j).natAbs ≤ 9000 := by
  obtain ⟨_, x, y⟩ := k_bd hv hi hj
  exact bd_add (bd_mul ha x) (bd_mul hb y)
theorem fRed_fB {a b : Int} (h : b ≠ 0) (ha : a.natAbs ≤ 1000000000) (hb : b.natAbs ≤ 1000000000) : fB (fRed a b) := by
  have := fRed_bd (a := a) h
  exact ⟨by omega, by omega⟩
/-- a list of fractions that are small -/
def lB (L : List zFr) : Prop := ∀ f, f ∈ L → isR f ∧ fB f
theorem lB_nil : lB [] := fun f hf => absurd hf List.not_mem_nil
theorem lB_app {L M : List zFr} (h1 : lB L) (h2 : lB M) : lB (L ++ M) := fun f hf => (List.mem_append.mp hf).elim (h1 f) (h2 f)
theorem lB_one {f : zFr} (h1 : isR f) (h2 : fB f) : lB [f] := fun x hx => by rw [List.mem_singleton.mp hx]; exact ⟨h1, h2⟩
theorem lB_mx {L : List zFr} (h : lB L) {g : zFr} (e : mxL L = some g) : isR g ∧ fB g := h g (mxL_in (fun x hx => (h x hx).1) e)
theorem kL_lB {π : zPl} (hv : vRw π) {i j : Nat} (hi : i < π.1 + 4) (hj : j < π.1 + 4) {a b : Int} (ha : a.natAbs ≤ 9) (hb : b.natAbs ≤ 9) : lB (kL π a b i j) := by
  intro f hf
  obtain ⟨_, d, e⟩ := kL_1 hf
  have x := k_bd hv hi hj
  have y := kU_bd hv hi hj ha hb
  refine ⟨kL_R hf, ?_⟩
  rw [e]
  exact fRed_fB d (by omega) (by omega)
theorem kC_lB {π : zPl} (hv : vRw π) {i n : Nat} (hi : i < π.1 + 4) (hn : n ≤ π.1 + 4) {a b : Int} (ha : a.natAbs ≤ 9) (hb : b.natAbs ≤ 9) : lB (kC π a b i n) := by
  intro f hf
  obtain ⟨j, h1, h2⟩ := (kC_m n).mp hf
  exact kL_lB hv hi (by omega) ha hb f h2
theorem kCo_lB {π : zPl} (hv : vRw π) {n : Nat} (hn : n ≤ π.1 + 4) {a b : Int} (ha : a.natAbs ≤ 9) (hb : b.natAbs ≤ 9) : lB (kCo π a b n) := by
  intro f hf
  obtain ⟨i, j, h1, h2, h3⟩ := (kCo_m n).mp hf
  exact kL_lB hv (by omega) (by omega) ha hb f h3
-- ===== the class's mosts =====
def moF (past : Nat → Nat) (w p b v : Nat) : Prop := (w < 4 ∧ p = 293 + 3 * w ∧ b = 294 + 3 * w ∧ v = 295 + 3 * w) ∧ Nat.beq (zKd zK0 p).1 3 = true ∧ zR0 past p 3 = some b ∧ zR0 past p 4 = some v ∧ Nat.beq (zKd zK0 b).1 6 = true ∧ Nat.beq (zKd zK0 v).1 6 = true
theorem moF_a : ∀ w, w < 4 → Nat.beq (293 + 3 * w) 26 = false ∧ Nat.beq (zKd zK0 (293 + 3 * w)).1 3 = true ∧ zNth none (zNth [] zRt0 (293 + 3 * w)) 3 = some (294 + 3 * w) ∧ zNth none (zNth [] zRt0 (293 + 3 * w)) 4 = some (295 + 3 * w) ∧ Nat.beq (zKd zK0 (294 + 3 * w)).1 6 = true ∧ Nat.beq (zKd zK0 (295 + 3 * w)).1 6 = true ∧ zNth none (zNth [] zRt0 268) w = some (293 + 3 * w) := by decide +kernel
theorem moF_of (past : Nat → Nat) {w : Nat} (hw : w < 4) : moF past w (293 + 3 * w) (294 + 3 * w) (295 + 3 * w) := by
  obtain ⟨a, b, c, d, e, f, _⟩ := moF_a w hw
  exact ⟨⟨hw, rfl, rfl, rfl⟩, b, by rw [zR0_t a]; exact c, by rw [zR0_t a]; exact d, e, f⟩
theorem moF_r (past : Nat → Nat) {w : Nat} (hw : w < 4) : zR0 past 268 w = some (293 + 3 * w) := by
  rw [zR0_t (by decide)]; exact (moF_a w hw).2.2.2.2.2.2
def cMo (I : Nat → Nat → Int32) (J : Nat → Nat → Int64) (p b : Nat) (A B : Int) (o : Option zFr) : Prop := I p 0 = Int32.ofInt A ∧ I p 1 = Int32.ofInt B ∧ I p 2 = zb o.isSome ∧ ∀ f, o = some f → cFx J b f
theorem cMo_fr {I I1 : Nat → Nat → Int32} {J J1 : Nat → Nat → Int64} {p b : Nat} {A B : Int} {o : Option zFr} (h : cMo I J p b A B o) (h1 : I1 p = I p) (h2 : J1 b = J b) : cMo I1 J1 p b A B o := by
  obtain ⟨a, c, d, e⟩ := h
  exact ⟨by rw [h1]; exact a, by rw [h1]; exact c, by rw [h1]; exact d, fun f hf => cFx_fr (e f hf) h2⟩
theorem c_offer {G : zG} (hG : zGok G) {k' : Nat} (hk : 4 ≤ k') {I : Nat → Nat → Int32} {J : Nat → Nat → Int64} {past : Nat → Nat} {Q : zRt} {w p b v : Nat} (hf : moF past w p b v) {A B : Int} {o : Option zFr} (hm : cMo I J p b A B o) (ho : ∀ g, o = some g → fB g) {up lo : Int} {U L : Int64} (eU : U = Int64.ofInt up) (eL : L = Int64.ofInt lo) (bu : up.natAbs ≤ 1000000000) (bl : lo.natAbs ≤ 1000000000) (l0 : lo ≠ 0) (h : ∀ I' J', (∀ x, x ≠ p → I' x = I x) → (∀ x, x ≠ b → x ≠ v → J' x = J x) → cMo I' J' p b A B (ofr o (fRed up lo)) → Q none (zK0, I', J', zR0 past)) : zCalls G k' yX3_offer [.ref p, .long U, .long L] (zK0, I, J, zR0 past) Q := by
  obtain ⟨⟨hw, ep, eb, ev⟩, p3, r3, r4, b6, v6⟩ := hf
  have fb := fRed_fB (a := up) l0 bu bl
  refine rnX3_offer hG hk p U L ?_
  refine sgX3_offer hG [30] 60 0 ?_
  refine zB_in p3 (op_in r4 ?_)
  refine zB_in v6 ?_
  refine c_putI hG (by decide) v v6 eU eL (by omega) (by omega) l0 (fun J1 f1 q1 => ?_)
  have m0 : cMo I J1 p b A B o := cMo_fr hm rfl (f1 b (by omega))
  have z30 : ofr o (fRed up lo) = some (fRed up lo) → aX3_offer G Q 30 [some (.ref p), some (.long U), none, some (.long L), none] [] (zK0, I, J1, zR0 past) := by
    intro e
    refine sgX3_offer hG [] 60 30 ?_
    refine zB_in p3 (op_in r3 ?_)
    refine zB_in p3 (op_in r4 ?_)
    refine zB_in b6 ?_
    refine c_rcopyI hG (by decide) b v b6 v6 (by omega) q1 (fun J2 f2 q2 => ?_)
    refine zB_in p3 (And.intro (Or.inr rfl) ?_)
    refine h _ J2 (fun x hx => z_upI_ne hx) (fun x x1 x2 => (f2 x x1).trans (f1 x x2)) ?_
    rw [e]
    refine ⟨?_, ?_, ?_, fun f hf => ?_⟩
    · rw [uI_k (by decide)]; exact hm.1
    · rw [uI_k (by decide)]; exact hm.2.1
    · rw [uI_s]; rfl
    · cases hf; exact q2
  refine zB_in p3 ?_
  cases o with
  | none => exact And.intro (fun _ => z30 rfl) (fun c => absurd hm.2.2.1 c)
  | some g =>
    have bg := ho g rfl
    refine And.intro (fun c => absurd (c.symm.trans hm.2.2.1) (show ¬ (0 : Int32) = zb true by decide)) (fun _ => ?_)
    refine zB_in p3 (op_in r3 ?_)
    refine zB_in p3 (op_in r4 ?_)
    refine zB_in b6 ?_
    refine c_isBelowI hG (by decide) b v b6 v6 (m0.2.2.2 g rfl) q1 bg fb ?_
    refine And.intro (fun c => ?_) (fun c => ?_)
    · have c := (zb_eq0 _).mp c
      refine h I J1 (fun _ _ => rfl) (fun x _ x2 => f1 x x2) ?_
      have e : ofr (some g) (fRed up lo) = some g := if_neg (by rw [c]; decide)
      rw [e]
      exact m0
    · have c := z_nb1 (x := 0) c
      exact z30 (if_pos c)
/-- one more, behind a list -/
theorem c_offerL {G : zG} (hG : zGok G) {k' : Nat} (hk : 4 ≤ k') {I : Nat → Nat → Int32} {J : Nat → Nat → Int64} {past : Nat → Nat} {Q : zRt} {w p b v : Nat} (hf : moF past w p b v) {A B : Int} {M : List zFr} (hm : cMo I J p b A B (mxL M)) (hM : lB M) {up lo : Int} {U L : Int64} (eU : U = Int64.ofInt up) (eL : L = Int64.ofInt lo) (bu : up.natAbs ≤ 1000000000) (bl : lo.natAbs ≤ 1000000000) (l0 : lo ≠ 0) (h : ∀ I' J', (∀ x, x ≠ p → I' x = I x) → (∀ x, x ≠ b → x ≠ v → J' x = J x) → cMo I' J' p b A B (mxL (M ++ [fRed up lo])) → Q none (zK0, I', J', zR0 past)) : zCalls G k' yX3_offer [.ref p, .long U, .long L] (zK0, I, J, zR0 past) Q := by
  rw [mxL_push] at h
  exact c_offer hG hk hf hm (fun g e => (lB_mx hM e).2) eU eL bu bl l0 h
theorem k_I (π : zPl) (i j : Nat) : pR π i 0 * pR π j 1 - pR π j 0 * pR π i 1 = Int32.ofInt (kD π i j) ∧ pR π i 2 * pR π j 1 - pR π j 2 * pR π i 1 = Int32.ofInt (kX π i j) ∧ pR π i 0 * pR π j 2 - pR π j 0 * pR π i 2 = Int32.ofInt (kY π i j) := by
  unfold kD kX kY rI
  refine ⟨?_, ?_, ?_⟩
  all_goals rw [Int32.ofInt_sub, Int32.ofInt_mul, Int32.ofInt_mul, ← i_of, ← i_of, ← i_of, ← i_of]
theorem kS_1 (d : Int) : kS d = 1 ∨ kS d = -1 := by unfold kS; split <;> omega
theorem kS_bd (d : Int) {x : Int} {B : Nat} (h : x.natAbs ≤ B) : (kS d * x).natAbs ≤ B := by
  rcases kS_1 d with e | e
  · rw [e]; omega
  · rw [e]; omega
theorem c_offerCorner {G : zG} (hG : zGok G) {k' : Nat} (hk : 5 ≤ k') {I : Nat → Nat → Int32} {J : Nat → Nat → Int64} {past : Nat → Nat} {Q : zRt} {π : zPl} (hc : cPl I J 1 π) (hv : vPl π) {w p b v : Nat} (hf : moF past w p b v) {A B : Int} (ba : A.natAbs ≤ 9) (bb : B.natAbs ≤ 9) {M : List zFr} (hm : cMo I J p b A B (mxL M)) (hM : lB M) {i j : Nat} (hi : i < π.1 + 4) (hj : j < π.1 + 4) (h : ∀ I' J', (∀ x, x ≠ p → I' x = I x) → (∀ x, x ≠ b → x ≠ v → J' x = J x) → cMo I' J' p b A B (mxL (M ++ kL π A B i j)) → Q none (zK0, I', J', zR0 past)) : zCalls G k' yX3_offerCorner [.ref p, .ref 1, .int (nI i), .int (nI j)] (zK0, I, J, zR0 past) Q := by
  have h6 := hv.1.1
  have hf0 := hf
  obtain ⟨⟨hw, ep, eb, ev⟩, p3, r3, r4, b6, v6⟩ := hf
  obtain ⟨bD, bX, bY⟩ := k_bd hv.1 hi hj
  have bU := kU_bd hv.1 hi hj ba bb
  obtain ⟨eD, eX, eY⟩ := k_I π i j
  have no : kH π i j = false → Q none (zK0, I, J, zR0 past) := by
    intro e
    refine h I J (fun _ _ => rfl) (fun _ _ _ => rfl) ?_
    unfold kL
    rw [e, if_neg (by decide), List.append_nil]
    exact hm
  have z97 : ∀ (s D X Y : Int32), s = Int32.ofInt (kS (kD π i j)) → D = Int32.ofInt (kD π i j) → X = Int32.ofInt (kX π i j) → Y = Int32.ofInt (kY π i j) → aX3_offerCorner G Q 97 [some (.ref p), some (.ref 1), some (.int (nI i)), some (.int (nI j)), some (.int D), some (.int X), some (.int Y), none] [.int s] (zK0, I, J, zR0 past) := by
    intro s D X Y es eD eX eY
    have d0 : D = 0 ↔ kD π i j = 0 := by rw [eD, show (0 : Int32) = Int32.ofInt 0 from rfl, iI_eq (by omega) (by decide)]
    refine sgX3_offerCorner hG [] 60 97 ?_
    refine And.intro (fun c => ?_) (fun c => ?_)
    · rw [d0] at c
      exact no (by unfold kH; rw [c, kHq_0])
    · rw [d0] at c
      refine c_holds hG (by decide) (Or.inl rfl) hc h6 _ _ _ _ ?_
      have eh := zHd_k hv.1 (X := s * X) (Y := s * Y) (D := s * D) (Nat.le_trans (kS_bd (kD π i j) bX) (by decide)) (Nat.le_trans (kS_bd (kD π i j) bY) (by decide)) (Nat.le_trans (kS_bd (kD π i j) bD) (by decide)) (by rw [es, eX, Int32.ofInt_mul]) (by rw [es, eY, Int32.ofInt_mul]) (by rw [es, eD, Int32.ofInt_mul])
      have ek : kH π i j = zHd π (s * X) (s * Y) (s * D) (-1) := by rw [eh]; unfold kH kHq; rw [decide_eq_true c, Bool.true_and]
      refine And.intro (fun d => ?_) (fun d => ?_)
      · exact no (by rw [ek]; exact (zb_eq0 _).mp d)
      · have d := z_nb1 (x := 0) d
        rw [d] at ek
        refine zB_in p3 ?_
        refine zB_in p3 ?_
        refine zB_in p3 ?_
        have e1 : (I p 0).toInt64 * X.toInt64 + (I p 1).toInt64 * Y.toInt64 = Int64.ofInt (A * kX π i j + B * kY π i j) := by
          rw [hm.1, hm.2.1, eX, eY, iI_l (by omega), iI_l (by omega), iI_l (by omega), iI_l (by omega), Int64.ofInt_add, Int64.ofInt_mul, Int64.ofInt_mul]
        refine c_offerL hG (by decide) hf0 hm hM e1 (by rw [eD, iI_l (by omega)]) (by omega) (by omega) c (fun I1 J1 f1 g1 m1 => ?_)
        refine h I1 J1 f1 g1 ?_
        unfold kL
        rw [if_pos ek]
        exact m1
  refine rnX3_offerCorner hG hk p 1 _ _ ?_
  refine sgX3_offerCorner hG [97] 90 0 ?_
  refine c_part hG (by decide) (Or.inl rfl) hc h6 i 0 hi (by decide) ?_
  refine c_part hG (by decide) (Or.inl rfl) hc h6 j 1 hj (by decide) ?_
  refine c_part hG (by decide) (Or.inl rfl) hc h6 j 0 hj (by decide) ?_
  refine c_part hG (by decide) (Or.inl rfl) hc h6 i 1 hi (by decide) ?_
  refine c_part hG (by decide) (Or.inl rfl) hc h6 i 2 hi (by decide) ?_
  refine c_part hG (by decide) (Or.inl rfl) hc h6 j 1 hj (by decide) ?_
  refine c_part hG (by decide) (Or.inl rfl) hc h6 j 2 hj (by decide) ?_
  refine c_part hG (by decide) (Or.inl rfl) hc h6 i 1 hi (by decide) ?_
  refine c_part hG (by decide) (Or.inl rfl) hc h6 i 0 hi (by decide) ?_
  refine c_part hG (by decide) (Or.inl rfl) hc h6 j 2 hj (by decide) ?_
  refine c_part hG (by decide) (Or.inl rfl) hc h6 j 0 hj (by decide) ?_
  refine c_part hG (by decide) (Or.inl rfl) hc h6 i 2 hi (by decide) ?_
  have l0 : 0 ≤ pR π i 0 * pR π j 1 - pR π j 0 * pR π i 1 ↔ 0 ≤ kD π i j := by rw [eD, show (0 : Int32) = Int32.ofInt 0 from rfl, iI_le (by decide) (by omega)]
  refine And.intro (fun c => ?_) (fun c => ?_)
  · rw [l0] at c
    exact z97 1 _ _ _ (by unfold kS; rw [if_neg (by omega)]; rfl) eD eX eY
  · rw [l0] at c
    exact z97 (-1) _ _ _ (by unfold kS; rw [if_pos (by omega)]; rfl) eD eX eY
theorem c_overCorners {G : zG} (hG : zGok G) {k' : Nat} (hk : 6 ≤ k') {I : Nat → Nat → Int32} {J : Nat → Nat → Int64} {past : Nat → Nat} {Q : zRt} {π : zPl} (hc : cPl I J 1 π) (hv : vPl π) {w p b v : Nat} (hf : moF past w p b v) {A B : Int} (ba : A.natAbs ≤ 9) (bb : B.natAbs ≤ 9) (hm : cMo I J p b A B none) (h : ∀ I' J', (∀ x, x ≠ p → I' x = I x) → (∀ x, x ≠ b → x ≠ v → J' x = J x) → cMo I' J' p b A B (mx0 π A B) → Q none (zK0, I', J', zR0 past)) : zCalls G k' yX3_overCorners [.ref p, .ref 1] (zK0, I, J, zR0 past) Q := by
  have h6 := hv.1.1
  have h8 := hv.2.1
  obtain ⟨⟨hw, ep, eb, ev⟩, p3, _⟩ := id hf
  have pl : ∀ I' J', (∀ x, x ≠ p → I' x = I x) → (∀ x, x ≠ b → x ≠ v → J' x = J x) → cPl I' J' 1 π := fun I' J' f g => cPl_rg hc h8 (fun x a c => ⟨f x (by omega), g x (by omega) (by omega)⟩)
  have outer : ∀ (r i : Nat) (vi : Int32) (oj : Option Value) (I' : Nat → Nat → Int32) (J' : Nat → Nat → Int64), (oj = none ∨ ∃ z, oj = some (.int z)) → vi = nI i → i + r = π.1 + 4 → (∀ x, x ≠ p → I' x = I x) → (∀ x, x ≠ b → x ≠ v → J' x = J x) → cMo I' J' p b A B (mxL (kCo π A B i)) → aX3_overCorners G Q 2 [some (.ref p), some (.ref 1), some (.int vi), oj] [] (zK0, I', J', zR0 past) := by
    intro r
    induction r with
    | zero =>
      intro i vi oj I' J' _ ei hi f g m
      subst ei
      have e : i = π.1 + 4 := by omega
      subst e
      refine sgX3_overCorners hG [2, 12] 60 2 ?_
      refine c_allRows hG (by decide) (π := π) (Or.inl rfl) (pl I' J' f g).1 ?_
      refine And.intro (fun _ => ?_) (fun q => absurd (Int32.le_refl _) q)
      rw [kCo_mx] at m
      exact h I' J' f g m
    | succ r ih =>
      have inner : ∀ (q i j : Nat) (vi vj : Int32) (I' : Nat → Nat → Int32) (J' : Nat → Nat → Int64), vi = nI i → vj = nI j → i + (r + 1) = π.1 + 4 → j + q = i → (∀ x, x ≠ p → I' x = I x) → (∀ x, x ≠ b → x ≠ v → J' x = J x) → cMo I' J' p b A B (mxL (kCo π A B i ++ kC π A B i j)) → aX3_overCorners G Q 12 [some (.ref p), some (.ref 1), some (.int vi), some (.int vj)] [] (zK0, I', J', zR0 past) := by
        intro q
        induction q with
        | zero =>
          intro i j vi vj I' J' ei ej hi hj f g m
          subst ei
          subst ej
          have e : j = i := by omega
          subst e
          refine sgX3_overCorners hG [2, 12] 60 12 ?_
          refine And.intro (fun _ => ?_) (fun q => absurd (Int32.le_refl _) q)
          exact ih (j + 1) _ _ I' J' (Or.inr ⟨_, rfl⟩) (by rw [nI_1]) (by omega) f g m
        | succ q ihq =>
          intro i j vi vj I' J' ei ej hi hj f g m
          subst ei
          subst ej
          refine sgX3_overCorners hG [2, 12] 60 12 ?_
          refine And.intro (fun q => absurd q (by rw [nI_leI (by omega) (by omega)]; omega)) (fun _ => ?_)
          refine zB_in p3 ?_
          refine c_offerCorner hG (by decide) (pl I' J' f g) hv hf ba bb m (lB_app (kCo_lB hv.1 (by omega) ba bb) (kC_lB hv.1 (by omega) (by omega) ba bb)) (i := i) (j := j) (by omega) (by omega) (fun I1 J1 f1 g1 m1 => ?_)
          rw [List.append_assoc] at m1
          exact ihq i (j + 1) _ _ I1 J1 rfl (by rw [nI_1]) hi (by omega) (fun x hx => (f1 x hx).trans (f x hx)) (fun x a c => (g1 x a c).trans (g x a c)) m1
      intro i vi oj I' J' ho ei hi f g m
      subst ei
      refine sgX3_overCorners hG [2, 12] 60 2 ?_
      refine c_allRows hG (by decide) (π := π) (Or.inl rfl) (pl I' J' f g).1 ?_
      refine And.intro (fun q => absurd q (by rw [nI_leI (by omega) (by omega)]; omega)) (fun _ => ?_)
      exact inner i i 0 _ 0 I' J' rfl rfl hi (by omega) f g (by show cMo _ _ _ _ _ _ (mxL (_ ++ [])); rw [List.append_nil]; exact m)
  refine rnX3_overCorners hG hk p 1 ?_
  refine sgX3_overCorners hG [2, 12] 60 0 ?_
  exact outer (π.1 + 4) 0 0 none I J (Or.inl rfl) rfl (by omega) (fun _ _ => rfl) (fun _ _ _ => rfl) hm
