-- ===== the ends of slices, the whole points =====
def eF (a b : Int) (w k : Nat) (f : zFr) : zFr := fRed ((if w = 0 then a else b) * k * f.2 + (if w = 0 then b else a) * f.1) f.2
def eL (π : zPl) (a b : Int) (w k : Nat) : List zFr := if (sT0 π w k).1 then [eF a b w k (sT0 π w k).2.1, eF a b w k (sT0 π w k).2.2] else []
def eLs (π : zPl) (a b : Int) (w : Nat) : Nat → List zFr
  | 0 => []
  | k + 1 => eLs π a b w k ++ eL π a b w k
def pF (a b : Int) (q : Nat × Nat) : zFr := (zSm a b q, 1)
theorem eU_bd {a b : Int} (ha : a.natAbs ≤ 9) (hb : b.natAbs ≤ 9) {w k : Nat} (hk : k < 7) {f : zFr} (hf : fW 5 f) : ((if w = 0 then a else b) * k * f.2 + (if w = 0 then b else a) * f.1).natAbs ≤ 1000 := by
  obtain ⟨p, u, l⟩ := fW_p hf
  have c1 : (if w = 0 then a else b).natAbs ≤ 9 := by split <;> assumption
  have c2 : (if w = 0 then b else a).natAbs ≤ 9 := by split <;> assumption
  have x := bd_mul (bd_mul c1 (show ((k : Nat) : Int).natAbs ≤ 6 by omega)) l
  have y := bd_mul c2 u
  have z := bd_add x y
  omega
theorem eF_ok {a b : Int} (ha : a.natAbs ≤ 9) (hb : b.natAbs ≤ 9) {w k : Nat} (hk : k < 7) {f : zFr} (hf : fW 5 f) : isR (eF a b w k f) ∧ fB (eF a b w k f) := by
  obtain ⟨p, u, l⟩ := fW_p hf
  have z := eU_bd ha hb (w := w) hk hf
  exact ⟨fRed_R (by omega), fRed_fB (by omega) (by omega) (by omega)⟩
theorem eL_lB {π : zPl} (hv : vRw π) {a b : Int} (ha : a.natAbs ≤ 9) (hb : b.natAbs ≤ 9) {w k : Nat} (hw : w < 2) (hk : k < 7) : lB (eL π a b w k) := by
  intro f hf
  unfold eL at hf
  split at hf
  · rename_i c
    have s := sT0_W hv hw hk c
    rcases List.mem_cons.mp hf with e | hf
    · rw [e]; exact eF_ok ha hb hk s.1.1
    · rw [List.mem_singleton.mp hf]; exact eF_ok ha hb hk s.1.2
  · exact absurd hf List.not_mem_nil
theorem eLs_lB {π : zPl} (hv : vRw π) {a b : Int} (ha : a.natAbs ≤ 9) (hb : b.natAbs ≤ 9) {w : Nat} (hw : w < 2) : ∀ n, n ≤ 7 → lB (eLs π a b w n)
  | 0, _ => lB_nil
  | n + 1, hn => lB_app (eLs_lB hv ha hb hw n (by omega)) (eL_lB hv ha hb hw (by omega))
theorem pF_ok {a b : Int} (ha : a.natAbs ≤ 9) (hb : b.natAbs ≤ 9) {q : Nat × Nat} (h1 : q.1 < 7) (h2 : q.2 < 7) : isR (pF a b q) ∧ fB (pF a b q) ∧ (zSm a b q).natAbs ≤ 126 := by
  have x := bd_mul (b := (q.1 : Int)) (B := 7) ha (by omega)
  have y := bd_mul (b := (q.2 : Int)) (B := 7) hb (by omega)
  have z := bd_add x y
  have z : (zSm a b q).natAbs ≤ 126 := z
  refine ⟨isR_1 _, ⟨?_, show (1 : Int).natAbs ≤ 1000000000 by decide⟩, z⟩
  show (zSm a b q).natAbs ≤ 1000000000
  omega
theorem pF_lB {a b : Int} (ha : a.natAbs ≤ 9) (hb : b.natAbs ≤ 9) {L : List (Nat × Nat)} (bL : bdL L) (i : Nat) : lB ((L.take i).map (pF a b)) := by
  intro f hf
  obtain ⟨q, hq, rfl⟩ := List.mem_map.mp hf
  obtain ⟨n, hn⟩ := List.getElem?_of_mem (List.mem_of_mem_take hq)
  obtain ⟨b1, b2⟩ := bL.2 n q hn
  have := pF_ok ha hb b1 b2
  exact ⟨this.1, this.2.1⟩
def mx1 (π : zPl) (a b : Int) (w : Nat) : Option zFr := mxL (eLs π a b w 7)
def mx3 (π : zPl) (a b : Int) : Option zFr := mxL ((zPts π (-1)).map (pF a b))
def mxW (π : zPl) (a b : Int) (n : Nat) : Option zFr := if n = 0 then mx0 π a b else if n = 3 then mx3 π a b else mx1 π a b (n - 1)
theorem c_offerEnd {G : zG} (hG : zGok G) {k' : Nat} (hk : 5 ≤ k') {I : Nat → Nat → Int32} {J : Nat → Nat → Int64} {past : Nat → Nat} {Q : zRt} {w p b v : Nat} (hf : moF past w p b v) {A B : Int} (ba : A.natAbs ≤ 9) (bb : B.natAbs ≤ 9) {M : List zFr} (hm : cMo I J p b A B (mxL M)) (hM : lB M) {e : Nat} (e6 : Nat.beq (zKd zK0 e).1 6 = true) {f : zFr} (he : cFx J e f) (hW : fW 5 f) {wy k : Nat} (hw2 : wy < 2) (hkk : k < 7) {W K : Int32} (eW : W = nI wy) (eK : K = nI k) (h : ∀ I' J', (∀ x, x ≠ p → I' x = I x) → (∀ x, x ≠ b → x ≠ v → J' x = J x) → cMo I' J' p b A B (mxL (M ++ [eF A B wy k f])) → Q none (zK0, I', J', zR0 past)) : zCalls G k' yX3_offerEnd [.ref p, .ref e, .int W, .int K] (zK0, I, J, zR0 past) Q := by
  subst eW
  subst eK
  have hf0 := hf
  obtain ⟨⟨hw, ep, eb, ev⟩, p3, r3, r4, b6, v6⟩ := hf
  obtain ⟨q0, q1, q2⟩ := fW_p hW
  have bU := eU_bd ba bb (w := wy) hkk hW
  have eA : (I p 0).toInt64 = Int64.ofInt A := by rw [hm.1, iI_l (by omega)]
  have eB : (I p 1).toInt64 = Int64.ofInt B := by rw [hm.2.1, iI_l (by omega)]
  have z36 : ∀ (z o : Int64), z = Int64.ofInt (if wy = 0 then A else B) → o = Int64.ofInt (if wy = 0 then B else A) → aX3_offerEnd G Q 36 [some (.ref p), some (.ref e), some (.int (nI wy)), some (.int (nI k)), some (.long z), none, none, none] [.long o] (zK0, I, J, zR0 past) := by
    intro z o ez eo
    refine sgX3_offerEnd hG [] 60 36 ?_
    refine zB_in e6 ?_
    refine zB_in e6 ?_
    refine zB_in e6 ?_
    refine zB_in p3 ?_
    have eu : z * (nI k).toInt64 * J e 1 + o * J e 0 = Int64.ofInt ((if wy = 0 then A else B) * k * f.2 + (if wy = 0 then B else A) * f.1) := by
      rw [Int64.ofInt_add, Int64.ofInt_mul, Int64.ofInt_mul, Int64.ofInt_mul, he.1, he.2, ez, eo, nI_l (by omega), lN_I]
    exact c_offerL hG (by decide) hf0 hm hM eu he.2 (by omega) (by omega) (by omega) h
  have z17 : ∀ (z : Int64), z = Int64.ofInt (if wy = 0 then A else B) → aX3_offerEnd G Q 17 [some (.ref p), some (.ref e), some (.int (nI wy)), some (.int (nI k)), none, none, none, none] [.long z] (zK0, I, J, zR0 past) := by
    intro z ez
    refine sgX3_offerEnd hG [36] 60 17 ?_
    refine And.intro (fun c => ?_) (fun c => ?_)
    · rw [show (0 : Int32) = nI 0 from rfl, nI_eq (by omega) (by omega)] at c
      refine zB_in p3 ?_
      exact z36 z _ ez (by rw [if_neg c]; exact eA)
    · rw [show (0 : Int32) = nI 0 from rfl, nI_eq (by omega) (by omega)] at c
      refine zB_in p3 ?_
      exact z36 z _ ez (by rw [if_pos c]; exact eB)
  refine rnX3_offerEnd hG hk p e _ _ ?_
  refine sgX3_offerEnd hG [17] 60 0 ?_
  refine And.intro (fun c => ?_) (fun c => ?_)
  · rw [show (0 : Int32) = nI 0 from rfl, nI_eq (by omega) (by omega)] at c
    refine zB_in p3 ?_
    exact z17 _ (by rw [if_neg c]; exact eB)
  · rw [show (0 : Int32) = nI 0 from rfl, nI_eq (by omega) (by omega)] at c
    refine zB_in p3 ?_
    exact z17 _ (by rw [if_pos c]; exact eA)
theorem c_overSlices {G : zG} (hG : zGok G) {k' : Nat} (hk : 6 ≤ k') {I : Nat → Nat → Int32} {J : Nat → Nat → Int64} {past : Nat → Nat} {Q : zRt} {π : zPl} (hv : vPl π) (ht : cTb I J (sTb π) 14) {w p b v : Nat} (hf : moF past w p b v) {A B : Int} (ba : A.natAbs ≤ 9) (bb : B.natAbs ≤ 9) (hm : cMo I J p b A B none) {wy : Nat} (hw2 : wy < 2) {W : Int32} (eW : W = nI wy) (h : ∀ I' J', (∀ x, x ≠ p → I' x = I x) → (∀ x, x ≠ b → x ≠ v → J' x = J x) → cMo I' J' p b A B (mx1 π A B wy) → Q none (zK0, I', J', zR0 past)) : zCalls G k' yX3_overSlices [.ref p, .ref 130, .int W] (zK0, I, J, zR0 past) Q := by
  subst eW
  obtain ⟨⟨hw, ep, eb, ev⟩, p3, r3, r4, b6, v6⟩ := id hf
  have loop : ∀ (r k : Nat) (vk : Int32) (os : Option Value) (I' : Nat → Nat → Int32) (J' : Nat → Nat → Int64), (os = none ∨ ∃ z, os = some (.ref z)) → vk = nI k → k + r = 7 → (∀ x, x ≠ p → I' x = I x) → (∀ x, x ≠ b → x ≠ v → J' x = J x) → cMo I' J' p b A B (mxL (eLs π A B wy k)) → aX3_overSlices G Q 2 [some (.ref p), some (.ref 130), some (.int (nI wy)), some (.int vk), os] [] (zK0, I', J', zR0 past) := by
    intro r
    induction r with
    | zero =>
      intro k vk os I' J' _ ek hk f g m
      subst ek
      have e : k = 7 := by omega
      subst e
      refine sgX3_overSlices hG [2] 60 2 ?_
      refine And.intro (fun _ => ?_) (fun q => absurd (by decide) q)
      exact h I' J' f g m
    | succ r ih =>
      intro k vk os I' J' _ ek hk f g m
      subst ek
      refine sgX3_overSlices hG [2] 60 2 ?_
      refine And.intro (fun q => absurd q (by rw [show (7 : Int32) = nI 7 from rfl, nI_leI (by omega) (by omega)]; omega)) (fun _ => ?_)
      refine c_at hG (by decide) 0 wy k (by decide) hw2 (by omega) rfl rfl rfl (fun s l u hs => ?_)
      obtain ⟨⟨es, el, eu⟩, s9, s1, s2, l6, u6⟩ := hs
      have t0 := ht 0 wy k hw2 (by omega) (by omega)
      have t1 : cSlT I' J' (14 * 0 + 7 * wy + k) (sTb π 0 wy k) := cSlT_fr t0 (f _ (by omega)) (g _ (by omega) (by omega)) (g _ (by omega) (by omega))
      have e0 : sTb π 0 wy k = sT0 π wy k := rfl
      rw [e0] at t1
      obtain ⟨t2, t3⟩ := t1
      rw [← es] at t2
      rw [← el, ← eu] at t3
      have lk := eLs_lB hv.1 ba bb hw2 k (by omega)
      have nx : ∀ I1 J1, (∀ x, x ≠ p → I1 x = I x) → (∀ x, x ≠ b → x ≠ v → J1 x = J x) → cMo I1 J1 p b A B (mxL (eLs π A B wy (k + 1))) → aX3_overSlices G Q 2 [some (.ref p), some (.ref 130), some (.int (nI wy)), some (.int (nI k + 1)), some (.ref s)] [] (zK0, I1, J1, zR0 past) := fun I1 J1 f1 g1 m1 => ih (k + 1) _ _ I1 J1 (Or.inr ⟨_, rfl⟩) (by rw [nI_1]) (by omega) f1 g1 m1
      refine zB_in s9 ?_
      refine And.intro (fun c => ?_) (fun c => ?_)
      rotate_left
      · rw [t2] at c
        have c : (sT0 π wy k).1 = true := by
          have := (zb_eq0 _).mp c
          cases z : (sT0 π wy k).1
          · rw [z] at this; cases this
          · rfl
        have sw := sT0_W hv.1 hw2 (by omega) c
        obtain ⟨tl, tu⟩ := t3 c
        refine zB_in s9 (op_in s1 ?_)
        refine zB_in p3 ?_
        refine c_offerEnd hG (by decide) hf ba bb m lk l6 tl sw.1.1 hw2 (by omega) rfl rfl (fun I1 J1 f1 g1 m1 => ?_)
        refine zB_in s9 (op_in s2 ?_)
        refine zB_in p3 ?_
        refine c_offerEnd hG (by decide) hf ba bb m1 (lB_app lk (lB_one (eF_ok ba bb (by omega) sw.1.1).1 (eF_ok ba bb (by omega) sw.1.1).2)) u6 (cFx_fr tu (g1 u (by omega) (by omega))) sw.1.2 hw2 (by omega) rfl rfl (fun I2 J2 f2 g2 m2 => ?_)
        refine nx I2 J2 (fun x hx => by rw [f2 x hx, f1 x hx, f x hx]) (fun x a c => by rw [g2 x a c, g1 x a c, g x a c]) ?_
        have e : eLs π A B wy (k + 1) = eLs π A B wy k ++ [eF A B wy k (sT0 π wy k).2.1] ++ [eF A B wy k (sT0 π wy k).2.2] := by
          show _ ++ eL π A B wy k = _
          unfold eL
          rw [if_pos c, List.append_assoc]; rfl
        rw [e]; exact m2
      · rw [t2] at c
        have c : (sT0 π wy k).1 = false := by
          have := z_nb1 (x := 0) c
          cases z : (sT0 π wy k).1
          · rfl
          · rw [z] at this; cases this
        refine nx I' J' f g ?_
        have e : eLs π A B wy (k + 1) = eLs π A B wy k := by
          show _ ++ eL π A B wy k = _
          unfold eL
          rw [c, if_neg (by decide), List.append_nil]
        rw [e]; exact m
  refine rnX3_overSlices hG hk p 130 _ ?_
  refine sgX3_overSlices hG [2] 60 0 ?_
  exact loop 7 0 0 none I J (Or.inl rfl) rfl (by omega) (fun _ _ => rfl) (fun _ _ _ => rfl) hm
theorem mx_take {L : List (Nat × Nat)} {i : Nat} {q : Nat × Nat} (h : L[i]? = some q) (a b : Int) : (L.take (i + 1)).map (pF a b) = (L.take i).map (pF a b) ++ [pF a b q] := by
  rw [List.take_succ, h, List.map_append]; rfl
theorem c_overPoints {G : zG} (hG : zGok G) {k' : Nat} (hk : 5 ≤ k') {I : Nat → Nat → Int32} {J : Nat → Nat → Int64} {past : Nat → Nat} {Q : zRt} {L : List (Nat × Nat)} (hL : cPts I L) (bL : bdL L) {w p b v : Nat} (hf : moF past w p b v) {A B : Int} (ba : A.natAbs ≤ 9) (bb : B.natAbs ≤ 9) (hm : cMo I J p b A B none) (h : ∀ I' J', (∀ x, x ≠ p → I' x = I x) → (∀ x, x ≠ b → x ≠ v → J' x = J x) → cMo I' J' p b A B (mxL (L.map (pF A B))) → Q none (zK0, I', J', zR0 past)) : zCalls G k' yX3_overPoints [.ref p, .ref 264] (zK0, I, J, zR0 past) Q := by
  have h49 := bL.1
  obtain ⟨⟨hw, ep, eb, ev⟩, p3, r3, r4, b6, v6⟩ := id hf
  have loop : ∀ (r i : Nat) (vi : Int32) (I' : Nat → Nat → Int32) (J' : Nat → Nat → Int64), vi = nI i → i + r = L.length → (∀ x, x ≠ p → I' x = I x) → (∀ x, x ≠ b → x ≠ v → J' x = J x) → cMo I' J' p b A B (mxL ((L.take i).map (pF A B))) → aX3_overPoints G Q 2 [some (.ref p), some (.ref 264), some (.int vi)] [] (zK0, I', J', zR0 past) := by
    intro r
    induction r with
    | zero =>
      intro i vi I' J' ei hi f g m
      subst ei
      have hL' : cPts I' L := cPts_fr hL (f 264 (by omega)) (f 265 (by omega)) (f 266 (by omega))
      have e : i = L.length := by omega
      subst e
      refine sgX3_overPoints hG [2] 60 2 ?_
      refine And.intro (fun _ => ?_) (fun q => absurd (by rw [hL'.1]; exact Int32.le_refl _) q)
      rw [List.take_length] at m
      exact h I' J' f g m
    | succ r ih =>
      intro i vi I' J' ei hi f g m
      subst ei
      have hL' : cPts I' L := cPts_fr hL (f 264 (by omega)) (f 265 (by omega)) (f 266 (by omega))
      obtain ⟨q, hq⟩ := z_get (L := L) (i := i) (by omega)
      obtain ⟨b1, b2⟩ := bL.2 i q hq
      obtain ⟨k1, k2, k3⟩ := pF_ok ba bb b1 b2
      have eA : (I' p 0).toInt64 = Int64.ofInt A := by rw [m.1, iI_l (by omega)]
      have eB : (I' p 1).toInt64 = Int64.ofInt B := by rw [m.2.1, iI_l (by omega)]
      refine sgX3_overPoints hG [2] 60 2 ?_
      refine And.intro (fun q => absurd q (by rw [hL'.1, nI_leI (by omega) (by omega)]; omega)) (fun _ => ?_)
      refine zB_in p3 ?_
      refine zB_in p3 ?_
      refine z_arg (args' := [.ref 264, .int (nI i), .long (Int64.ofInt A), .long (Int64.ofInt B)]) (by rw [eA, eB]) ?_
      refine c_sum hG (by decide) hL' bL hq A B ?_
      refine zB_in p3 ?_
      refine c_offerL hG (by decide) hf m (pF_lB ba bb bL i) (up := zSm A B q) (lo := 1) rfl rfl (by omega) (by decide) (by decide) (fun I1 J1 f1 g1 m1 => ?_)
      rw [fRed_1] at m1
      refine ih (i + 1) _ I1 J1 (by rw [nI_1]) (by omega) (fun x hx => (f1 x hx).trans (f x hx)) (fun x a c => (g1 x a c).trans (g x a c)) ?_
      rw [mx_take hq]; exact m1
  refine rnX3_overPoints hG hk p 264 ?_
  refine sgX3_overPoints hG [2] 60 0 ?_
  exact loop L.length 0 0 I J rfl (by omega) (fun _ _ => rfl) (fun _ _ _ => rfl) hm
