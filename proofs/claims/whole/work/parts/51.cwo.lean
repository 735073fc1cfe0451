-- ===== the class: joinBetween(), boundBySplits(), workOut() =====
theorem jn_dead {acc st : zSl} (h : fD st) : jn acc st = acc := by
  unfold jn
  rcases h with h | h
  · rw [h]; rfl
  · rw [h, Bool.not_true, Bool.and_false]; rfl
theorem accW_B {acc : zSl} (h : accW 1080000 acc) : acc.1 = true → fB acc.2.1 ∧ fB acc.2.2 := fun c => ⟨fW_Bb (by decide) (h c).1, fW_Bb (by decide) (h c).2⟩
theorem slW_B {B : Nat} (hB : B ≤ 1080000) {st : zSl} (h : slW B st) : st.1 = true → fB st.2.1 ∧ fB st.2.2 := fun c => ⟨fW_Bb (by omega) (h c).1.1, fW_Bb (by omega) (h c).1.2⟩
def nx2o (s t : zSl) (m k : Int) (acc : zSl) : zSl := if s.1 && t.1 then nx2 s t m k acc else acc
theorem c_joinBetween {G : zG} (hG : zGok G) {k' : Nat} (hk : 5 ≤ k') {I : Nat → Nat → Int32} {J : Nat → Nat → Int64} {past : Nat → Nat} {Q : zRt} {s p l u s1 p1 l1 u1 s2 p2 l2 u2 : Nat} (hf : slF past s p l u) (hf1 : slF past s1 p1 l1 u1) (hf2 : slF past s2 p2 l2 u2) (n1 : s ≠ s1) (n2 : s ≠ s2) {acc a b : zSl} (hs : cAcc I J p l u acc) (ha : cAcc I J p1 l1 u1 a) (hb : cAcc I J p2 l2 u2 b) (wA : accW 1080000 acc) (wa : slW 300 a) (wb : slW 300 b) {m k : Nat} (hm : m ≤ 5) (hk6 : k ≤ 6) {M K : Int32} (eM : M = nI m) (eK : K = nI k) (h : ∀ I' J', (∀ x, x ≠ p → I' x = I x) → (∀ x, x ≠ l → x ≠ u → x ≠ 132 → x ≠ 133 → x ≠ 134 → J' x = J x) → cAcc I' J' p l u (nx2o a b m k acc) → Q none (zK0, I', J', zR0 past)) : zCalls G k' yX7_joinBetween [.ref 130, .ref p, .ref p1, .ref p2, .int M, .int K] (zK0, I, J, zR0 past) Q := by
  subst eM
  subst eK
  have hf0 := hf
  obtain ⟨⟨ep, el, eu⟩, p9, r1, r2, l6, u6⟩ := hf
  obtain ⟨⟨ep1, el1, eu1⟩, p91, r11, r21, l61, u61⟩ := hf1
  obtain ⟨⟨ep2, el2, eu2⟩, p92, r12, r22, l62, u62⟩ := hf2
  have same : ∀ J', (∀ x, x ≠ 132 → x ≠ 133 → x ≠ 134 → J' x = J x) → nx2o a b m k acc = acc → Q none (zK0, I, J', zR0 past) := by
    intro J' f e
    refine h I J' (fun _ _ => rfl) (fun x _ _ a b c => f x a b c) ?_
    rw [e]
    exact cAcc_fr hs rfl (f l (by omega) (by omega) (by omega)) (f u (by omega) (by omega) (by omega))
  refine rnX7_joinBetween hG hk 130 p p1 p2 _ _ ?_
  refine sgX7_joinBetween hG [15] 60 0 ?_
  refine zB_in p91 ?_
  refine And.intro (fun c => ?_) (fun c => ?_)
  · rw [ha.1] at c
    have c := z_nb1 (x := 0) c
    rw [Bool.not_eq_true'] at c
    exact same J (fun _ _ _ _ => rfl) (by unfold nx2o; rw [c]; rfl)
  rw [ha.1] at c
  have c := (zb_eq0 _).mp c
  have c1 : a.1 = true := by rw [Bool.not_eq_false'] at c; exact c
  refine zB_in p92 ?_
  refine And.intro (fun d => ?_) (fun d => ?_)
  rotate_left
  · rw [hb.1] at d
    have d := z_nb1 (x := 0) d
    rw [Bool.not_eq_true'] at d
    exact same J (fun _ _ _ _ => rfl) (by unfold nx2o; rw [d, Bool.and_false]; rfl)
  rw [hb.1] at d
  have d := (zb_eq0 _).mp d
  have d1 : b.1 = true := by rw [Bool.not_eq_false'] at d; exact d
  obtain ⟨⟨wa1, wa2⟩, _⟩ := wa c1
  obtain ⟨⟨wb1, wb2⟩, _⟩ := wb d1
  obtain ⟨qa1, qa2⟩ := ha.2 c1
  obtain ⟨qb1, qb2⟩ := hb.2 d1
  have eo : nx2o a b m k acc = nx2 a b m k acc := by unfold nx2o; rw [c1, d1]; rfl
  have i0 : bwI 1080000 m (true, ((m : Int), 1), ((m : Int) + 1, 1)) := bwI_0 (by decide) (by omega) (by omega)
  have i1 := bwI_G (B := 300) (C := 1080000) (s := 1) (k := k) (by decide) (Or.inl rfl) wa1 wb1 (by omega) (by omega) i0
  have i2 := bwI_G (B := 300) (C := 1080000) (s := -1) (k := k) (by decide) (Or.inr rfl) wa2 wb2 (by omega) (by omega) i1
  refine sgX7_joinBetween hG [105] 60 15 ?_
  refine c_putI hG (by decide) 132 rfl (a := m) (b := 1) (by rw [nI_I]; exact iI_l (by omega)) rfl (by omega) (by decide) (by decide) (fun J1 f1 q1 => ?_)
  refine c_putI hG (by decide) 133 rfl (a := (m : Int) + 1) (b := 1) (by rw [nI_1, nI_I]; exact iI_l (by omega)) rfl (by omega) (by decide) (by decide) (fun J2 f2 q2 => ?_)
  rw [fRed_1] at q1 q2
  refine zB_in p91 (op_in r11 ?_)
  refine zB_in p92 (op_in r12 ?_)
  have fr2 : ∀ x, x ≠ 132 → x ≠ 133 → x ≠ 134 → J2 x = J x := fun x a b _ => (f2 x b).trans (f1 x a)
  refine c_narrow7 hG (by decide) l1 l2 l61 l62 (by omega) (by omega) (cFx_fr qa1 (fr2 l1 (by omega) (by omega) (by omega))) (cFx_fr qb1 (fr2 l2 (by omega) (by omega) (by omega))) (cFx_fr q1 (f2 132 (by decide))) q2 (s := 1) (Or.inl rfl) (by omega) hk6 rfl rfl rfl wa1 wb1 i0 (fun b1 J3 f3 t3 e3 => ?_)
  have fr3 : ∀ x, x ≠ 132 → x ≠ 133 → x ≠ 134 → J3 x = J x := fun x a b c => (f3 x a b c).trans (fr2 x a b c)
  have z105 : ∀ J', (∀ x, x ≠ 132 → x ≠ 133 → x ≠ 134 → J' x = J x) → fD (bwB a.2.1 b.2.1 a.2.2 b.2.2 m k) → aX7_joinBetween G Q 105 [some (.ref 130), some (.ref p), some (.ref p1), some (.ref p2), some (.int (nI m)), some (.int (nI k))] [] (zK0, I, J', zR0 past) := by
    intro J' f e
    refine sgX7_joinBetween hG [] 60 105 ?_
    exact same J' f (by rw [eo]; exact jn_dead e)
  refine And.intro (fun e => ?_) (fun e => ?_)
  · have e := (zb_eq0 _).mp e
    exact z105 J3 fr3 (nw_dead i1.1.1.1 i1.1.2.1 (e3 e))
  have e := z_nb1 (x := 0) e
  obtain ⟨t31, t32, t33⟩ := t3 e
  have ei : bwG 1 a.2.1 b.2.1 m k (true, ((m : Int), 1), ((m : Int) + 1, 1)) = (true, (bwG 1 a.2.1 b.2.1 m k (true, ((m : Int), 1), ((m : Int) + 1, 1))).2.1, (bwG 1 a.2.1 b.2.1 m k (true, ((m : Int), 1), ((m : Int) + 1, 1))).2.2) := Prod.ext t31 rfl
  have ib := i1
  rw [ei] at ib
  refine zB_in p91 (op_in r21 ?_)
  refine zB_in p92 (op_in r22 ?_)
  refine c_narrow7 hG (by decide) u1 u2 u61 u62 (by omega) (by omega) (cFx_fr qa2 (fr3 u1 (by omega) (by omega) (by omega))) (cFx_fr qb2 (fr3 u2 (by omega) (by omega) (by omega))) t32 t33 (s := -1) (Or.inr rfl) (by omega) hk6 rfl rfl rfl wa2 wb2 ib (fun b2 J4 f4 t4 e4 => ?_)
  rw [← ei] at t4 e4
  have fr4 : ∀ x, x ≠ 132 → x ≠ 133 → x ≠ 134 → J4 x = J x := fun x a b c => (f4 x a b c).trans (fr3 x a b c)
  refine And.intro (fun e => ?_) (fun e => ?_)
  · have e := (zb_eq0 _).mp e
    exact z105 J4 fr4 (e4 e)
  have e := z_nb1 (x := 0) e
  obtain ⟨t41, t42, t43⟩ := t4 e
  obtain ⟨bb1, bb2⟩ := bwI_B (by decide) i2
  refine c_isBelowI hG (by decide) 133 132 rfl rfl t43 t42 bb2 bb1 ?_
  refine And.intro (fun e => ?_) (fun e => ?_)
  · have e := z_nb1 (x := 0) e
    exact z105 J4 fr4 (Or.inr e)
  have e := (zb_eq0 _).mp e
  refine zB_in p9 ?_
  refine c_join hG (by decide) hf0 (cAcc_fr hs rfl (fr4 l (by omega) (by omega) (by omega)) (fr4 u (by omega) (by omega) (by omega))) 132 133 rfl rfl (by decide) (by decide) t42 t43 (accW_B wA) bb1 bb2 e (fun I5 J5 f5 g5 q5 => ?_)
  refine sgX7_joinBetween hG [] 60 105 ?_
  refine h I5 J5 f5 (fun x x1 x2 x3 x4 x5 => (g5 x x1 x2).trans (fr4 x x3 x4 x5)) ?_
  rw [eo]
  have en : bwB a.2.1 b.2.1 a.2.2 b.2.2 m k = (true, (bwG (-1) a.2.2 b.2.2 m k (bwG 1 a.2.1 b.2.1 m k (true, ((m : Int), 1), ((m : Int) + 1, 1)))).2.1, (bwG (-1) a.2.2 b.2.2 m k (bwG 1 a.2.1 b.2.1 m k (true, ((m : Int), 1), ((m : Int) + 1, 1)))).2.2) := Prod.ext t41 rfl
  unfold nx2
  rw [en]
  exact q5
theorem nxS_o (T : Nat → zSl) (m k : Nat) (acc : zSl) : nxS T m k acc = (let a1 := if ((T m).1 && (!fLt ((k : Int), 1) (T m).2.1 && !fLt (T m).2.2 ((k : Int), 1))) then jn acc (true, ((m : Int), 1), ((m : Int), 1)) else acc; if m < 6 ∨ 6 < m then nx2o (T m) (T (m + 1)) m k a1 else a1) := by
  unfold nxS nx1 nx2o
  cases c : (T m).1 with
  | false => simp
  | true =>
    cases d : (T (m + 1)).1 with
    | false => simp
    | true =>
      by_cases e : m = 6
      · simp [e]
      · have : m < 6 ∨ 6 < m := by omega
        simp [e, this]
theorem fB_k (k : Nat) (hk : k ≤ 6) : fB ((k : Int), 1) := ⟨by show ((k : Nat) : Int).natAbs ≤ _; omega, by show (1 : Int).natAbs ≤ _; decide⟩
theorem c_boundBySplits {G : zG} (hG : zGok G) {k' : Nat} (hk : 6 ≤ k') {I : Nat → Nat → Int32} {J : Nat → Nat → Int64} {past : Nat → Nat} {Q : zRt} {T : Nat → Nat → zSl} {r : Nat} (hr : r < 2) (hT : ∀ w k, w < 2 → k < 7 → cSlT I J (14 * r + 7 * w + k) (T w k)) (hW : ∀ w k, w < 2 → k < 7 → slW 300 (T w k)) {w k : Nat} (hw : w < 2) (hkk : k < 7) {R W K : Int32} (eR : R = nI (r + 1)) (eW : W = nI w) (eK : K = nI k) (h : ∀ I' J', (∀ x, x ≠ 135 + 3 * (14 * (r + 1) + 7 * w + k) → I' x = I x) → (∀ x, x ≠ 136 + 3 * (14 * (r + 1) + 7 * w + k) → x ≠ 137 + 3 * (14 * (r + 1) + 7 * w + k) → x ≠ 132 → x ≠ 133 → x ≠ 134 → J' x = J x) → cSlT I' J' (14 * (r + 1) + 7 * w + k) (sNx (T w k) (T (1 - w)) k) → Q none (zK0, I', J', zR0 past)) : zCalls G k' yX7_boundBySplits [.ref 130, .int R, .int W, .int K] (zK0, I, J, zR0 past) Q := by
  subst eR
  subst eW
  subst eK
  have er : nI (r + 1) - 1 = nI r := by rw [show (1 : Int32) = nI 1 from rfl, pk_sub (by omega)]; rfl
  have ew : (1 : Int32) - nI w = nI (1 - w) := by rw [show (1 : Int32) = nI 1 from rfl, pk_sub (by omega)]
  refine rnX7_boundBySplits hG hk 130 _ _ _ ?_
  refine sgX7_boundBySplits hG [35, 38, 94, 126, 132] 60 0 ?_
  refine c_at hG (by decide) (r + 1) w k (by omega) hw hkk rfl rfl rfl (fun p l u hf => ?_)
  refine c_at hG (by decide) r w k (by omega) hw hkk er rfl rfl (fun p0 l0 u0 hf0 => ?_)
  have hf' := hf
  have hf0' := hf0
  obtain ⟨⟨ep, el, eu⟩, p9, r1, r2, l6, u6⟩ := hf'
  obtain ⟨⟨ep0, el0, eu0⟩, p90, r10, r20, l60, u60⟩ := hf0'
  rw [← ep, ← el, ← eu] at h
  refine zB_in p9 (And.intro (Or.inr rfl) ?_)
  refine zB_in p90 ?_
  have t0 : cAcc I J p0 l0 u0 (T w k) := (cAcc_T hf0).mpr (hT w k hw hkk)
  have x0 : z_upI I p 0 1 p0 0 = zb (!(T w k).1) := by rw [uI_p (by omega)]; exact t0.1
  refine And.intro (fun c => ?_) (fun c => ?_)
  rotate_left
  · rw [x0] at c
    have c := z_nb1 (x := 0) c
    rw [Bool.not_eq_true'] at c
    refine h _ J (fun x hx => z_upI_ne hx) (fun _ _ _ _ _ _ => rfl) ((cAcc_T hf).mp ?_)
    unfold sNx
    rw [c]
    exact ⟨uI_s, fun q => by simp at q⟩
  rw [x0] at c
  have c := (zb_eq0 _).mp c
  have c1 : (T w k).1 = true := by rw [Bool.not_eq_false'] at c; exact c
  have hT' : ∀ I' J', (∀ x, x ≠ p → I' x = I x) → (∀ x, x ≠ l → x ≠ u → x ≠ 132 → x ≠ 133 → x ≠ 134 → J' x = J x) → ∀ w k, w < 2 → k < 7 → cSlT I' J' (14 * r + 7 * w + k) (T w k) := fun I' J' f g w' k' a b => cSlT_fr (hT w' k' a b) (f _ (by omega)) (g _ (by omega) (by omega) (by omega) (by omega) (by omega)) (g _ (by omega) (by omega) (by omega) (by omega) (by omega))
  have wT : ∀ m, m < 7 → slW 300 (T (1 - w) m) := fun m hm => hW (1 - w) m (by omega) hm
  have loop : ∀ (q j : Nat) (v : Int32) (o : Option Value) (I' : Nat → Nat → Int32) (J' : Nat → Nat → Int64), v = nI j → j + q = 7 → (∀ x, x ≠ p → I' x = I x) → (∀ x, x ≠ l → x ≠ u → x ≠ 132 → x ≠ 133 → x ≠ 134 → J' x = J x) → cAcc I' J' p l u (nxA (T (1 - w)) k j) → aX7_boundBySplits G Q 38 [some (.ref 130), some (.int (nI (r + 1))), some (.int (nI w)), some (.int (nI k)), some (.ref p), some (.ref p0), some (.int v), o] [] (zK0, I', J', zR0 past) := by
    intro q
    induction q with
    | zero =>
      intro j v o I' J' ev hj fI fJ ca
      subst ev
      have ej : j = 7 := by omega
      subst ej
      have wA := nxA_W (B := 300) (C := 1080000) (by decide) (by decide) wT hkk 7 (by omega)
      have t1 := (cAcc_T hf0).mpr (hT' I' J' fI fJ w k hw hkk)
      refine sgX7_boundBySplits hG [38, 94, 126, 132] 60 38 ?_
      refine And.intro (fun _ => ?_) (fun z => absurd (by decide) z)
      have z132 : aX7_boundBySplits G Q 132 [some (.ref 130), some (.int (nI (r + 1))), some (.int (nI w)), some (.int (nI k)), some (.ref p), some (.ref p0), some (.int (nI 7)), o] [] (zK0, I', J', zR0 past) := by
        refine sgX7_boundBySplits hG [38, 94, 126] 60 132 ?_
        refine zB_in p9 ?_
        refine And.intro (fun d => ?_) (fun d => ?_)
        · rw [ca.1] at d
          have d := z_nb1 (x := 0) d
          rw [Bool.not_eq_true'] at d
          refine h I' J' fI fJ ((cAcc_T hf).mp ⟨?_, fun z => ?_⟩)
          · unfold sNx nxM clo
            rw [c1, ca.1, d]; rfl
          · unfold sNx nxM clo at z
            rw [c1, d] at z
            exact absurd z (by simp)
        · rw [ca.1] at d
          have d := (zb_eq0 _).mp d
          have d1 : (nxA (T (1 - w)) k 7).1 = true := by rw [Bool.not_eq_false'] at d; exact d
          obtain ⟨b1, b2⟩ := accW_B wA d1
          obtain ⟨b3, b4⟩ := slW_B (by decide) (hW w k hw hkk) c1
          obtain ⟨v1, v2⟩ := ca.2 d1
          obtain ⟨v3, v4⟩ := t1.2 c1
          refine zB_in p9 ?_
          refine c_meet hG (by decide) hf hf0 (by omega) v1 v2 v3 v4 b1 b2 b3 b4 (fun J2 f2 q1 q2 => ?_)
          refine zB_in p9 ?_
          refine c_emptyIfCrossed hG (by decide) hf (st := (true, _, _)) ⟨ca.1.trans (by rw [d1]), q1, q2⟩ ?_ ?_ (fun I3 f3 q3 => ?_)
          · show fB (if _ then _ else _)
            split <;> assumption
          · show fB (if _ then _ else _)
            split <;> assumption
          · refine h I3 J2 (fun x hx => (f3 x hx).trans (fI x hx)) (fun x x1 x2 x3 x4 x5 => (f2 x x1 x2).trans (fJ x x1 x2 x3 x4 x5)) ?_
            have e : sNx (T w k) (T (1 - w)) k = clo (true, (if fLt (nxA (T (1 - w)) k 7).2.1 (T w k).2.1 then (T w k).2.1 else (nxA (T (1 - w)) k 7).2.1), if fLt (T w k).2.2 (nxA (T (1 - w)) k 7).2.2 then (T w k).2.2 else (nxA (T (1 - w)) k 7).2.2) := by
              unfold sNx nxM
              rw [c1, d1]; rfl
            rw [e]
            exact cSl_T hf q3
      exact z132
    | succ q ih =>
      intro j v o I' J' ev hj fI fJ ca
      subst ev
      have hT1 := hT' I' J' fI fJ
      have wA := nxA_W (B := 300) (C := 1080000) (by decide) (by decide) wT hkk j (by omega)
      have wj := wT j (by omega)
      have es := nxS_o (T (1 - w)) j k (nxA (T (1 - w)) k j)
      have en : nxA (T (1 - w)) k (j + 1) = nxS (T (1 - w)) j k (nxA (T (1 - w)) k j) := rfl
      refine sgX7_boundBySplits hG [38, 45, 94, 126, 132] 60 38 ?_
      refine And.intro (fun z => absurd z (by rw [show (7 : Int32) = nI 7 from rfl, nI_leI (by omega) (by omega)]; omega)) (fun _ => ?_)
      have body : aX7_boundBySplits G Q 45 [some (.ref 130), some (.int (nI (r + 1))), some (.int (nI w)), some (.int (nI k)), some (.ref p), some (.ref p0), some (.int (nI j)), o] [] (zK0, I', J', zR0 past) := by
        refine sgX7_boundBySplits hG [38, 94, 126, 132] 60 45 ?_
        refine c_at hG (by decide) r (1 - w) j (by omega) (by omega) (by omega) er ew rfl (fun p1 l1 u1 hf1 => ?_)
        have hf1' := hf1
        obtain ⟨⟨ep1, el1, eu1⟩, p91, r11, r21, l61, u61⟩ := hf1'
        have t1 : cAcc I' J' p1 l1 u1 (T (1 - w) j) := (cAcc_T hf1).mpr (hT1 (1 - w) j (by omega) (by omega))
        have z126 : ∀ I2 J2, (∀ x, x ≠ p → I2 x = I x) → (∀ x, x ≠ l → x ≠ u → x ≠ 132 → x ≠ 133 → x ≠ 134 → J2 x = J x) → cAcc I2 J2 p l u (nxS (T (1 - w)) j k (nxA (T (1 - w)) k j)) → aX7_boundBySplits G Q 126 [some (.ref 130), some (.int (nI (r + 1))), some (.int (nI w)), some (.int (nI k)), some (.ref p), some (.ref p0), some (.int (nI j)), some (.ref p1)] [] (zK0, I2, J2, zR0 past) := by
          intro I2 J2 f2 g2 q2
          refine sgX7_boundBySplits hG [38, 94, 126, 132] 60 126 ?_
          exact ih (j + 1) _ _ I2 J2 (by rw [nI_1]) (by omega) f2 g2 q2
        have z94 : ∀ I2 J2 a1, (∀ x, x ≠ p → I2 x = I x) → (∀ x, x ≠ l → x ≠ u → x ≠ 132 → x ≠ 133 → x ≠ 134 → J2 x = J x) → a1 = (if ((T (1 - w) j).1 && (!fLt ((k : Int), 1) (T (1 - w) j).2.1 && !fLt (T (1 - w) j).2.2 ((k : Int), 1))) then jn (nxA (T (1 - w)) k j) (true, ((j : Int), 1), ((j : Int), 1)) else nxA (T (1 - w)) k j) → accW 1080000 a1 → cAcc I2 J2 p l u a1 → aX7_boundBySplits G Q 94 [some (.ref 130), some (.int (nI (r + 1))), some (.int (nI w)), some (.int (nI k)), some (.ref p), some (.ref p0), some (.int (nI j)), some (.ref p1)] [] (zK0, I2, J2, zR0 past) := by
          intro I2 J2 a1 f2 g2 ea wa q2
          have es : nxS (T (1 - w)) j k (nxA (T (1 - w)) k j) = if j < 6 ∨ 6 < j then nx2o (T (1 - w) j) (T (1 - w) (j + 1)) j k a1 else a1 := by rw [es, ← ea]
          refine sgX7_boundBySplits hG [38, 94, 126, 132] 60 94 ?_
          refine And.intro (fun z => ?_) (fun z => ?_)
          · rw [show (6 : Int32) = nI 6 from rfl, nI_leI (by omega) (by omega)] at z
            refine z126 I2 J2 f2 g2 ?_
            rw [es, if_neg (by omega)]
            exact q2
          · rw [show (6 : Int32) = nI 6 from rfl, nI_leI (by omega) (by omega)] at z
            refine c_at hG (by decide) r (1 - w) (j + 1) (by omega) (by omega) (by omega) er ew (by rw [nI_1]) (fun p2 l2 u2 hf2 => ?_)
            have hT2 := hT' I2 J2 f2 g2
            refine c_joinBetween hG (by decide) hf hf1 hf2 (by omega) (by omega) q2 ((cAcc_T hf1).mpr (hT2 (1 - w) j (by omega) (by omega))) ((cAcc_T hf2).mpr (hT2 (1 - w) (j + 1) (by omega) (by omega))) wa wj (wT (j + 1) (by omega)) (by omega) (by omega) rfl rfl (fun I3 J3 f3 g3 q3 => ?_)
            refine z126 I3 J3 (fun x hx => (f3 x hx).trans (f2 x hx)) (fun x x1 x2 x3 x4 x5 => (g3 x x1 x2 x3 x4 x5).trans (g2 x x1 x2 x3 x4 x5)) ?_
            rw [es, if_pos (by omega)]
            exact q3
        refine zB_in p91 ?_
        refine c_contains hG (by decide) hf1 t1 (x := k) (d := 1) (by rw [nI_I]; exact iI_l (by omega)) rfl (slW_B (by decide) wj) (fB_k k (by omega)) ?_
        refine And.intro (fun e => ?_) (fun e => ?_)
        · have e := (zb_eq0 _).mp e
          exact z94 I' J' _ fI fJ (by rw [e]; rfl) wA ca
        · have e := z_nb1 (x := 0) e
          refine c_putI hG (by decide) 132 rfl (a := j) (b := 1) (by rw [nI_I]; exact iI_l (by omega)) rfl (by omega) (by decide) (by decide) (fun J1 f1 q1 => ?_)
          rw [fRed_1] at q1
          refine zB_in p9 ?_
          refine c_join hG (by decide) hf (cAcc_fr ca rfl (f1 l (by omega)) (f1 u (by omega))) 132 132 rfl rfl (by decide) (by decide) q1 q1 (accW_B wA) (fB_k j (by omega)) (fB_k j (by omega)) (by rw [fLt_f]; exact Int.le_refl _) (fun I3 J3 f3 g3 q3 => ?_)
          refine z94 I3 J3 _ (fun x hx => (f3 x hx).trans (fI x hx)) (fun x x1 x2 x3 x4 x5 => (g3 x x1 x2).trans ((f1 x x3).trans (fJ x x1 x2 x3 x4 x5))) (by rw [e]; rfl) (jn_p (by decide) (by omega) (by omega) wA) q3
      exact body
  refine sgX7_boundBySplits hG [38, 94, 126, 132] 60 35 ?_
  exact loop 7 0 0 none _ J rfl (by omega) (fun x hx => z_upI_ne hx) (fun _ _ _ _ _ _ => rfl) ⟨uI_s, fun z => absurd (show false = true from z) (by decide)⟩
theorem cTb_reg {I : Nat → Nat → Int32} {J : Nat → Nat → Int64} {T : Nat → Nat → Nat → zSl} {n r : Nat} (h : cTb I J T n) (hn : 14 * (r + 1) ≤ n) : ∀ w k, w < 2 → k < 7 → cSlT I J (14 * r + 7 * w + k) (T r w k) := fun w k a b => h r w k a b (by omega)
theorem cTb_le {I : Nat → Nat → Int32} {J : Nat → Nat → Int64} {T : Nat → Nat → Nat → zSl} {n m : Nat} (h : cTb I J T n) (hn : m ≤ n) : cTb I J T m := fun r w k a b c => h r w k a b (by omega)
theorem sTb_300 {π : zPl} (hv : vRw π) {r : Nat} (hr : r < 2) : ∀ w k, w < 2 → k < 7 → slW 300 (sTb π r w k) := by
  obtain ⟨h0, h1, _⟩ := sTb_W hv
  intro w k a b c
  rcases (show r = 0 ∨ r = 1 by omega) with rfl | rfl
  · obtain ⟨⟨x, y⟩, z⟩ := h0 w k a b c
    exact ⟨⟨fW_mono (by decide) x, fW_mono (by decide) y⟩, z⟩
  · exact h1 w k a b c
theorem c_workOut {G : zG} (hG : zGok G) {k' : Nat} (hk : 7 ≤ k') {I : Nat → Nat → Int32} {J : Nat → Nat → Int64} {past : Nat → Nat} {Q : zRt} {π : zPl} (hc : cPl I J 1 π) (hv : vPl π) {L : Int32} {l : Int} (eL : L = Int32.ofInt l) (h1 : -1 ≤ l) (h2 : l ≤ 2) (h : ∀ I' J', cRg I J I' J' → cTb I' J' (sTb π) (14 * (l.toNat + 1)) → Q none (zK0, I', J', zR0 past)) : zCalls G k' yX7_workOut [.ref 130, .ref 1, .int L] (zK0, I, J, zR0 past) Q := by
  subst eL
  have lr : ∀ {a : Nat}, a < 100 → (Int32.ofInt l < nI a ↔ l < a) := fun {a} ha => by rw [nI_I, iI_lt (by omega) (by omega)]
  refine rnX7_workOut hG hk 130 1 _ ?_
  refine sgX7_workOut hG [7, 20, 29] 60 0 ?_
  refine c_workOutFirst hG (by decide) hc hv (sTb π) (fun _ _ => rfl) (fun I1 J1 f1 t1 => ?_)
  have loop : ∀ (q r : Nat) (v : Int32) (o4 o5 : Option Value) (I' : Nat → Nat → Int32) (J' : Nat → Nat → Int64), v = nI (r + 1) → r + q = l.toNat → cRg I J I' J' → cTb I' J' (sTb π) (14 * (r + 1)) → aX7_workOut G Q 7 [some (.ref 130), some (.ref 1), some (.int (Int32.ofInt l)), some (.int v), o4, o5] [] (zK0, I', J', zR0 past) := by
    intro q
    induction q with
    | zero =>
      intro r v o4 o5 I' J' ev hr fr ht
      subst ev
      refine sgX7_workOut hG [7, 20, 29] 60 7 ?_
      have er : r = l.toNat := by omega
      subst er
      refine And.intro (fun _ => ?_) (fun z => ?_)
      · exact h I' J' fr ht
      · exfalso
        have z : ¬ Int32.ofInt l < nI (l.toNat + 1) := z
        rw [lr (by omega)] at z
        omega
    | succ q ihr =>
      intro r v o4 o5 I' J' ev hr fr ht
      subst ev
      have outer : ∀ (rw w : Nat) (vw : Int32) (o5 : Option Value) (I' : Nat → Nat → Int32) (J' : Nat → Nat → Int64), vw = nI w → w + rw = 2 → cRg I J I' J' → cTb I' J' (sTb π) (14 * (r + 1) + 7 * w) → aX7_workOut G Q 20 [some (.ref 130), some (.ref 1), some (.int (Int32.ofInt l)), some (.int (nI (r + 1))), some (.int vw), o5] [] (zK0, I', J', zR0 past) := by
        intro rw
        induction rw with
        | zero =>
          intro w vw o5 I' J' ev hw fr ht
          subst ev
          have e : w = 2 := by omega
          subst e
          refine sgX7_workOut hG [7, 20, 29] 60 20 ?_
          refine And.intro (fun _ => ?_) (fun c => absurd (by decide) c)
          exact ihr (r + 1) _ _ _ I' J' (by rw [nI_1]) (by omega) fr (cTb_le ht (by omega))
        | succ rw ihw =>
          have inner : ∀ (rk k w : Nat) (vw vk : Int32) (I' : Nat → Nat → Int32) (J' : Nat → Nat → Int64), vw = nI w → vk = nI k → w + (rw + 1) = 2 → k + rk = 7 → cRg I J I' J' → cTb I' J' (sTb π) (14 * (r + 1) + 7 * w + k) → aX7_workOut G Q 29 [some (.ref 130), some (.ref 1), some (.int (Int32.ofInt l)), some (.int (nI (r + 1))), some (.int vw), some (.int vk)] [] (zK0, I', J', zR0 past) := by
            intro rk
            induction rk with
            | zero =>
              intro k w vw vk I' J' ew ek hw hk fr ht
              subst ek
              have e : k = 7 := by omega
              subst e
              refine sgX7_workOut hG [7, 20, 29] 60 29 ?_
              refine And.intro (fun _ => ?_) (fun c => absurd (by decide) c)
              exact ihw (w + 1) _ _ I' J' (by rw [ew, nI_1]) (by omega) fr (cTb_le ht (by omega))
            | succ rk ihk =>
              intro k w vw vk I' J' ew ek hw hk fr ht
              refine sgX7_workOut hG [7, 20, 29] 60 29 ?_
              refine And.intro (fun c => absurd c (by rw [ek, show (7 : Int32) = nI 7 from rfl, nI_leI (by omega) (by omega)]; omega)) (fun _ => ?_)
              refine c_boundBySplits hG (by decide) (T := sTb π r) (r := r) (by omega) (cTb_reg ht (by omega)) (sTb_300 hv.1 (by omega)) (w := w) (k := k) (by omega) (by omega) rfl ew ek (fun I2 J2 f2 g2 c2 => ?_)
              refine ihk (k + 1) w vw _ I2 J2 ew (by rw [ek, nI_1]) hw (by omega) (fun x hx => ⟨(f2 x (by omega)).trans (fr x hx).1, (g2 x (by omega) (by omega) (by omega) (by omega) (by omega)).trans (fr x hx).2⟩) ?_
              intro r' w' k' a b c
              by_cases e : 14 * r' + 7 * w' + k' = 14 * (r + 1) + 7 * w + k
              · have e0 : r' = r + 1 := by omega
                have e1 : w' = w := by omega
                have e2 : k' = k := by omega
                subst e0
                subst e1
                subst e2
                exact c2
              · exact cSlT_fr (ht r' w' k' a b (by omega)) (f2 _ (by omega)) (g2 _ (by omega) (by omega) (by omega) (by omega) (by omega)) (g2 _ (by omega) (by omega) (by omega) (by omega) (by omega))
          intro w vw o5 I' J' ev hw fr ht
          subst ev
          refine sgX7_workOut hG [7, 20, 29] 60 20 ?_
          refine And.intro (fun c => absurd c (by rw [show (2 : Int32) = nI 2 from rfl, nI_leI (by omega) (by omega)]; omega)) (fun _ => ?_)
          exact inner 7 0 w (nI w) 0 I' J' rfl rfl hw (by omega) fr ht
      refine sgX7_workOut hG [7, 20, 29] 60 7 ?_
      refine And.intro (fun z => ?_) (fun _ => ?_)
      · exfalso
        rw [lr (by omega)] at z
        omega
      refine And.intro (fun c => absurd c (by rw [show (3 : Int32) = nI 3 from rfl, nI_leI (by omega) (by omega)]; omega)) (fun _ => ?_)
      exact outer 2 0 0 o5 I' J' rfl (by omega) fr ht
  exact loop l.toNat 0 1 none none I1 J1 rfl (by omega) f1 (by rw [show 14 * (0 + 1) = 14 by omega]; exact t1)
