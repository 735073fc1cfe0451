-- ===== splits =====
def sSpl (π : zPl) (r x y d : Int32) : Int32 × Option (List Int64) := if bUp 2 r && bPt x y d then (if sIn π r.toNatClampNeg x.toNatClampNeg y.toNatClampNeg d.toNatClampNeg then (zb (!sPw (sTb π r.toNatClampNeg) 0 x.toNatClampNeg y.toNatClampNeg d.toNatClampNeg) + zb (!sPw (sTb π r.toNatClampNeg) 1 x.toNatClampNeg y.toNatClampNeg d.toNatClampNeg), some [(zb (!sPw (sTb π r.toNatClampNeg) 0 x.toNatClampNeg y.toNatClampNeg d.toNatClampNeg)).toInt64, (zb (!sPw (sTb π r.toNatClampNeg) 1 x.toNatClampNeg y.toNatClampNeg d.toNatClampNeg)).toInt64]) else (-2, none)) else (-1, none)
theorem c_splits {G : zG} (hG : zGok G) {k' : Nat} (hk : 8 ≤ k') {I : Nat → Nat → Int32} {J : Nat → Nat → Int64} {past : Nat → Nat} {Q : zRt} {S : zS} (hS : cSt I J past S) (hv : vS S) (r x y d : Int32) (h : ∀ I' J', cSt I' J' past (sOut S ( sSpl S.1 r x y d)) → cFr I J I' J' → Q (some (.int ( sSpl S.1 r x y d).1)) (zK0, I', J', zR0 past)) : zCalls G k' yX11_splits [.ref 0, .int r, .int x, .int y, .int d] (zK0, I, J, zR0 past) Q := by
  refine rnX11_splits hG hk 0 r x y d ?_
  have no : (bUp 2 r && bPt x y d) = false → aX11_splits G Q 19 [some (.ref 0), some (.int r), some (.int x), some (.int y), some (.int d), none, none] [] (zK0, I, J, zR0 past) := by
    intro e
    unfold sSpl at h
    rw [e] at h
    refine sgX11_splits hG [] 60 19 ?_
    exact h I J hS (fun _ _ => ⟨rfl, rfl⟩)
  refine sgX11_splits hG [19, 21] 60 0 ?_
  refine And.intro (fun c => no (by rw [bUp_lo c]; rfl)) (fun c1 => ?_)
  refine And.intro (fun c => no (by rw [bUp_hi (i_ge3.mp c)]; rfl)) (fun c2 => ?_)
  have b1 : bUp 2 r = true := bUp_ok c1 (by rw [i_ge3] at c2; exact Classical.not_not.mp c2)
  refine c_isPoint hG (by decide) x y d ?_
  refine And.intro (fun c => ?_) (fun c => no (by rw [(zb_eq0 _).mp c, Bool.and_false]))
  have b2 := z_nb1 (x := 0) c
  obtain ⟨rn, hr, rfl⟩ := bUp_in (n := 2) (by decide) b1
  obtain ⟨xn, yn, dn, rfl, rfl, rfl, d1, d2, hx, hy⟩ := bPt_in b2
  unfold sSpl at h
  rw [b1, b2, nI_clamp (by omega), nI_clamp (by omega), nI_clamp (by omega), nI_clamp (by omega)] at h
  refine sgX11_splits hG [55] 60 21 ?_
  refine c_workOut hG (by decide) hS.1 hv.1 (l := rn) (by rw [nI_I]) (by omega) (by omega) (fun I1 J1 f1 t1 => ?_)
  have hc1 := cQ_pl (cRg_Q f1) hv.1.2.1 hS.1
  have hT := cTb_reg t1 (r := rn) (by omega)
  have hW := sTb_big hv.1.1 (r := rn) (by omega)
  refine c_contain hG (by decide) hc1 hv.1 (n := rn) (by omega) (cTb_le t1 (by omega)) d1 d2 hx hy rfl rfl rfl rfl ?_
  refine And.intro (fun c => ?_) (fun c => ?_)
  rotate_left
  · rw [(zb_eq0 _).mp c] at h
    exact h I1 J1 (cRg_same hS hv f1) (cQ_fr (cRg_Q f1))
  rw [z_nb1 (x := 0) c] at h
  have z101 : ∀ a b : Int32, a = zb (!sPw (sTb S.1 rn) 0 xn yn dn) → b = zb (!sPw (sTb S.1 rn) 1 xn yn dn) → aX11_splits G Q 101 [some (.ref 0), some (.int (nI rn)), some (.int (nI xn)), some (.int (nI yn)), some (.int (nI dn)), some (.int a), some (.int b)] [] (zK0, I1, J1, zR0 past) := by
    intro a b ea eb
    subst ea
    subst eb
    refine sgX11_splits hG [] 60 101 ?_
    refine c_clear hG (by decide) (fun I2 f2 n2 => ?_)
    refine c_tell hG (by decide) n2 (by decide) _ (fun I3 J3 f3 g3 n3 => ?_)
    refine c_tell hG (by decide) n3 (Nat.le_of_ble_eq_true rfl) _ (fun I4 J4 f4 g4 n4 => ?_)
    have q4 : cQ I J I4 J4 := cQ_tr (cRg_Q f1) (fun x hx => ⟨by rw [f4 x (by omega), f3 x (by omega), f2 x (by omega)], by rw [g4 x (by omega), g3 x (by omega)]⟩)
    exact h I4 J4 (cSt_tel hS hv q4 n4) (cQ_fr q4)
  have z76 : ∀ a : Int32, a = zb (!sPw (sTb S.1 rn) 0 xn yn dn) → aX11_splits G Q 78 [some (.ref 0), some (.int (nI rn)), some (.int (nI xn)), some (.int (nI yn)), some (.int (nI dn)), some (.int a), none] [] (zK0, I1, J1, zR0 past) := by
    intro a ea
    refine sgX11_splits hG [101] 60 78 ?_
    refine c_passes hG (by decide) (r := rn) (w := 1) (by omega) (by decide) hT hW d1 d2 hx hy rfl rfl rfl rfl rfl ?_
    refine And.intro (fun c => ?_) (fun c => ?_)
    · exact z101 a 1 ea (by rw [(zb_eq0 _).mp c]; rfl)
    · exact z101 a 0 ea (by rw [z_nb1 (x := 0) c]; rfl)
  refine sgX11_splits hG [78] 60 55 ?_
  refine c_passes hG (by decide) (r := rn) (w := 0) (by omega) (by decide) hT hW d1 d2 hx hy rfl rfl rfl rfl rfl ?_
  refine And.intro (fun c => ?_) (fun c => ?_)
  · exact z76 1 (by rw [(zb_eq0 _).mp c]; rfl)
  · exact z76 0 (by rw [z_nb1 (x := 0) c]; rfl)
theorem m_splits {G : zG} (hG : zGok G) {k' : Nat} (hk : 8 ≤ k') {I : Nat → Nat → Int32} {J : Nat → Nat → Int64} {past : Nat → Nat} {Q : zRt} {S : zS} (hS : mSt I J S) (hv : vS S) (r x y d : Int32) (h : ∀ I' J', mSt I' J' (sOut S ( sSpl S.1 r x y d)) → mFr I J I' J' → Q (some (.int ( sSpl S.1 r x y d).1)) (zK0, I', J', zR0 past)) : zCalls G k' yX12_splits [.ref 305, .int r, .int x, .int y, .int d] (zK0, I, J, zR0 past) Q := by
  have hS0 := mSt_thr (v := 0) hS
  have hQ0 : mQ I J (z_upI I 305 5 0) J := mQ_u (by omega)
  refine rnX12_splits hG hk 305 r x y d ?_
  have no : (bUp 2 r && bPt x y d) = false → aX12_splits G Q 24 [some (.ref 305), some (.int r), some (.int x), some (.int y), some (.int d), none, none] [] (zK0, z_upI I 305 5 0, J, zR0 past) := by
    intro e
    unfold sSpl at h
    rw [e] at h
    refine sgX12_splits hG [] 60 24 ?_
    exact h _ J hS0 (mQ_fr hQ0)
  refine sgX12_splits hG [24, 26] 60 0 ?_
  refine m_inU hG (by decide) r 2 ?_
  refine And.intro (fun c => no (by rw [(zb_eq0 _).mp c]; rfl)) (fun c => ?_)
  have b1 := z_nb1 (x := 0) c
  refine m_isPoint hG (by decide) x y d ?_
  refine And.intro (fun c => ?_) (fun c => no (by rw [(zb_eq0 _).mp c, Bool.and_false]))
  have b2 := z_nb1 (x := 0) c
  obtain ⟨rn, hr, rfl⟩ := bUp_in (n := 2) (by decide) b1
  obtain ⟨xn, yn, dn, rfl, rfl, rfl, d1, d2, hx, hy⟩ := bPt_in b2
  unfold sSpl at h
  rw [b1, b2, nI_clamp (by omega), nI_clamp (by omega), nI_clamp (by omega), nI_clamp (by omega)] at h
  refine sgX12_splits hG [46] 60 26 ?_
  refine m_lay hG (by decide) hS0.1 hv.1 (r := 2) (by omega) rfl (fun I1 J1 f1 t1 => ?_)
  have hm1 := mLy_pl f1 hS0.1
  have hT := mTb_reg t1 (r := rn) (by omega)
  have hW := sTb_big hv.1.1 (r := rn) (by omega)
  refine m_isIn hG (by decide) hm1 hv.1 (n := rn) (by omega) (fun r w k a b c => t1 r w k a b (by omega)) d1 d2 hx hy rfl rfl rfl rfl ?_
  refine And.intro (fun c => ?_) (fun c => ?_)
  rotate_left
  · rw [(zb_eq0 _).mp c] at h
    exact h I1 J1 (mLy_same hS0 f1) (mQ_fr (mQ_tr hQ0 (mLy_Q f1)))
  rw [z_nb1 (x := 0) c] at h
  have z86 : ∀ a b : Int32, a = zb (!sPw (sTb S.1 rn) 0 xn yn dn) → b = zb (!sPw (sTb S.1 rn) 1 xn yn dn) → aX12_splits G Q 86 [some (.ref 305), some (.int (nI rn)), some (.int (nI xn)), some (.int (nI yn)), some (.int (nI dn)), some (.int a), some (.int b)] [] (zK0, I1, J1, zR0 past) := by
    intro a b ea eb
    subst ea
    subst eb
    refine sgX12_splits hG [] 60 86 ?_
    refine m_tellL hG (by decide) mNm_0 (by decide) _ (fun I2 J2 f2 g2 k2 m2 => ?_)
    refine m_tellL hG (by decide) m2 (Nat.le_of_ble_eq_true rfl) _ (fun I3 J3 f3 g3 k3 m3 => ?_)
    have q3 : mQ I J I3 J3 := mQ_tr (mQ_tr hQ0 (mLy_Q f1)) (mQ_tr (J1 := J1) (I1 := z_upI I1 305 4 0) (mQ_u (by omega)) ⟨fun x hx => ⟨by
      by_cases z : x = 305
      · omega
      · rw [f3 x z, f2 x z], by rw [k3 x (by omega), k2 x (by omega)]⟩, by rw [g3 _ (by decide), g2 _ (by decide)], by rw [g3 _ (by decide), g2 _ (by decide)]⟩)
    exact h I3 J3 (mSt_tel hS q3 m3) (mQ_fr q3)
  have z66 : ∀ a : Int32, a = zb (!sPw (sTb S.1 rn) 0 xn yn dn) → aX12_splits G Q 66 [some (.ref 305), some (.int (nI rn)), some (.int (nI xn)), some (.int (nI yn)), some (.int (nI dn)), some (.int a), none] [] (zK0, I1, J1, zR0 past) := by
    intro a ea
    refine sgX12_splits hG [86] 60 66 ?_
    refine m_comesBy hG (by decide) (r := rn) (w := 1) (by omega) (by decide) hT hW d1 d2 hx hy rfl rfl rfl rfl rfl ?_
    refine And.intro (fun c => ?_) (fun c => ?_)
    · exact z86 a 1 ea (by rw [(zb_eq0 _).mp c]; rfl)
    · exact z86 a 0 ea (by rw [z_nb1 (x := 0) c]; rfl)
  refine sgX12_splits hG [66] 60 46 ?_
  refine m_comesBy hG (by decide) (r := rn) (w := 0) (by omega) (by decide) hT hW d1 d2 hx hy rfl rfl rfl rfl rfl ?_
  refine And.intro (fun c => ?_) (fun c => ?_)
  · exact z66 1 (by rw [(zb_eq0 _).mp c]; rfl)
  · exact z66 0 (by rw [z_nb1 (x := 0) c]; rfl)
-- ===== slices =====
def lgD (s : zSl) : zFr := (s.2.2.1 * s.2.1.2 - s.2.1.1 * s.2.2.2, s.2.2.2 * s.2.1.2)
def lgF (T : Nat → zSl) : Nat → zFr
  | 0 => (0, 1)
  | k + 1 => if (T k).1 then (if fLt (lgF T k) (fRed (lgD (T k)).1 (lgD (T k)).2) then fRed (lgD (T k)).1 (lgD (T k)).2 else lgF T k) else lgF T k
theorem lgD_f {s : zSl} (h : slW 300 s) (c : s.1 = true) : 0 < (lgD s).2 ∧ (lgD s).1.natAbs ≤ 1080000 ∧ (lgD s).2.natAbs ≤ 90000 := by
  obtain ⟨⟨w1, w2⟩, _⟩ := h c
  obtain ⟨p1, a1, a2⟩ := fW_p w1
  obtain ⟨p2, a3, a4⟩ := fW_p w2
  exact ⟨Int.mul_pos p2 p1, bd_sub (bd_mul a3 a2) (bd_mul a1 a4), bd_mul a4 a2⟩
theorem lgF_R {T : Nat → zSl} (hT : ∀ k, k < 7 → slW 300 (T k)) : ∀ k, k ≤ 7 → isR (lgF T k) ∧ (lgF T k).1.natAbs ≤ 1080000 ∧ (lgF T k).2.natAbs ≤ 90000
  | 0, _ => ⟨isR_1 0, by show (0 : Int).natAbs ≤ _; decide, by show (1 : Int).natAbs ≤ _; decide⟩
  | k + 1, h => by
    have ih := lgF_R hT k (by omega)
    show isR (if _ then _ else _) ∧ (if _ then _ else _ : zFr).1.natAbs ≤ _ ∧ (if _ then _ else _ : zFr).2.natAbs ≤ _
    by_cases c : (T k).1 = true
    · rw [if_pos c]
      obtain ⟨p, a, b⟩ := lgD_f (hT k (by omega)) c
      split
      · have r := fRed_bd (a := (lgD (T k)).1) (b := (lgD (T k)).2) (by omega)
        exact ⟨fRed_R (by omega), by omega, by omega⟩
      · exact ih
    · rw [if_neg c]; exact ih
def sSls (π : zPl) (r : Int32) : Int32 × Option (List Int64) := if bUp 2 r then (nI (zChN (fun k => (sTb π r.toNatClampNeg 0 k).1) 7) + nI (zChN (fun k => (sTb π r.toNatClampNeg 1 k).1) 7), some ([(nI (zChN (fun k => (sTb π r.toNatClampNeg 0 k).1) 7)).toInt64, (nI (zChN (fun k => (sTb π r.toNatClampNeg 1 k).1) 7)).toInt64] ++ (if r.toNatClampNeg < 2 then fPr (lgF (sTb π r.toNatClampNeg 0) 7) else []))) else (-1, none)
theorem c_filled {G : zG} (hG : zGok G) {k' : Nat} (hk : 3 ≤ k') {I : Nat → Nat → Int32} {J : Nat → Nat → Int64} {past : Nat → Nat} {Q : zRt} {T : Nat → zSl} {r w : Nat} (hr : r < 3) (hw : w < 2) (hT : ∀ k, k < 7 → cSlT I J (14 * r + 7 * w + k) (T k)) {R W : Int32} (eR : R = nI r) (eW : W = nI w) (h : Q (some (.int (nI (zChN (fun k => (T k).1) 7)))) (zK0, I, J, zR0 past)) : zCalls G k' yX7_filled [.ref 130, .int R, .int W] (zK0, I, J, zR0 past) Q := by
  subst eR
  subst eW
  have loop : ∀ (q k : Nat) (v n : Int32), v = nI k → n = nI (zChN (fun k => (T k).1) k) → k + q = 7 → aX7_filled G Q 5 [some (.ref 130), some (.int (nI r)), some (.int (nI w)), some (.int n), some (.int v)] [] (zK0, I, J, zR0 past) := by
    intro q
    induction q with
    | zero =>
      intro k v n ev en hk
      subst ev
      subst en
      have e : k = 7 := by omega
      subst e
      refine sgX7_filled hG [5, 29] 60 5 ?_
      refine And.intro (fun _ => h) (fun c => absurd (by decide) c)
    | succ q ih =>
      intro k v n ev en hk
      subst ev
      subst en
      have es := zChN_s (fun k => (T k).1) k
      refine sgX7_filled hG [5, 29] 60 5 ?_
      refine And.intro (fun c => absurd c (by rw [show (7 : Int32) = nI 7 from rfl, nI_leI (by omega) (by omega)]; omega)) (fun _ => ?_)
      refine c_at hG (by decide) r w k hr hw (by omega) rfl rfl rfl (fun p l u hf => ?_)
      have ta : cAcc I J p l u (T k) := (cAcc_T hf).mpr (hT k (by omega))
      obtain ⟨_, p9, _⟩ := hf
      refine zB_in p9 ?_
      refine And.intro (fun c => ?_) (fun c => ?_)
      · rw [ta.1] at c
        have c := z_nb1 (x := 0) c
        rw [Bool.not_eq_true'] at c
        rw [if_neg (by rw [c]; decide)] at es
        refine sgX7_filled hG [5] 60 29 ?_
        exact ih (k + 1) _ _ (by rw [nI_1]) (by rw [es]; rfl) (by omega)
      · rw [ta.1] at c
        have c := (zb_eq0 _).mp c
        have c1 : (T k).1 = true := by rw [Bool.not_eq_false'] at c; exact c
        rw [if_pos c1] at es
        refine sgX7_filled hG [5] 60 29 ?_
        exact ih (k + 1) _ _ (by rw [nI_1]) (by rw [es, nI_1]) (by omega)
  refine rnX7_filled hG hk 130 _ _ ?_
  refine sgX7_filled hG [5] 60 0 ?_
  exact loop 7 0 0 0 rfl rfl (by omega)
theorem c_putDifference {G : zG} (hG : zGok G) {k' : Nat} (hk : 4 ≤ k') {I : Nat → Nat → Int32} {J : Nat → Nat → Int64} {past : Nat → Nat} {Q : zRt} (p a b : Nat) (p6 : Nat.beq (zKd zK0 p).1 6 = true) (a6 : Nat.beq (zKd zK0 a).1 6 = true) (b6 : Nat.beq (zKd zK0 b).1 6 = true) {f g : zFr} (qa : cFx J a f) (qb : cFx J b g) (bf : fB f) (bg : fB g) (h1 : (f.2 * g.2).natAbs < 2 ^ 49) (h0 : f.2 * g.2 ≠ 0) (h : ∀ J', (∀ x, x ≠ p → J' x = J x) → cFx J' p (fRed (f.1 * g.2 - g.1 * f.2) (f.2 * g.2)) → Q none (zK0, I, J', zR0 past)) : zCalls G k' yX6_putDifference [.ref p, .ref a, .ref b] (zK0, I, J, zR0 past) Q := by
  have m1 := fB_m bf bg
  have m2 := fB_m bg bf
  refine rnX6_putDifference hG hk p a b ?_
  refine sgX6_putDifference hG [] 60 0 ?_
  refine zB_in a6 ?_
  refine zB_in b6 ?_
  refine zB_in b6 ?_
  refine zB_in a6 ?_
  refine zB_in a6 ?_
  refine zB_in b6 ?_
  refine zB_in p6 ?_
  refine c_putI hG (by decide) p p6 (a := f.1 * g.2 - g.1 * f.2) (b := f.2 * g.2) (by rw [qa.1, qa.2, qb.1, qb.2, Int64.ofInt_sub, Int64.ofInt_mul, Int64.ofInt_mul]) (by rw [qa.2, qb.2, Int64.ofInt_mul]) (by omega) h1 h0 (fun J1 f1 q1 => ?_)
  exact h J1 f1 q1
theorem c_findLongest {G : zG} (hG : zGok G) {k' : Nat} (hk : 5 ≤ k') {I : Nat → Nat → Int32} {J : Nat → Nat → Int64} {past : Nat → Nat} {Q : zRt} {T : Nat → zSl} {r : Nat} (hr : r < 2) (hT : ∀ k, k < 7 → cSlT I J (14 * r + 7 * 0 + k) (T k)) (hW : ∀ k, k < 7 → slW 300 (T k)) {R : Int32} (eR : R = nI r) (h : ∀ J', (∀ x, x ≠ 134 → x ≠ 269 → J' x = J x) → cFx J' 269 (lgF T 7) → Q none (zK0, I, J', zR0 past)) : zCalls G k' yX7_findLongest [.ref 130, .int R, .ref 269] (zK0, I, J, zR0 past) Q := by
  subst eR
  have loop : ∀ (q k : Nat) (v : Int32) (o4 : Option Value) (J' : Nat → Nat → Int64), v = nI k → k + q = 7 → (∀ x, x ≠ 134 → x ≠ 269 → J' x = J x) → cFx J' 269 (lgF T k) → aX7_findLongest G Q 8 [some (.ref 130), some (.int (nI r)), some (.ref 269), some (.int v), o4] [] (zK0, I, J', zR0 past) := by
    intro q
    induction q with
    | zero =>
      intro k v o4 J' ev hk fj q1
      subst ev
      have e : k = 7 := by omega
      subst e
      refine sgX7_findLongest hG [8, 67] 60 8 ?_
      refine And.intro (fun _ => h J' fj q1) (fun c => absurd (by decide) c)
    | succ q ih =>
      intro k v o4 J' ev hk fj q1
      subst ev
      obtain ⟨ir, ib1, ib2⟩ := lgF_R hW k (by omega)
      have z67 : ∀ (o4 : Option Value) J2, (∀ x, x ≠ 134 → x ≠ 269 → J2 x = J x) → cFx J2 269 (lgF T (k + 1)) → aX7_findLongest G Q 67 [some (.ref 130), some (.int (nI r)), some (.ref 269), some (.int (nI k)), o4] [] (zK0, I, J2, zR0 past) := by
        intro o4 J2 f2 q2
        refine sgX7_findLongest hG [8] 60 67 ?_
        exact ih (k + 1) _ o4 J2 (by rw [nI_1]) (by omega) f2 q2
      have es : lgF T (k + 1) = if (T k).1 then (if fLt (lgF T k) (fRed (lgD (T k)).1 (lgD (T k)).2) then fRed (lgD (T k)).1 (lgD (T k)).2 else lgF T k) else lgF T k := rfl
      refine sgX7_findLongest hG [8, 67] 60 8 ?_
      refine And.intro (fun c => absurd c (by rw [show (7 : Int32) = nI 7 from rfl, nI_leI (by omega) (by omega)]; omega)) (fun _ => ?_)
      refine c_at hG (by decide) r 0 k (by omega) (by omega) (by omega) rfl rfl rfl (fun p l u hf => ?_)
      have hs := cSlT_fr (I1 := I) (J1 := J') (hT k (by omega)) rfl (fj _ (by omega) (by omega)) (fj _ (by omega) (by omega))
      have ta : cAcc I J' p l u (T k) := (cAcc_T hf).mpr hs
      have hf' := hf
      obtain ⟨⟨ep, el, eu⟩, p9, r1, r2, l6, u6⟩ := hf'
      refine zB_in p9 ?_
      refine And.intro (fun c => ?_) (fun c => ?_)
      · rw [ta.1] at c
        have c := z_nb1 (x := 0) c
        rw [Bool.not_eq_true'] at c
        rw [c] at es
        exact z67 _ J' fj (by rw [es]; exact q1)
      rw [ta.1] at c
      have c := (zb_eq0 _).mp c
      have c1 : (T k).1 = true := by rw [Bool.not_eq_false'] at c; exact c
      rw [if_pos c1] at es
      obtain ⟨ql, qu⟩ := ta.2 c1
      obtain ⟨lp, lb1, lb2⟩ := lgD_f (hW k (by omega)) c1
      obtain ⟨bl, bu⟩ := slW_B (by decide) (hW k (by omega)) c1
      have rb := fRed_bd (a := (lgD (T k)).1) (b := (lgD (T k)).2) (by omega)
      refine zB_in p9 (op_in r2 ?_)
      refine zB_in p9 (op_in r1 ?_)
      refine c_putDifference hG (by decide) 134 u l rfl u6 l6 qu ql bu bl (by show (lgD (T k)).2.natAbs < _; omega) (by show (lgD (T k)).2 ≠ 0; omega) (fun J2 f2 q2 => ?_)
      have q2 : cFx J2 134 (fRed (lgD (T k)).1 (lgD (T k)).2) := q2
      have q1' := cFx_fr q1 (f2 269 (by decide))
      refine c_isBelowI hG (by decide) 269 134 rfl rfl q1' q2 ⟨by omega, by omega⟩ ⟨by omega, by omega⟩ ?_
      refine And.intro (fun e => ?_) (fun e => ?_)
      · rw [if_neg (by rw [(zb_eq0 _).mp e]; decide)] at es
        exact z67 _ J2 (fun x a b => (f2 x a).trans (fj x a b)) (by rw [es]; exact q1')
      · rw [if_pos (z_nb1 (x := 0) e)] at es
        refine c_rcopyI hG (by decide) 269 134 rfl rfl (by decide) q2 (fun J3 f3 q3 => ?_)
        exact z67 _ J3 (fun x a b => (f3 x b).trans ((f2 x a).trans (fj x a b))) (by rw [es]; exact q3)
  refine rnX7_findLongest hG hk 130 _ 269 ?_
  refine sgX7_findLongest hG [8] 60 0 ?_
  refine c_putI hG (by decide) 269 rfl (a := 0) (b := 1) rfl rfl (by decide) (by decide) (by decide) (fun J1 f1 q1 => ?_)
  rw [fRed_1] at q1
  exact loop 7 0 0 none J1 rfl (by omega) (fun x _ b => f1 x b) q1
theorem c_slices {G : zG} (hG : zGok G) {k' : Nat} (hk : 8 ≤ k') {I : Nat → Nat → Int32} {J : Nat → Nat → Int64} {past : Nat → Nat} {Q : zRt} {S : zS} (hS : cSt I J past S) (hv : vS S) (r : Int32) (h : ∀ I' J', cSt I' J' past (sOut S ( sSls S.1 r)) → cFr I J I' J' → Q (some (.int ( sSls S.1 r).1)) (zK0, I', J', zR0 past)) : zCalls G k' yX11_slices [.ref 0, .int r] (zK0, I, J, zR0 past) Q := by
  refine rnX11_slices hG hk 0 r ?_
  have no : bUp 2 r = false → aX11_slices G Q 9 [some (.ref 0), some (.int r), none, none] [] (zK0, I, J, zR0 past) := by
    intro e
    unfold sSls at h
    rw [e] at h
    refine sgX11_slices hG [] 60 9 ?_
    exact h I J hS (fun _ _ => ⟨rfl, rfl⟩)
  refine sgX11_slices hG [9, 11] 60 0 ?_
  refine And.intro (fun c => no (bUp_lo c)) (fun c1 => ?_)
  refine And.intro (fun c2 => ?_) (fun c => no (bUp_hi (i_ge3.mp (Int32.not_lt.mp c))))
  have b1 : bUp 2 r = true := bUp_ok c1 (by have := Int32.not_le.mpr c2; rw [i_ge3] at this; exact Classical.not_not.mp this)
  obtain ⟨rn, hr, rfl⟩ := bUp_in (n := 2) (by decide) b1
  unfold sSls at h
  rw [b1, nI_clamp (by omega)] at h
  refine sgX11_slices hG [96] 60 11 ?_
  refine c_workOut hG (by decide) hS.1 hv.1 (l := rn) (by rw [nI_I]) (by omega) (by omega) (fun I1 J1 f1 t1 => ?_)
  have hT := cTb_reg t1 (r := rn) (by omega)
  refine c_filled hG (by decide) (T := sTb S.1 rn 0) (r := rn) (w := 0) (by omega) (by decide) (fun k hk => hT 0 k (by decide) hk) rfl rfl ?_
  refine c_filled hG (by decide) (T := sTb S.1 rn 1) (r := rn) (w := 1) (by omega) (by decide) (fun k hk => hT 1 k (by decide) hk) rfl rfl ?_
  refine c_clear hG (by decide) (fun I2 f2 n2 => ?_)
  refine c_tell hG (by decide) n2 (by decide) _ (fun I3 J3 f3 g3 n3 => ?_)
  refine c_tell hG (by decide) n3 (Nat.le_of_ble_eq_true rfl) _ (fun I4 J4 f4 g4 n4 => ?_)
  have q4 : cQ I J I4 J4 := cQ_tr (cRg_Q f1) (fun x hx => ⟨by rw [f4 x (by omega), f3 x (by omega), f2 x (by omega)], by rw [g4 x (by omega), g3 x (by omega)]⟩)
  refine And.intro (fun c => ?_) (fun c => ?_)
  · rw [show (2 : Int32) = nI 2 from rfl, nI_leI (by omega) (by omega)] at c
    rw [if_neg (show ¬ rn < 2 by omega)] at h
    refine sgX11_slices hG [] 60 96 ?_
    exact h I4 J4 (cSt_tel hS hv q4 n4) (cQ_fr q4)
  · rw [show (2 : Int32) = nI 2 from rfl, nI_leI (by omega) (by omega)] at c
    rw [if_pos (show rn < 2 by omega)] at h
    have hT4 : ∀ k, k < 7 → cSlT I4 J4 (14 * rn + 7 * 0 + k) (sTb S.1 rn 0 k) := fun k hk => cSlT_fr (hT 0 k (by decide) hk) (by rw [f4 _ (by omega), f3 _ (by omega), f2 _ (by omega)]) (by rw [g4 _ (by omega), g3 _ (by omega)]) (by rw [g4 _ (by omega), g3 _ (by omega)])
    refine c_findLongest hG (by decide) (T := sTb S.1 rn 0) (r := rn) (by omega) hT4 (fun k hk => sTb_300 hv.1.1 (r := rn) (by omega) 0 k (by decide) hk) rfl (fun J5 f5 q5 => ?_)
    refine c_tellRatio hG (by decide) (cNm_fr n4 rfl (f5 129 (by decide) (by decide))) (Nat.le_of_ble_eq_true rfl) 269 rfl (by decide) (fun I6 J6 f6 g6 n6 => ?_)
    rw [q5.1, q5.2] at n6
    have q6 : cQ I J I6 J6 := cQ_tr q4 (fun x hx => ⟨f6 x (by omega), by rw [g6 x (by omega), f5 x (by omega) (by omega)]⟩)
    refine sgX11_slices hG [] 60 96 ?_
    exact h I6 J6 (cSt_tel hS hv q6 n6) (cQ_fr q6)
theorem m_slices {G : zG} (hG : zGok G) {k' : Nat} (hk : 8 ≤ k') {I : Nat → Nat → Int32} {J : Nat → Nat → Int64} {past : Nat → Nat} {Q : zRt} {S : zS} (hS : mSt I J S) (hv : vS S) (r : Int32) (h : ∀ I' J', mSt I' J' (sOut S ( sSls S.1 r)) → mFr I J I' J' → Q (some (.int ( sSls S.1 r).1)) (zK0, I', J', zR0 past)) : zCalls G k' yX12_slices [.ref 305, .int r] (zK0, I, J, zR0 past) Q := by
  have hS0 := mSt_thr (v := 0) hS
  have hQ0 : mQ I J (z_upI I 305 5 0) J := mQ_u (by omega)
  refine rnX12_slices hG hk 305 r ?_
  refine sgX12_slices hG [16, 34] 60 0 ?_
  refine m_inU hG (by decide) r 2 ?_
  refine And.intro (fun c => ?_) (fun c => ?_)
  rotate_left
  · unfold sSls at h
    rw [(zb_eq0 _).mp c] at h
    exact h _ J hS0 (mQ_fr hQ0)
  have b1 := z_nb1 (x := 0) c
  obtain ⟨rn, hr, rfl⟩ := bUp_in (n := 2) (by decide) b1
  unfold sSls at h
  rw [b1, nI_clamp (by omega)] at h
  refine sgX12_slices hG [34] 60 16 ?_
  refine m_lay hG (by decide) hS0.1 hv.1 (r := rn) (by omega) rfl (fun I1 J1 f1 t1 => ?_)
  have hT := mTb_reg t1 (r := rn) (by omega)
  have q1 := mQ_tr hQ0 (mLy_Q f1)
  have loop : ∀ (q k : Nat) (v a b : Int32) (c d : Int64) (o9 o10 o11 o12 o13 : Option Value) (J2 : Nat → Nat → Int64), v = nI k → a = nI (zChN (fun k => (sTb S.1 rn 0 k).1) k) → b = nI (zChN (fun k => (sTb S.1 rn 1 k).1) k) → (rn < 2 → c = Int64.ofInt (lgF (sTb S.1 rn 0) k).1 ∧ d = Int64.ofInt (lgF (sTb S.1 rn 0) k).2) → k + q = 7 → (∀ x, x ≠ 305 → J2 x = J1 x) → aX12_slices G Q 34 [some (.ref 305), some (.int (nI rn)), some (.int a), some (.int b), some (.long c), none, some (.long d), none, some (.int v), o9, o10, o11, o12, o13] [] (zK0, I1, J2, zR0 past) := by
    intro q
    induction q with
    | zero =>
      intro k v a b c d o9 o10 o11 o12 o13 J2 ev ea eb hcd hk f2
      subst ev
      subst ea
      subst eb
      have e : k = 7 := by omega
      subst e
      refine sgX12_slices hG [34, 210] 60 34 ?_
      refine And.intro (fun _ => ?_) (fun c => absurd (by decide) c)
      refine sgX12_slices hG [240] 60 210 ?_
      refine m_tellL hG (by decide) mNm_0 (by decide) _ (fun I3 J3 f3 g3 k3 m3 => ?_)
      refine m_tellL hG (by decide) m3 (Nat.le_of_ble_eq_true rfl) _ (fun I4 J4 f4 g4 k4 m4 => ?_)
      have q4 : mQ I J I4 J4 := mQ_tr q1 (mQ_tr (J1 := J2) (I1 := z_upI I1 305 4 0) ⟨fun x hx => ⟨z_upI_ne (by omega), f2 x (by omega)⟩, by rw [uI_k (by decide)], by rw [uI_k (by decide)]⟩ ⟨fun x hx => ⟨by
        by_cases z : x = 305
        · omega
        · rw [f4 x z, f3 x z], by rw [k4 x (by omega), k3 x (by omega)]⟩, by rw [g4 _ (by decide), g3 _ (by decide)], by rw [g4 _ (by decide), g3 _ (by decide)]⟩)
      refine And.intro (fun z => ?_) (fun z => ?_)
      · rw [show (2 : Int32) = nI 2 from rfl, nI_leI (by omega) (by omega)] at z
        rw [if_neg (show ¬ rn < 2 by omega)] at h
        refine sgX12_slices hG [] 60 240 ?_
        exact h I4 J4 (mSt_tel hS q4 m4) (mQ_fr q4)
      · rw [show (2 : Int32) = nI 2 from rfl, nI_leI (by omega) (by omega)] at z
        rw [if_pos (show rn < 2 by omega)] at h
        obtain ⟨ec, ed⟩ := hcd (by omega)
        obtain ⟨ir, ib1, ib2⟩ := lgF_R (T := sTb S.1 rn 0) (fun k hk => sTb_300 hv.1.1 (r := rn) (by omega) 0 k (by decide) hk) 7 (by omega)
        refine m_tellFr hG (by decide) m4 (Nat.le_of_ble_eq_true rfl) ec ed (by omega) (by omega) (by have := ir.1; omega) (fun I5 J5 f5 g5 k5 l5 m5 => ?_)
        rw [fRed_id ir] at m5
        have q5 : mQ I J I5 J5 := mQ_tr q4 ⟨fun x hx => ⟨by
          by_cases z : x = 305
          · omega
          · rw [f5 x z], k5 x (by omega) (by omega)⟩, g5 _ (by decide), g5 _ (by decide)⟩
        refine sgX12_slices hG [] 60 240 ?_
        exact h I5 J5 (mSt_tel hS q5 m5) (mQ_fr q5)
    | succ q ih =>
      intro k v a b c d o9 o10 o11 o12 o13 J2 ev ea eb hcd hk f2
      subst ev
      subst ea
      subst eb
      have ea := zChN_s (fun k => (sTb S.1 rn 0 k).1) k
      have eb := zChN_s (fun k => (sTb S.1 rn 1 k).1) k
      have t0 := hT 0 k (by decide) (by omega)
      have t0 := mSl_fr2 (I1 := I1) (J1 := J2) t0 rfl (f2 313 (by decide)) (f2 314 (by decide))
      have t1' := hT 1 k (by decide) (by omega)
      have es : lgF (sTb S.1 rn 0) (k + 1) = if (sTb S.1 rn 0 k).1 then (if fLt (lgF (sTb S.1 rn 0) k) (fRed (lgD (sTb S.1 rn 0 k)).1 (lgD (sTb S.1 rn 0 k)).2) then fRed (lgD (sTb S.1 rn 0 k)).1 (lgD (sTb S.1 rn 0 k)).2 else lgF (sTb S.1 rn 0) k) else lgF (sTb S.1 rn 0) k := rfl
      have z204 : ∀ (a : Int32) (c d : Int64) (o9 o10 o11 o12 o13 : Option Value) (J3 : Nat → Nat → Int64), a = nI (zChN (fun k => (sTb S.1 rn 0 k).1) (k + 1)) → (rn < 2 → c = Int64.ofInt (lgF (sTb S.1 rn 0) (k + 1)).1 ∧ d = Int64.ofInt (lgF (sTb S.1 rn 0) (k + 1)).2) → (∀ x, x ≠ 305 → J3 x = J1 x) → aX12_slices G Q 204 [some (.ref 305), some (.int (nI rn)), some (.int a), some (.int (nI (zChN (fun k => (sTb S.1 rn 1 k).1) (k + 1)))), some (.long c), none, some (.long d), none, some (.int (nI k)), o9, o10, o11, o12, o13] [] (zK0, I1, J3, zR0 past) := by
        intro a c d o9 o10 o11 o12 o13 J3 ea hcd f3
        refine sgX12_slices hG [34] 60 204 ?_
        exact ih (k + 1) _ a _ c d o9 o10 o11 o12 o13 J3 (by rw [nI_1]) ea rfl hcd (by omega) f3
      have i0 : (2 : Int32) * nI (14 * rn + 7 * 0 + k) = nI (2 * (14 * rn + 7 * 0 + k)) := by rw [show (2 : Int32) = nI 2 from rfl, pk_mul]
      have i1 : (2 : Int32) * nI (14 * rn + 7 * 0 + k) + 1 = nI (2 * (14 * rn + 7 * 0 + k) + 1) := by rw [i0, nI_1]
      have v0 : vp_in ((2 : Int32) * nI (14 * rn + 7 * 0 + k)) 84 := by rw [i0]; exact vp_in_nI (by omega) (by omega)
      have v1 : vp_in ((2 : Int32) * nI (14 * rn + 7 * 0 + k) + 1) 84 := by rw [i1]; exact vp_in_nI (by omega) (by omega)
      have n1 : ((2 : Int32) * nI (14 * rn + 7 * 0 + k)).toNatClampNeg = 2 * (14 * rn + 7 * 0 + k) := by rw [i0, nI_clamp (by omega)]
      have n2 : ((2 : Int32) * nI (14 * rn + 7 * 0 + k) + 1).toNatClampNeg = 2 * (14 * rn + 7 * 0 + k) + 1 := by rw [i1, nI_clamp (by omega)]
      have z64 : ∀ b : Int32, b = nI (zChN (fun k => (sTb S.1 rn 1 k).1) (k + 1)) → aX12_slices G Q 64 [some (.ref 305), some (.int (nI rn)), some (.int (nI (zChN (fun k => (sTb S.1 rn 0 k).1) k))), some (.int b), some (.long c), none, some (.long d), none, some (.int (nI k)), o9, o10, o11, o12, o13] [] (zK0, I1, J2, zR0 past) := by
        intro b eb2
        subst eb2
        refine sgX12_slices hG [86, 204] 60 64 ?_
        refine m_sliceAt hG (by decide) rn 0 k rfl rfl rfl ?_
        refine And.intro (by exact vp_in_nI (by omega) (by omega)) ?_
        refine And.intro (fun z => ?_) (fun z => ?_)
        rotate_left
        · have z : I1 312 (nI (14 * rn + 7 * 0 + k)).toNatClampNeg = 0 := z
          rw [nI_clamp (by omega), t0.1] at z
          have z := (zb_eq0 _).mp z
          rw [if_neg (by rw [z]; decide)] at es ea
          exact z204 _ c d _ _ _ _ _ J2 (by rw [ea]; rfl) (fun q => by rw [es]; exact hcd q) f2
        have z : ¬ I1 312 (nI (14 * rn + 7 * 0 + k)).toNatClampNeg = 0 := z
        rw [nI_clamp (by omega), t0.1] at z
        have c1 := z_nb1 (x := 0) z
        rw [if_pos c1] at es ea
        refine sgX12_slices hG [97, 204] 60 86 ?_
        refine And.intro (fun z => ?_) (fun z => ?_)
        rotate_left
        · rw [show (2 : Int32) = nI 2 from rfl, nI_eq (by omega) (by omega)] at z
          exact z204 _ c d _ _ _ _ _ J2 (by rw [ea, nI_1]) (fun q => by omega) f2
        rw [show (2 : Int32) = nI 2 from rfl, nI_eq (by omega) (by omega)] at z
        obtain ⟨ec, ed⟩ := hcd (by omega)
        have w0 := sTb_300 hv.1.1 (r := rn) (by omega) 0 k (by decide) (by omega)
        obtain ⟨⟨l1, l2⟩, u1, u2⟩ := t0.2 c1
        obtain ⟨lp, lb1, lb2⟩ := lgD_f w0 c1
        obtain ⟨ir, ib1, ib2⟩ := lgF_R (T := sTb S.1 rn 0) (fun k hk => sTb_300 hv.1.1 (r := rn) (by omega) 0 k (by decide) hk) k (by omega)
        have x1 : J2 313 ((2 : Int32) * nI (14 * rn + 7 * 0 + k)).toNatClampNeg = Int64.ofInt (sTb S.1 rn 0 k).2.1.1 := by rw [n1]; exact l1
        have x2 : J2 313 ((2 : Int32) * nI (14 * rn + 7 * 0 + k) + 1).toNatClampNeg = Int64.ofInt (sTb S.1 rn 0 k).2.1.2 := by rw [n2]; exact l2
        have x3 : J2 314 ((2 : Int32) * nI (14 * rn + 7 * 0 + k)).toNatClampNeg = Int64.ofInt (sTb S.1 rn 0 k).2.2.1 := by rw [n1]; exact u1
        have x4 : J2 314 ((2 : Int32) * nI (14 * rn + 7 * 0 + k) + 1).toNatClampNeg = Int64.ofInt (sTb S.1 rn 0 k).2.2.2 := by rw [n2]; exact u2
        have eU : J2 314 ((2 : Int32) * nI (14 * rn + 7 * 0 + k)).toNatClampNeg * J2 313 ((2 : Int32) * nI (14 * rn + 7 * 0 + k) + 1).toNatClampNeg - J2 313 ((2 : Int32) * nI (14 * rn + 7 * 0 + k)).toNatClampNeg * J2 314 ((2 : Int32) * nI (14 * rn + 7 * 0 + k) + 1).toNatClampNeg = Int64.ofInt (lgD (sTb S.1 rn 0 k)).1 := by
          unfold lgD
          rw [x1, x2, x3, x4, Int64.ofInt_sub, Int64.ofInt_mul, Int64.ofInt_mul]
        have eV : J2 314 ((2 : Int32) * nI (14 * rn + 7 * 0 + k) + 1).toNatClampNeg * J2 313 ((2 : Int32) * nI (14 * rn + 7 * 0 + k) + 1).toNatClampNeg = Int64.ofInt (lgD (sTb S.1 rn 0 k)).2 := by
          unfold lgD
          rw [x2, x4, Int64.ofInt_mul]
        have kk : fLt (lgF (sTb S.1 rn 0) k) (lgD (sTb S.1 rn 0 k)) = fLt (lgF (sTb S.1 rn 0) k) (fRed (lgD (sTb S.1 rn 0 k)).1 (lgD (sTb S.1 rn 0 k)).2) := by
          rw [Bool.eq_iff_iff, fRed_lt2 lp, fLt_t]
        rw [← kk] at es
        refine sgX12_slices hG [184, 204] 60 97 ?_
        refine And.intro v0 ?_
        refine And.intro v1 ?_
        refine And.intro v0 ?_
        refine And.intro v1 ?_
        refine And.intro v1 ?_
        refine And.intro v1 ?_
        refine m_isLessI hG (by decide) (f := lgF (sTb S.1 rn 0) k) (g := lgD (sTb S.1 rn 0 k)) ec ed eU eV ⟨by omega, by omega⟩ ⟨by omega, by omega⟩ ?_
        refine And.intro (fun z => ?_) (fun z => ?_)
        rotate_left
        · rw [if_neg (by rw [(zb_eq0 _).mp z]; decide)] at es
          exact z204 _ c d _ _ _ _ _ J2 (by rw [ea, nI_1]) (fun q => by rw [es]; exact ⟨ec, ed⟩) f2
        rw [if_pos (z_nb1 (x := 0) z)] at es
        refine sgX12_slices hG [204] 60 184 ?_
        refine m_setI hG (by decide) eU eV (by omega) (by omega) (by omega) (fun J3 f3 g3 y1 y2 => ?_)
        exact z204 _ _ _ _ _ _ _ _ J3 (by rw [ea, nI_1]) (fun q => by rw [es]; exact ⟨y1, y2⟩) (fun x hx => (f3 x hx).trans (f2 x hx))
      refine sgX12_slices hG [64, 204] 60 34 ?_
      refine And.intro (fun c => absurd c (by rw [show (7 : Int32) = nI 7 from rfl, nI_leI (by omega) (by omega)]; omega)) (fun _ => ?_)
      refine m_sliceAt hG (by decide) rn 1 k rfl rfl rfl ?_
      refine And.intro (by exact vp_in_nI (by omega) (by omega)) ?_
      refine And.intro (fun z => ?_) (fun z => ?_)
      · have z : I1 312 (nI (14 * rn + 7 * 1 + k)).toNatClampNeg = 0 := z
        rw [nI_clamp (by omega), t1'.1] at z
        rw [if_neg (by rw [(zb_eq0 _).mp z]; decide)] at eb
        exact z64 _ (by rw [eb, show (0 : Int32) = nI 0 from rfl, nI_add])
      · have z : ¬ I1 312 (nI (14 * rn + 7 * 1 + k)).toNatClampNeg = 0 := z
        rw [nI_clamp (by omega), t1'.1] at z
        rw [if_pos (z_nb1 (x := 0) z)] at eb
        exact z64 _ (by rw [eb, nI_1])
  exact loop 7 0 0 0 0 0 1 none none none none none J1 rfl rfl rfl (fun _ => ⟨rfl, rfl⟩) (by omega) (fun _ _ => rfl)
