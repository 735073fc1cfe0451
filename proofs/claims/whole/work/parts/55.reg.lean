-- ===== whether a point is in a region =====
theorem sTb_big {π : zPl} (hv : vRw π) {r : Nat} (hr : r < 3) : ∀ w k, w < 2 → k < 7 → slW 1080000 (sTb π r w k) := by
  obtain ⟨_, _, h2⟩ := sTb_W hv
  intro w k a b c
  rcases (show r < 2 ∨ r = 2 by omega) with hr | rfl
  · obtain ⟨⟨x, y⟩, z⟩ := sTb_300 hv hr w k a b c
    exact ⟨⟨fW_mono (by decide) x, fW_mono (by decide) y⟩, z⟩
  · exact h2 w k a b c
theorem mTb_reg {I : Nat → Nat → Int32} {J : Nat → Nat → Int64} {T : Nat → Nat → Nat → zSl} {n r : Nat} (h : mTb I J T n) (hn : 14 * (r + 1) ≤ n) : ∀ w k, w < 2 → k < 7 → mSl I J (14 * r + 7 * w + k) (T r w k) := fun w k a b => h r w k a b (by omega)
def sIn (π : zPl) (n x y d : Nat) : Bool := if n = 0 then zHd π (nI x) (nI y) (nI d) (-1) else sPw (sTb π (n - 1)) 0 x y d && sPw (sTb π (n - 1)) 1 x y d
theorem c_contain {G : zG} (hG : zGok G) {k' : Nat} (hk : 4 ≤ k') {I : Nat → Nat → Int32} {J : Nat → Nat → Int64} {past : Nat → Nat} {Q : zRt} {π : zPl} (hc : cPl I J 1 π) (hv : vPl π) {n : Nat} (hn : n ≤ 3) (ht : cTb I J (sTb π) (14 * n)) {x y d : Nat} (h0 : 1 ≤ d) (hd : d ≤ 12) (hx : x ≤ 6 * d) (hy : y ≤ 6 * d) {N X Y D : Int32} (eN : N = nI n) (eX : X = nI x) (eY : Y = nI y) (eD : D = nI d) (h : Q (some (.int (zb (sIn π n x y d)))) (zK0, I, J, zR0 past)) : zCalls G k' yX7_contain [.ref 130, .ref 1, .int N, .int X, .int Y, .int D] (zK0, I, J, zR0 past) Q := by
  subst eN
  subst eX
  subst eY
  subst eD
  unfold sIn at h
  refine rnX7_contain hG hk 130 1 _ _ _ _ ?_
  refine sgX7_contain hG [15, 51] 60 0 ?_
  refine And.intro (fun c => ?_) (fun c => ?_)
  · have n0 : ¬ n = 0 := fun q => c (by rw [q]; rfl)
    rw [if_neg n0] at h
    have en : nI n - 1 = nI (n - 1) := by rw [show (1 : Int32) = nI 1 from rfl, pk_sub (by omega)]
    have hT := cTb_reg ht (r := n - 1) (by omega)
    have hW := sTb_big hv.1 (r := n - 1) (by omega)
    have no : Q (some (.int (zb false))) (zK0, I, J, zR0 past) → aX7_contain G Q 51 [some (.ref 130), some (.ref 1), some (.int (nI n)), some (.int (nI x)), some (.int (nI y)), some (.int (nI d))] [] (zK0, I, J, zR0 past) := by
      intro q
      refine sgX7_contain hG [] 60 51 ?_
      exact And.intro (Or.inl rfl) q
    refine sgX7_contain hG [51] 60 15 ?_
    refine c_passes hG (by decide) (r := n - 1) (w := 0) (by omega) (by decide) hT hW h0 hd hx hy en rfl rfl rfl rfl ?_
    refine And.intro (fun e => ?_) (fun e => ?_)
    · have e := (zb_eq0 _).mp e
      rw [e] at h
      exact no h
    have e := z_nb1 (x := 0) e
    rw [e] at h
    refine c_passes hG (by decide) (r := n - 1) (w := 1) (by omega) (by decide) hT hW h0 hd hx hy en rfl rfl rfl rfl ?_
    refine And.intro (fun e => ?_) (fun e => ?_)
    · have e := (zb_eq0 _).mp e
      rw [e] at h
      exact no h
    have e := z_nb1 (x := 0) e
    rw [e] at h
    exact And.intro (Or.inr rfl) h
  · rw [show (0 : Int32) = nI 0 from rfl, nI_eq (by omega) (by omega)] at c
    rw [if_pos c] at h
    refine c_holds hG (by decide) (Or.inl rfl) hc hv.1.1 _ _ _ _ ?_
    exact And.intro (zb_01 _) h
theorem m_isIn {G : zG} (hG : zGok G) {k' : Nat} (hk : 3 ≤ k') {I : Nat → Nat → Int32} {J : Nat → Nat → Int64} {past : Nat → Nat} {Q : zRt} {π : zPl} (hm : mPl I 306 0 π) (hv : vPl π) {n : Nat} (hn : n ≤ 3) (ht : mTb I J (sTb π) (14 * n)) {x y d : Nat} (h0 : 1 ≤ d) (hd : d ≤ 12) (hx : x ≤ 6 * d) (hy : y ≤ 6 * d) {N X Y D : Int32} (eN : N = nI n) (eX : X = nI x) (eY : Y = nI y) (eD : D = nI d) (h : Q (some (.int (zb (sIn π n x y d)))) (zK0, I, J, zR0 past)) : zCalls G k' yX12_isIn [.ref 305, .int N, .int X, .int Y, .int D] (zK0, I, J, zR0 past) Q := by
  subst eN
  subst eX
  subst eY
  subst eD
  unfold sIn at h
  by_cases n0 : n = 0
  · subst n0
    rw [if_pos rfl] at h
    exact m_isIn0 hG hk hm hv.1.1 _ _ _ h
  · rw [if_neg n0] at h
    have en : nI n - 1 = nI (n - 1) := by rw [show (1 : Int32) = nI 1 from rfl, pk_sub (by omega)]
    have hT := mTb_reg ht (r := n - 1) (by omega)
    have hW := sTb_big hv.1 (r := n - 1) (by omega)
    refine rnX12_isIn hG hk 305 _ _ _ _ ?_
    refine sgX12_isIn hG [38, 40] 60 0 ?_
    have no : Q (some (.int (zb false))) (zK0, I, J, zR0 past) → aX12_isIn G Q 38 [some (.ref 305), some (.int (nI n)), some (.int (nI x)), some (.int (nI y)), some (.int (nI d)), none] [] (zK0, I, J, zR0 past) := by
      intro q
      refine sgX12_isIn hG [] 60 38 ?_
      exact And.intro (Or.inl rfl) q
    refine And.intro (fun c => absurd c (nI_nle (by omega) (by omega))) (fun _ => ?_)
    refine m_comesBy hG (by decide) (r := n - 1) (w := 0) (by omega) (by decide) hT hW h0 hd hx hy en rfl rfl rfl rfl ?_
    refine And.intro (fun e => ?_) (fun e => ?_)
    · have e := (zb_eq0 _).mp e
      rw [e] at h
      exact no h
    have e := z_nb1 (x := 0) e
    rw [e] at h
    refine m_comesBy hG (by decide) (r := n - 1) (w := 1) (by omega) (by decide) hT hW h0 hd hx hy en rfl rfl rfl rfl ?_
    refine And.intro (fun e => ?_) (fun e => ?_)
    · have e := (zb_eq0 _).mp e
      rw [e] at h
      exact no h
    have e := z_nb1 (x := 0) e
    rw [e] at h
    exact And.intro (Or.inr rfl) h
-- ===== ranges =====
def bUp (n v : Int32) : Bool := decide (0 ≤ v) && decide (v ≤ n)
theorem bUp_in {n : Nat} (hn : n < 1000) {v : Int32} (h : bUp (nI n) v = true) : ∃ k, k ≤ n ∧ v = nI k := by
  unfold bUp at h
  rw [Bool.and_eq_true, decide_eq_true_eq, decide_eq_true_eq] at h
  rcases pk_ix v (n := n + 1) (by omega) with q | q | ⟨j, hj, e⟩
  · exact absurd h.1 (Int32.not_le.mpr q)
  · exfalso
    have h2 := h.2
    rw [Int32.le_iff_toInt_le, nI_toInt (by omega)] at q h2
    omega
  · exact ⟨j, by omega, e⟩
theorem bUp_lo {n v : Int32} (h : v < 0) : bUp n v = false := by unfold bUp; rw [decide_eq_false (Int32.not_le.mpr h)]; rfl
theorem bUp_hi {n v : Int32} (h : ¬ v ≤ n) : bUp n v = false := by unfold bUp; rw [decide_eq_false h, Bool.and_false]
theorem bUp_ok {n v : Int32} (h1 : ¬ v < 0) (h2 : v ≤ n) : bUp n v = true := by unfold bUp; rw [decide_eq_true (Int32.not_lt.mp h1), decide_eq_true h2]; rfl
theorem i_ge3 {v : Int32} : 3 ≤ v ↔ ¬ v ≤ 2 := by rw [Int32.le_iff_toInt_le, Int32.le_iff_toInt_le, show (3 : Int32).toInt = 3 by decide, show (2 : Int32).toInt = 2 by decide]; omega
theorem m_inU {G : zG} (hG : zGok G) {k' : Nat} (hk : 1 ≤ k') {σ : zSt} {Q : zRt} (v b : Int32) (h : Q (some (.int (zb (bUp b v)))) σ) : zCalls G k' yX12_in [.int v, .int 0, .int b] σ Q := by
  refine m_in hG hk v 0 b ?_
  rw [z_ifb]
  exact h
theorem c_isWay {G : zG} (hG : zGok G) {k' : Nat} (hk : 1 ≤ k') {σ : zSt} {Q : zRt} (w : Int32) (h : Q (some (.int (zb (bUp 1 w)))) σ) : zCalls G k' yX11_isWay [.int w] σ Q := by
  have e0 : bUp 1 0 = true := by decide
  have e1 : bUp 1 1 = true := by decide
  refine rnX11_isWay hG hk w ?_
  refine sgX11_isWay hG [] 60 0 ?_
  refine And.intro (fun c => ?_) (fun c => ?_)
  · subst c
    rw [e0] at h
    exact And.intro (Or.inr rfl) h
  · refine And.intro (fun d => ?_) (fun d => ?_)
    · have e : bUp 1 w = false := by
        cases z : bUp 1 w with
        | false => rfl
        | true =>
          obtain ⟨k, hk, e⟩ := bUp_in (n := 1) (by decide) z
          rcases (show k = 0 ∨ k = 1 by omega) with rfl | rfl
          · exact absurd e c
          · exact absurd e d
      rw [e] at h
      exact And.intro (Or.inl rfl) h
    · have d : w = 1 := d
      subst d
      rw [e1] at h
      exact And.intro (Or.inr rfl) h
theorem m_tellFr {G : zG} (hG : zGok G) {k' : Nat} (hk : 3 ≤ k') {I : Nat → Nat → Int32} {J : Nat → Nat → Int64} {past : Nat → Nat} {Q : zRt} {L : List Int64} (hL : mNm I J L) (h40 : L.length + 1 < 40) {a b : Int} {A B : Int64} (eA : A = Int64.ofInt a) (eB : B = Int64.ofInt b) (ha : a.natAbs < 2 ^ 62) (hb : b.natAbs < 2 ^ 62) (h0 : b ≠ 0) (h : ∀ I' J', (∀ x, x ≠ 305 → I' x = I x) → (∀ j, j ≠ 4 → I' 305 j = I 305 j) → (∀ x, x ≠ 305 → x ≠ 308 → J' x = J x) → (∀ j, j ≠ 6 → j ≠ 7 → J' 305 j = J 305 j) → mNm I' J' (L ++ [Int64.ofInt (fRed a b).1, Int64.ofInt (fRed a b).2]) → Q none (zK0, I', J', zR0 past)) : zCalls G k' yX12_tellFraction [.ref 305, .long A, .long B] (zK0, I, J, zR0 past) Q := by
  subst eA
  subst eB
  have ta := lI_T (a := a) (by omega)
  have tb := lI_T (a := b) (by omega)
  have e := zred_I ha hb h0
  refine m_tellFraction hG hk hL h40 _ _ (by omega) (by omega) (fun q => by rw [q, Int64.toInt_zero] at tb; omega) (fun I1 J1 a b c d n => ?_)
  rw [e] at n
  exact h I1 J1 a b c d n
def fPr (f : zFr) : List Int64 := [Int64.ofInt f.1, Int64.ofInt f.2]
theorem cRg_same {I I1 : Nat → Nat → Int32} {J J1 : Nat → Nat → Int64} {past : Nat → Nat} {S : zS} (hS : cSt I J past S) (hv : vS S) (h : cRg I J I1 J1) : cSt I1 J1 past S := cSt_same hS hv (cRg_Q h) (h 128 (by omega)).1 (h 129 (by omega)).2
theorem mLy_same {I I1 : Nat → Nat → Int32} {J J1 : Nat → Nat → Int64} {S : zS} (hS : mSt I J S) (h : mLy I J I1 J1) : mSt I1 J1 S := mSt_same hS (mLy_Q h) (h.2.1 4 (by decide)) (h.2.2.1 308 (by decide) (by decide) (by decide))
-- ===== slice =====
def sSlc (π : zPl) (r w k : Int32) : Int32 × Option (List Int64) := if bUp 2 r && (bUp 1 w && bUp 6 k) then (if (sTb π r.toNatClampNeg w.toNatClampNeg k.toNatClampNeg).1 then (1, some (fPr (sTb π r.toNatClampNeg w.toNatClampNeg k.toNatClampNeg).2.1 ++ fPr (sTb π r.toNatClampNeg w.toNatClampNeg k.toNatClampNeg).2.2)) else (0, none)) else (-1, none)
theorem c_slice {G : zG} (hG : zGok G) {k' : Nat} (hk : 8 ≤ k') {I : Nat → Nat → Int32} {J : Nat → Nat → Int64} {past : Nat → Nat} {Q : zRt} {S : zS} (hS : cSt I J past S) (hv : vS S) (r w k : Int32) (h : ∀ I' J', cSt I' J' past (sOut S ( sSlc S.1 r w k)) → cFr I J I' J' → Q (some (.int ( sSlc S.1 r w k).1)) (zK0, I', J', zR0 past)) : zCalls G k' yX11_slice [.ref 0, .int r, .int w, .int k] (zK0, I, J, zR0 past) Q := by
  refine rnX11_slice hG hk 0 r w k ?_
  have no : (bUp 2 r && (bUp 1 w && bUp 6 k)) = false → aX11_slice G Q 26 [some (.ref 0), some (.int r), some (.int w), some (.int k), none] [] (zK0, I, J, zR0 past) := by
    intro e
    unfold sSlc at h
    rw [e] at h
    refine sgX11_slice hG [] 60 26 ?_
    exact h I J hS (fun _ _ => ⟨rfl, rfl⟩)
  refine sgX11_slice hG [26, 28] 60 0 ?_
  refine And.intro (fun c => no (by rw [bUp_lo c]; rfl)) (fun c1 => ?_)
  refine And.intro (fun c => no (by rw [bUp_hi (i_ge3.mp c)]; rfl)) (fun c2 => ?_)
  have b1 : bUp 2 r = true := bUp_ok c1 (by rw [i_ge3] at c2; exact Classical.not_not.mp c2)
  refine c_isWay hG (by decide) w ?_
  refine And.intro (fun c => no (by rw [(zb_eq0 _).mp c, Bool.false_and, Bool.and_false])) (fun c => ?_)
  have b2 := z_nb1 (x := 0) c
  refine And.intro (fun c => no (by rw [bUp_lo c, Bool.and_false, Bool.and_false])) (fun c3 => ?_)
  refine And.intro (fun c4 => ?_) (fun c => no (by rw [bUp_hi c, Bool.and_false, Bool.and_false]))
  have b3 : bUp 6 k = true := bUp_ok c3 c4
  obtain ⟨rn, hr, rfl⟩ := bUp_in (n := 2) (by decide) b1
  obtain ⟨wn, hw, rfl⟩ := bUp_in (n := 1) (by decide) b2
  obtain ⟨kn, hk, rfl⟩ := bUp_in (n := 6) (by decide) b3
  unfold sSlc at h
  rw [b1, b2, b3, nI_clamp (by omega), nI_clamp (by omega), nI_clamp (by omega)] at h
  refine sgX11_slice hG [62] 60 28 ?_
  refine c_workOut hG (by decide) hS.1 hv.1 (l := rn) (by rw [nI_I]) (by omega) (by omega) (fun I1 J1 f1 t1 => ?_)
  refine c_at hG (by decide) rn wn kn (by omega) (by omega) (by omega) rfl rfl rfl (fun p l u hf => ?_)
  have hf' := hf
  obtain ⟨⟨ep, el, eu⟩, p9, r1, r2, l6, u6⟩ := hf'
  have ta : cAcc I1 J1 p l u (sTb S.1 rn wn kn) := (cAcc_T hf).mpr (t1 rn wn kn (by omega) (by omega) (by omega))
  refine zB_in p9 ?_
  refine And.intro (fun c => ?_) (fun c => ?_)
  rotate_left
  · rw [ta.1] at c
    have c := z_nb1 (x := 0) c
    rw [Bool.not_eq_true'] at c
    rw [c] at h
    exact h I1 J1 (cRg_same hS hv f1) (cQ_fr (cRg_Q f1))
  rw [ta.1] at c
  have c := (zb_eq0 _).mp c
  have c1 : (sTb S.1 rn wn kn).1 = true := by rw [Bool.not_eq_false'] at c; exact c
  rw [c1] at h
  obtain ⟨ql, qu⟩ := ta.2 c1
  refine sgX11_slice hG [] 60 62 ?_
  refine c_clear hG (by decide) (fun I2 f2 n2 => ?_)
  refine zB_in p9 (op_in r1 ?_)
  refine c_tellRatio hG (by decide) n2 (by decide) l l6 (by omega) (fun I3 J3 f3 g3 n3 => ?_)
  refine zB_in p9 (op_in r2 ?_)
  refine c_tellRatio hG (by decide) n3 (Nat.le_of_ble_eq_true rfl) u u6 (by omega) (fun I4 J4 f4 g4 n4 => ?_)
  rw [g3 u (by omega), ql.1, ql.2, qu.1, qu.2] at n4
  have q4 : cQ I J I4 J4 := cQ_tr (cRg_Q f1) (fun x hx => ⟨by rw [f4 x (by omega), f3 x (by omega), f2 x (by omega)], by rw [g4 x (by omega), g3 x (by omega)]⟩)
  exact h I4 J4 (cSt_tel hS hv q4 n4) (cQ_fr q4)
theorem m_slice {G : zG} (hG : zGok G) {k' : Nat} (hk : 8 ≤ k') {I : Nat → Nat → Int32} {J : Nat → Nat → Int64} {past : Nat → Nat} {Q : zRt} {S : zS} (hS : mSt I J S) (hv : vS S) (r w k : Int32) (h : ∀ I' J', mSt I' J' (sOut S ( sSlc S.1 r w k)) → mFr I J I' J' → Q (some (.int ( sSlc S.1 r w k).1)) (zK0, I', J', zR0 past)) : zCalls G k' yX12_slice [.ref 305, .int r, .int w, .int k] (zK0, I, J, zR0 past) Q := by
  have hS0 := mSt_thr (v := 0) hS
  have hQ0 : mQ I J (z_upI I 305 5 0) J := mQ_u (by omega)
  refine rnX12_slice hG hk 305 r w k ?_
  have no : (bUp 2 r && (bUp 1 w && bUp 6 k)) = false → aX12_slice G Q 33 [some (.ref 305), some (.int r), some (.int w), some (.int k), none] [] (zK0, z_upI I 305 5 0, J, zR0 past) := by
    intro e
    unfold sSlc at h
    rw [e] at h
    refine sgX12_slice hG [] 60 33 ?_
    exact h _ J hS0 (mQ_fr hQ0)
  refine sgX12_slice hG [33, 35] 60 0 ?_
  refine m_inU hG (by decide) r 2 ?_
  refine And.intro (fun c => no (by rw [(zb_eq0 _).mp c]; rfl)) (fun c => ?_)
  have b1 := z_nb1 (x := 0) c
  refine m_inU hG (by decide) w 1 ?_
  refine And.intro (fun c => no (by rw [(zb_eq0 _).mp c, Bool.false_and, Bool.and_false])) (fun c => ?_)
  have b2 := z_nb1 (x := 0) c
  refine m_inU hG (by decide) k 6 ?_
  refine And.intro (fun c => ?_) (fun c => no (by rw [(zb_eq0 _).mp c, Bool.and_false, Bool.and_false]))
  have b3 := z_nb1 (x := 0) c
  obtain ⟨rn, hr, rfl⟩ := bUp_in (n := 2) (by decide) b1
  obtain ⟨wn, hw, rfl⟩ := bUp_in (n := 1) (by decide) b2
  obtain ⟨kn, hk, rfl⟩ := bUp_in (n := 6) (by decide) b3
  unfold sSlc at h
  rw [b1, b2, b3, nI_clamp (by omega), nI_clamp (by omega), nI_clamp (by omega)] at h
  have i0 : (2 : Int32) * nI (14 * rn + 7 * wn + kn) = nI (2 * (14 * rn + 7 * wn + kn)) := by rw [show (2 : Int32) = nI 2 from rfl, pk_mul]
  have i1 : (2 : Int32) * nI (14 * rn + 7 * wn + kn) + 1 = nI (2 * (14 * rn + 7 * wn + kn) + 1) := by rw [i0, nI_1]
  have v0 : vp_in ((2 : Int32) * nI (14 * rn + 7 * wn + kn)) 84 := by rw [i0]; exact vp_in_nI (by omega) (by omega)
  have v1 : vp_in ((2 : Int32) * nI (14 * rn + 7 * wn + kn) + 1) 84 := by rw [i1]; exact vp_in_nI (by omega) (by omega)
  have n1 : ((2 : Int32) * nI (14 * rn + 7 * wn + kn)).toNatClampNeg = 2 * (14 * rn + 7 * wn + kn) := by rw [i0, nI_clamp (by omega)]
  have n2 : ((2 : Int32) * nI (14 * rn + 7 * wn + kn) + 1).toNatClampNeg = 2 * (14 * rn + 7 * wn + kn) + 1 := by rw [i1, nI_clamp (by omega)]
  refine sgX12_slice hG [60] 60 35 ?_
  refine m_lay hG (by decide) hS0.1 hv.1 (r := rn) (by omega) rfl (fun I1 J1 f1 t1 => ?_)
  refine m_sliceAt hG (by decide) rn wn kn rfl rfl rfl ?_
  have ta := t1 rn wn kn (by omega) (by omega) (by omega)
  refine And.intro (by exact vp_in_nI (by omega) (by omega)) ?_
  refine And.intro (fun c => ?_) (fun c => ?_)
  rotate_left
  · have c : I1 312 (nI (14 * rn + 7 * wn + kn)).toNatClampNeg = 0 := c
    rw [nI_clamp (by omega), ta.1] at c
    have c := (zb_eq0 _).mp c
    rw [c] at h
    exact h I1 J1 (mLy_same hS0 f1) (mQ_fr (mQ_tr hQ0 (mLy_Q f1)))
  have c : ¬ I1 312 (nI (14 * rn + 7 * wn + kn)).toNatClampNeg = 0 := c
  rw [nI_clamp (by omega), ta.1] at c
  have c := z_nb1 (x := 0) c
  rw [c] at h
  obtain ⟨⟨l1, l2⟩, u1, u2⟩ := ta.2 c
  obtain ⟨⟨w1, w2⟩, _⟩ := sTb_big hv.1.1 (r := rn) (by omega) wn kn (by omega) (by omega) c
  obtain ⟨p1, a1, a2⟩ := fW_p w1
  obtain ⟨p2, a3, a4⟩ := fW_p w2
  refine sgX12_slice hG [] 60 60 ?_
  refine And.intro v0 ?_
  refine And.intro v1 ?_
  refine m_tellFr hG (by decide) mNm_0 (by decide) (a := (sTb S.1 rn wn kn).2.1.1) (b := (sTb S.1 rn wn kn).2.1.2) (by rw [n1]; exact l1) (by rw [n2]; exact l2) (by omega) (by omega) (by omega) (fun I2 J2 f2 g2 k2 l2 m2 => ?_)
  refine And.intro v0 ?_
  refine And.intro v1 ?_
  refine m_tellFr hG (by decide) m2 (Nat.le_of_ble_eq_true rfl) (a := (sTb S.1 rn wn kn).2.2.1) (b := (sTb S.1 rn wn kn).2.2.2) (by rw [n1, k2 314 (by decide) (by decide)]; exact u1) (by rw [n2, k2 314 (by decide) (by decide)]; exact u2) (by omega) (by omega) (by omega) (fun I3 J3 f3 g3 k3 l3 m3 => ?_)
  rw [fRed_id w1.1, fRed_id w2.1] at m3
  have q3 : mQ I J I3 J3 := mQ_tr (mQ_tr hQ0 (mLy_Q f1)) (mQ_tr (J1 := J1) (I1 := z_upI I1 305 4 0) (mQ_u (by omega)) ⟨fun x hx => ⟨by
    by_cases z : x = 305
    · omega
    · rw [f3 x z, f2 x z], by rw [k3 x (by omega) (by omega), k2 x (by omega) (by omega)]⟩, by rw [g3 _ (by decide), g2 _ (by decide)], by rw [g3 _ (by decide), g2 _ (by decide)]⟩)
  exact h I3 J3 (mSt_tel hS q3 m3) (mQ_fr q3)
-- ===== inside =====
def sIns (π : zPl) (r x y d : Int32) : Int32 × Option (List Int64) := if bUp 3 r && bPt x y d then (zb (sIn π r.toNatClampNeg x.toNatClampNeg y.toNatClampNeg d.toNatClampNeg), none) else (-1, none)
theorem c_inside {G : zG} (hG : zGok G) {k' : Nat} (hk : 8 ≤ k') {I : Nat → Nat → Int32} {J : Nat → Nat → Int64} {past : Nat → Nat} {Q : zRt} {S : zS} (hS : cSt I J past S) (hv : vS S) (r x y d : Int32) (h : ∀ I' J', cSt I' J' past (sOut S ( sIns S.1 r x y d)) → cFr I J I' J' → Q (some (.int ( sIns S.1 r x y d).1)) (zK0, I', J', zR0 past)) : zCalls G k' yX11_inside [.ref 0, .int r, .int x, .int y, .int d] (zK0, I, J, zR0 past) Q := by
  refine rnX11_inside hG hk 0 r x y d ?_
  have no : (bUp 3 r && bPt x y d) = false → aX11_inside G Q 19 [some (.ref 0), some (.int r), some (.int x), some (.int y), some (.int d)] [] (zK0, I, J, zR0 past) := by
    intro e
    unfold sIns at h
    rw [e] at h
    refine sgX11_inside hG [] 60 19 ?_
    exact h I J hS (fun _ _ => ⟨rfl, rfl⟩)
  refine sgX11_inside hG [19, 21] 60 0 ?_
  refine And.intro (fun c => no (by rw [bUp_lo c]; rfl)) (fun c1 => ?_)
  refine And.intro (fun c => no (by rw [bUp_hi (Int32.not_le.mpr c)]; rfl)) (fun c2 => ?_)
  have b1 : bUp 3 r = true := bUp_ok c1 (Int32.not_lt.mp c2)
  refine c_isPoint hG (by decide) x y d ?_
  refine And.intro (fun c => ?_) (fun c => no (by rw [(zb_eq0 _).mp c, Bool.and_false]))
  have b2 := z_nb1 (x := 0) c
  obtain ⟨rn, hr, rfl⟩ := bUp_in (n := 3) (by decide) b1
  obtain ⟨xn, yn, dn, rfl, rfl, rfl, d1, d2, hx, hy⟩ := bPt_in b2
  unfold sIns at h
  rw [b1, b2, nI_clamp (by omega), nI_clamp (by omega), nI_clamp (by omega), nI_clamp (by omega)] at h
  refine sgX11_inside hG [] 60 21 ?_
  refine c_workOut hG (by decide) hS.1 hv.1 (l := (rn : Int) - 1) (by rw [nI_I, Int32.ofInt_sub]; rfl) (by omega) (by omega) (fun I1 J1 f1 t1 => ?_)
  have hc1 := cQ_pl (cRg_Q f1) hv.1.2.1 hS.1
  refine c_contain hG (by decide) hc1 hv.1 (n := rn) (by omega) (cTb_le t1 (by omega)) d1 d2 hx hy rfl rfl rfl rfl ?_
  refine And.intro (fun c => ?_) (fun c => ?_)
  · rw [(zb_eq0 _).mp c] at h
    exact h I1 J1 (cRg_same hS hv f1) (cQ_fr (cRg_Q f1))
  · rw [z_nb1 (x := 0) c] at h
    exact h I1 J1 (cRg_same hS hv f1) (cQ_fr (cRg_Q f1))
theorem m_inside {G : zG} (hG : zGok G) {k' : Nat} (hk : 8 ≤ k') {I : Nat → Nat → Int32} {J : Nat → Nat → Int64} {past : Nat → Nat} {Q : zRt} {S : zS} (hS : mSt I J S) (hv : vS S) (r x y d : Int32) (h : ∀ I' J', mSt I' J' (sOut S ( sIns S.1 r x y d)) → mFr I J I' J' → Q (some (.int ( sIns S.1 r x y d).1)) (zK0, I', J', zR0 past)) : zCalls G k' yX12_inside [.ref 305, .int r, .int x, .int y, .int d] (zK0, I, J, zR0 past) Q := by
  have hS0 := mSt_thr (v := 0) hS
  have hQ0 : mQ I J (z_upI I 305 5 0) J := mQ_u (by omega)
  refine rnX12_inside hG hk 305 r x y d ?_
  have no : (bUp 3 r && bPt x y d) = false → aX12_inside G Q 24 [some (.ref 305), some (.int r), some (.int x), some (.int y), some (.int d)] [] (zK0, z_upI I 305 5 0, J, zR0 past) := by
    intro e
    unfold sIns at h
    rw [e] at h
    refine sgX12_inside hG [] 60 24 ?_
    exact h _ J hS0 (mQ_fr hQ0)
  refine sgX12_inside hG [24, 26] 60 0 ?_
  refine m_inU hG (by decide) r 3 ?_
  refine And.intro (fun c => no (by rw [(zb_eq0 _).mp c]; rfl)) (fun c => ?_)
  have b1 := z_nb1 (x := 0) c
  refine m_isPoint hG (by decide) x y d ?_
  refine And.intro (fun c => ?_) (fun c => no (by rw [(zb_eq0 _).mp c, Bool.and_false]))
  have b2 := z_nb1 (x := 0) c
  obtain ⟨rn, hr, rfl⟩ := bUp_in (n := 3) (by decide) b1
  obtain ⟨xn, yn, dn, rfl, rfl, rfl, d1, d2, hx, hy⟩ := bPt_in b2
  unfold sIns at h
  rw [b1, b2, nI_clamp (by omega), nI_clamp (by omega), nI_clamp (by omega), nI_clamp (by omega)] at h
  refine sgX12_inside hG [] 60 26 ?_
  refine m_lay hG (by decide) hS0.1 hv.1 (r := 2) (by omega) rfl (fun I1 J1 f1 t1 => ?_)
  refine m_isIn hG (by decide) (mLy_pl f1 hS0.1) hv.1 (n := rn) (by omega) (fun r w k a b c => t1 r w k a b (by omega)) d1 d2 hx hy rfl rfl rfl rfl ?_
  refine And.intro (fun c => ?_) (fun c => ?_)
  · rw [(zb_eq0 _).mp c] at h
    exact h I1 J1 (mLy_same hS0 f1) (mQ_fr (mQ_tr hQ0 (mLy_Q f1)))
  · rw [z_nb1 (x := 0) c] at h
    exact h I1 J1 (mLy_same hS0 f1) (mQ_fr (mQ_tr hQ0 (mLy_Q f1)))
-- ===== round =====
def rdF (f : Nat → Bool) : Nat → Nat → Int32
  | _, 0 => -2
  | k, r + 1 => if f k then rdF f (k + 1) r else nI k
def sRnd (π : zPl) (x y d : Int32) : Int32 × Option (List Int64) := if bPt x y d then (rdF (fun n => sIn π n x.toNatClampNeg y.toNatClampNeg d.toNatClampNeg) 0 4, none) else (-1, none)
theorem c_round {G : zG} (hG : zGok G) {k' : Nat} (hk : 8 ≤ k') {I : Nat → Nat → Int32} {J : Nat → Nat → Int64} {past : Nat → Nat} {Q : zRt} {S : zS} (hS : cSt I J past S) (hv : vS S) (x y d : Int32) (h : ∀ I' J', cSt I' J' past (sOut S ( sRnd S.1 x y d)) → cFr I J I' J' → Q (some (.int ( sRnd S.1 x y d).1)) (zK0, I', J', zR0 past)) : zCalls G k' yX11_round [.ref 0, .int x, .int y, .int d] (zK0, I, J, zR0 past) Q := by
  refine rnX11_round hG hk 0 x y d ?_
  refine sgX11_round hG [11, 26] 60 0 ?_
  refine c_isPoint hG (by decide) x y d ?_
  refine And.intro (fun c => ?_) (fun c => ?_)
  rotate_left
  · unfold sRnd at h
    rw [(zb_eq0 _).mp c] at h
    exact h I J hS (fun _ _ => ⟨rfl, rfl⟩)
  have b2 := z_nb1 (x := 0) c
  obtain ⟨xn, yn, dn, rfl, rfl, rfl, d1, d2, hx, hy⟩ := bPt_in b2
  unfold sRnd at h
  rw [b2, nI_clamp (by omega), nI_clamp (by omega), nI_clamp (by omega)] at h
  refine sgX11_round hG [26] 60 11 ?_
  refine c_workOut hG (by decide) hS.1 hv.1 (l := 2) rfl (by omega) (by omega) (fun I1 J1 f1 t1 => ?_)
  have hc1 := cQ_pl (cRg_Q f1) hv.1.2.1 hS.1
  have h := h I1 J1 (cRg_same hS hv f1) (cQ_fr (cRg_Q f1))
  have loop : ∀ (q n : Nat) (v : Int32), v = nI n → n + q = 4 → Q (some (.int (rdF (fun n => sIn S.1 n xn yn dn) n q))) (zK0, I1, J1, zR0 past) → aX11_round G Q 26 [some (.ref 0), some (.int (nI xn)), some (.int (nI yn)), some (.int (nI dn)), some (.int v)] [] (zK0, I1, J1, zR0 past) := by
    intro q
    induction q with
    | zero =>
      intro n v ev hn h
      subst ev
      refine sgX11_round hG [26] 60 26 ?_
      refine And.intro (fun _ => h) (fun c => absurd (by rw [show (3 : Int32) = nI 3 from rfl, nI_ltI (by omega) (by omega)]; omega) c)
    | succ q ih =>
      intro n v ev hn h
      subst ev
      have h : Q (some (.int (if sIn S.1 n xn yn dn then rdF (fun n => sIn S.1 n xn yn dn) (n + 1) q else nI n))) (zK0, I1, J1, zR0 past) := h
      refine sgX11_round hG [26] 60 26 ?_
      refine And.intro (fun c => absurd c (by rw [show (3 : Int32) = nI 3 from rfl, nI_ltI (by omega) (by omega)]; omega)) (fun _ => ?_)
      refine c_contain hG (by decide) hc1 hv.1 (n := n) (by omega) (cTb_le t1 (by show 14 * n ≤ 14 * (2 + 1); omega)) d1 d2 hx hy rfl rfl rfl rfl ?_
      refine And.intro (fun c => ?_) (fun c => ?_)
      · rw [z_nb1 (x := 0) c] at h
        exact ih (n + 1) _ (by rw [nI_1]) (by omega) h
      · rw [(zb_eq0 _).mp c] at h
        exact h
  exact loop 4 0 0 rfl (by omega) h
theorem m_round {G : zG} (hG : zGok G) {k' : Nat} (hk : 8 ≤ k') {I : Nat → Nat → Int32} {J : Nat → Nat → Int64} {past : Nat → Nat} {Q : zRt} {S : zS} (hS : mSt I J S) (hv : vS S) (x y d : Int32) (h : ∀ I' J', mSt I' J' (sOut S ( sRnd S.1 x y d)) → mFr I J I' J' → Q (some (.int ( sRnd S.1 x y d).1)) (zK0, I', J', zR0 past)) : zCalls G k' yX12_round [.ref 305, .int x, .int y, .int d] (zK0, I, J, zR0 past) Q := by
  have hS0 := mSt_thr (v := 0) hS
  have hQ0 : mQ I J (z_upI I 305 5 0) J := mQ_u (by omega)
  refine rnX12_round hG hk 305 x y d ?_
  refine sgX12_round hG [16, 24] 60 0 ?_
  refine m_isPoint hG (by decide) x y d ?_
  refine And.intro (fun c => ?_) (fun c => ?_)
  rotate_left
  · unfold sRnd at h
    rw [(zb_eq0 _).mp c] at h
    exact h _ J hS0 (mQ_fr hQ0)
  have b2 := z_nb1 (x := 0) c
  obtain ⟨xn, yn, dn, rfl, rfl, rfl, d1, d2, hx, hy⟩ := bPt_in b2
  unfold sRnd at h
  rw [b2, nI_clamp (by omega), nI_clamp (by omega), nI_clamp (by omega)] at h
  refine sgX12_round hG [24] 60 16 ?_
  refine m_lay hG (by decide) hS0.1 hv.1 (r := 2) (by omega) rfl (fun I1 J1 f1 t1 => ?_)
  have hm1 := mLy_pl f1 hS0.1
  have h := h I1 J1 (mLy_same hS0 f1) (mQ_fr (mQ_tr hQ0 (mLy_Q f1)))
  have loop : ∀ (q n : Nat) (v : Int32), v = nI n → n + q = 4 → Q (some (.int (rdF (fun n => sIn S.1 n xn yn dn) n q))) (zK0, I1, J1, zR0 past) → aX12_round G Q 24 [some (.ref 305), some (.int (nI xn)), some (.int (nI yn)), some (.int (nI dn)), some (.int v)] [] (zK0, I1, J1, zR0 past) := by
    intro q
    induction q with
    | zero =>
      intro n v ev hn h
      subst ev
      refine sgX12_round hG [24] 60 24 ?_
      refine And.intro (fun _ => h) (fun c => absurd (by rw [show (3 : Int32) = nI 3 from rfl, nI_ltI (by omega) (by omega)]; omega) c)
    | succ q ih =>
      intro n v ev hn h
      subst ev
      have h : Q (some (.int (if sIn S.1 n xn yn dn then rdF (fun n => sIn S.1 n xn yn dn) (n + 1) q else nI n))) (zK0, I1, J1, zR0 past) := h
      refine sgX12_round hG [24] 60 24 ?_
      refine And.intro (fun c => absurd c (by rw [show (3 : Int32) = nI 3 from rfl, nI_ltI (by omega) (by omega)]; omega)) (fun _ => ?_)
      refine m_isIn hG (by decide) hm1 hv.1 (n := n) (by omega) (fun r w k a b c => t1 r w k a b (by omega)) d1 d2 hx hy rfl rfl rfl rfl ?_
      refine And.intro (fun c => ?_) (fun c => ?_)
      · rw [z_nb1 (x := 0) c] at h
        exact ih (n + 1) _ (by rw [nI_1]) (by omega) h
      · rw [(zb_eq0 _).mp c] at h
        exact h
  exact loop 4 0 0 rfl (by omega) h
