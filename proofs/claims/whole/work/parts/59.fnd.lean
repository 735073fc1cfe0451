-- ===== the class: find(), findCut(), cut() =====
theorem ctQ_a {π : zPl} {w sd k : Nat} {f g : zFr} : ctQ π w sd k f g (zPerm 0) = (if w = 0 then ctS f g k sd else ctO f g k sd) ∧ ctQ π w sd k f g (zPerm 1) = (if w = 0 then ctO f g k sd else ctS f g k sd) ∧ ctQ π w sd k f g (zPerm 2) = ctB f g k sd ∧ ctQ π w sd k f g (zPerm 3) = ((bnI π w sd k f : Nat) : Int) ∧ ctQ π w sd k f g (zPerm 4) = ((bnI π w sd (k + 1) g : Nat) : Int) ∧ ctQ π w sd k f g (zPerm 13) = ((w : Nat) : Int) ∧ ctQ π w sd k f g (zPerm 14) = ((k : Nat) : Int) := by
  unfold ctQ
  generalize bnI π w sd k f = i
  generalize bnI π w sd (k + 1) g = j
  exact ⟨rfl, rfl, rfl, rfl, rfl, rfl, rfl⟩
theorem ctQ_b {π : zPl} {w sd k : Nat} {f g : zFr} : (ctQ π w sd k f g (zPerm 5) = (ctU π w (bnI π w sd k f) (ctO f g k sd)).1 ∧ ctQ π w sd k f g (zPerm 6) = (ctU π w (bnI π w sd k f) (ctO f g k sd)).2) ∧ (ctQ π w sd k f g (zPerm 7) = (ctT π w (bnI π w sd k f) 0 (ctO f g k sd) (ctS f g k sd)).1 ∧ ctQ π w sd k f g (zPerm 8) = (ctT π w (bnI π w sd k f) 0 (ctO f g k sd) (ctS f g k sd)).2) ∧ (ctQ π w sd k f g (zPerm 9) = (ctU π w (bnI π w sd (k + 1) g) (ctO f g k sd)).1 ∧ ctQ π w sd k f g (zPerm 10) = (ctU π w (bnI π w sd (k + 1) g) (ctO f g k sd)).2) ∧ (ctQ π w sd k f g (zPerm 11) = (ctT π w (bnI π w sd (k + 1) g) 1 (ctO f g k sd) (ctS f g k sd)).1 ∧ ctQ π w sd k f g (zPerm 12) = (ctT π w (bnI π w sd (k + 1) g) 1 (ctO f g k sd) (ctS f g k sd)).2) := by
  unfold ctQ
  generalize bnI π w sd k f = i
  generalize bnI π w sd (k + 1) g = j
  generalize ctU π w i (ctO f g k sd) = u1
  generalize ctU π w j (ctO f g k sd) = u2
  generalize ctT π w i 0 (ctO f g k sd) (ctS f g k sd) = u3
  generalize ctT π w j 1 (ctO f g k sd) (ctS f g k sd) = u4
  exact ⟨⟨rfl, rfl⟩, ⟨rfl, rfl⟩, ⟨rfl, rfl⟩, ⟨rfl, rfl⟩⟩
theorem c_find80 {G : zG} (hG : zGok G) {I : Nat → Nat → Int32} {J : Nat → Nat → Int64} {past : Nat → Nat} {Q : zRt} {π : zPl} (hc : cPl I J 1 π) (hv : vPl π) {w sd k : Nat} (hw : w < 2) (hsd : sd < 2) (hk6 : k < 6) {f g : zFr} (wf : fW 5 f) (wg : fW 5 g) (i1 : bnI π w sd k f < π.1 + 4) (i2 : (pR π (bnI π w sd k f) (1 - w)).toInt ≠ 0) (j1 : bnI π w sd (k + 1) g < π.1 + 4) (j2 : (pR π (bnI π w sd (k + 1) g) (1 - w)).toInt ≠ 0) (p p2 a b : Nat) (ha : 135 ≤ a ∧ a < 261) (hb : 135 ≤ b ∧ b < 261) (a6 : Nat.beq (zKd zK0 a).1 6 = true) (b6 : Nat.beq (zKd zK0 b).1 6 = true) (qa : cFx J a f) (qb : cFx J b g) (h1' : ∀ J', (∀ x, x ≠ 262 → x ≠ 263 → J' x = J x) → (∀ j, j < 15 → J' 262 j = Int64.ofInt (ctQ π w sd k f g (zPerm j))) → Q (some (.int 1)) (zK0, I, J', zR0 past)) : aX0_find G Q 80 [some (.ref 261), some (.ref 1), some (.ref 130), some (.int (nI w)), some (.int (nI sd)), some (.int (nI k)), some (.ref p), some (.ref p2), some (.ref a), some (.ref b)] [] (zK0, I, J, zR0 past) := by
  obtain ⟨_, _, o1, o2, o3⟩ := ct_bd wf wg (k := k) (by omega) sd
  obtain ⟨x0, x1, x2, x3', x4', x13, x14⟩ := @ctQ_a π w sd k f g
  obtain ⟨⟨x5, x6⟩, ⟨x7, x8⟩, ⟨x9, x10⟩, ⟨x11, x12⟩⟩ := @ctQ_b π w sd k f g
  have hJ1 : ∀ x, x ≠ 262 → z_upJ (z_upJ J 262 13 (nI w).toInt64) 262 14 (nI k).toInt64 x = J x := fun x hx => by rw [z_upJ_ne hx, z_upJ_ne hx]
  refine sgX0_find hG [] 60 80 ?_
  refine And.intro (by unfold vp_in; decide) ?_
  refine And.intro (by unfold vp_in; decide) ?_
  refine c_putLine hG (by decide) a b a6 b6 (f := f) (g := g) (cFx_fr qa (hJ1 a (by omega))) (cFx_fr qb (hJ1 b (by omega))) (by omega) (by omega) wf wg (w := w) (sd := sd) (k := k) hw hsd hk6 (by show z_upJ (z_upJ J 262 13 (nI w).toInt64) 262 14 (nI k).toInt64 262 13 = _; rw [uJ_k (by decide), uJ_s, nI_L (by omega)]) (by show z_upJ (z_upJ J 262 13 (nI w).toInt64) 262 14 (nI k).toInt64 262 14 = _; rw [uJ_s, nI_L (by omega)]) rfl (fun J2 f2 g2 y0 y1 y2 => ?_)
  have f2' : ∀ x, x ≠ 262 → J2 x = J x := fun x hx => (f2 x hx).trans (hJ1 x hx)
  have y13 : J2 262 13 = Int64.ofInt w := by
    rw [g2 13 (by decide)]
    show z_upJ (z_upJ J 262 13 (nI w).toInt64) 262 14 (nI k).toInt64 262 13 = _
    rw [uJ_k (by decide), uJ_s, nI_L (by omega)]
  have y14 : J2 262 14 = Int64.ofInt k := by
    rw [g2 14 (by decide)]
    show z_upJ (z_upJ J 262 13 (nI w).toInt64) 262 14 (nI k).toInt64 262 14 = _
    rw [uJ_s, nI_L (by omega)]
  have hc2 : cPl I J2 1 π := cPl_rg hc hv.2.1 (fun x a b => ⟨rfl, f2' x (by omega)⟩)
  refine c_putProof hG (by decide) hc2 hv a a6 (f := f) (cFx_fr qa (f2' a (by omega))) wf (w := w) (sd := sd) (k := k) (hf := 0) hw hsd hk6 (by decide) y13 y14 y0 y1 o1 o2 rfl rfl i1 i2 (fun J3 f3 g3 x3 u3 s3 => ?_)
  have f3' : ∀ x, x ≠ 262 → x ≠ 263 → J3 x = J x := fun x hx hy => (f3 x hx hy).trans (f2' x hx)
  have hc3 : cPl I J3 1 π := cPl_rg hc hv.2.1 (fun x a b => ⟨rfl, f3' x (by omega) (by omega)⟩)
  refine c_putProof hG (by decide) hc3 hv b b6 (f := g) (cFx_fr qb (f3' b (by omega) (by omega))) wg (w := w) (sd := sd) (k := k) (hf := 1) hw hsd hk6 (by decide) (by rw [g3 13 (by decide) (by omega)]; exact y13) (by rw [g3 14 (by decide) (by omega)]; exact y14) (by rw [g3 0 (by decide) (by omega)]; exact y0) (by rw [g3 1 (by decide) (by omega)]; exact y1) o1 o2 rfl rfl j1 j2 (fun J4 f4 g4 x4 u4 s4 => ?_)
  refine And.intro (Or.inr rfl) (h1' J4 (fun x hx hy => (f4 x hx hy).trans (f3' x hx hy)) (fun j hj => ?_))
  rcases (show j = 0 ∨ j = 1 ∨ j = 2 ∨ j = 3 ∨ j = 4 ∨ j = 5 ∨ j = 6 ∨ j = 7 ∨ j = 8 ∨ j = 9 ∨ j = 10 ∨ j = 11 ∨ j = 12 ∨ j = 13 ∨ j = 14 by omega) with rfl | rfl | rfl | rfl | rfl | rfl | rfl | rfl | rfl | rfl | rfl | rfl | rfl | rfl | rfl
  · rw [x0]; rw [g4 0 (by decide) (by omega), g3 0 (by decide) (by omega)]; exact y0
  · rw [x1]; rw [g4 1 (by decide) (by omega), g3 1 (by decide) (by omega)]; exact y1
  · rw [x2]; rw [g4 2 (by decide) (by omega), g3 2 (by decide) (by omega)]; exact y2
  · rw [x3']; rw [g4 3 (by decide) (by omega)]; exact x3
  · rw [x4']; exact x4
  · rw [x5]; rw [g4 5 (by decide) (by omega)]; exact u3.1
  · rw [x6]; rw [g4 6 (by decide) (by omega)]; exact u3.2
  · rw [x7]; rw [g4 7 (by decide) (by omega)]; exact s3.1
  · rw [x8]; rw [g4 8 (by decide) (by omega)]; exact s3.2
  · rw [x9]; exact u4.1
  · rw [x10]; exact u4.2
  · rw [x11]; exact s4.1
  · rw [x12]; exact s4.2
  · rw [x13]; rw [g4 13 (by decide) (by omega), g3 13 (by decide) (by omega)]; exact y13
  · rw [x14]; rw [g4 14 (by decide) (by omega), g3 14 (by decide) (by omega)]; exact y14
theorem ctE_0 (st : zSl) : ctE 0 st = st.2.2 := rfl
theorem ctE_1 (st : zSl) : ctE 1 st = st.2.1 := rfl
theorem c_find {G : zG} (hG : zGok G) {k' : Nat} (hk : 6 ≤ k') {I : Nat → Nat → Int32} {J : Nat → Nat → Int64} {past : Nat → Nat} {Q : zRt} {π : zPl} (hc : cPl I J 1 π) (hv : vPl π) {w sd k : Nat} (hw : w < 2) (hsd : sd < 2) (hk6 : k < 6) (t1 : cSlT I J (14 * 0 + 7 * w + k) (sT0 π w k)) (t2 : cSlT I J (14 * 0 + 7 * w + (k + 1)) (sT0 π w (k + 1))) {W SD K : Int32} (eW : W = nI w) (eS : SD = nI sd) (eK : K = nI k) (h0 : ((sT0 π w k).1 && (sT0 π w (k + 1)).1) = false → Q (some (.int 0)) (zK0, I, J, zR0 past)) (h1 : ((sT0 π w k).1 && (sT0 π w (k + 1)).1) = true → ∀ J', (∀ x, x ≠ 262 → x ≠ 263 → J' x = J x) → (∀ j, j < 15 → J' 262 j = (sCt π w sd k (zPerm j)).toInt64) → Q (some (.int 1)) (zK0, I, J', zR0 past)) : zCalls G k' yX0_find [.ref 261, .ref 1, .ref 130, .int W, .int SD, .int K] (zK0, I, J, zR0 past) Q := by
  subst eW
  subst eS
  subst eK
  refine rnX0_find hG hk 261 1 130 _ _ _ ?_
  refine sgX0_find hG [38, 40] 60 0 ?_
  refine c_at hG (by decide) 0 w k (by decide) hw (by omega) rfl rfl rfl (fun p l u hf => ?_)
  refine c_at hG (by decide) 0 w (k + 1) (by decide) hw (by omega) rfl rfl (by rw [nI_1]) (fun p2 l2 u2 hf2 => ?_)
  have s1 := (cAcc_T hf).mpr t1
  have s2 := (cAcc_T hf2).mpr t2
  obtain ⟨⟨ep, el, eu⟩, p9, r1, r2, l6, u6⟩ := hf
  obtain ⟨⟨ep2, el2, eu2⟩, p92, r12, r22, l62, u62⟩ := hf2
  have no : ((sT0 π w k).1 && (sT0 π w (k + 1)).1) = false → aX0_find G Q 38 [some (.ref 261), some (.ref 1), some (.ref 130), some (.int (nI w)), some (.int (nI sd)), some (.int (nI k)), some (.ref p), some (.ref p2), none, none] [] (zK0, I, J, zR0 past) := by
    intro e
    refine sgX0_find hG [] 60 38 ?_
    exact And.intro (Or.inl rfl) (h0 e)
  refine zB_in p9 ?_
  refine And.intro (fun c => ?_) (fun c => ?_)
  · rw [s1.1] at c
    have c := z_nb1 (x := 0) c
    rw [Bool.not_eq_true'] at c
    exact no (by rw [c]; rfl)
  rw [s1.1] at c
  have c := (zb_eq0 _).mp c
  have c1 : (sT0 π w k).1 = true := by rw [Bool.not_eq_false'] at c; exact c
  refine zB_in p92 ?_
  refine And.intro (fun c => ?_) (fun c => ?_)
  rotate_left
  · rw [s2.1] at c
    have c := z_nb1 (x := 0) c
    rw [Bool.not_eq_true'] at c
    exact no (by rw [c, Bool.and_false])
  rw [s2.1] at c
  have c := (zb_eq0 _).mp c
  have c2 : (sT0 π w (k + 1)).1 = true := by rw [Bool.not_eq_false'] at c; exact c
  have h1 := h1 (by rw [c1, c2]; rfl)
  have wf := ctE_W (sd := sd) (sT0_W hv.1 hw (k := k) (by omega)) c1
  have wg := ctE_W (sd := sd) (sT0_W hv.1 hw (k := k + 1) (by omega)) c2
  have ca := ct_all hv.1 hw hsd hk6 c1 c2
  obtain ⟨i1, i2⟩ := bnI_f π (w := w) (sd := sd) (k := k) hw hsd
  obtain ⟨j1, j2⟩ := bnI_f π (w := w) (sd := sd) (k := k + 1) hw hsd
  have z80 : ∀ a b : Nat, (135 ≤ a ∧ a < 261) → (135 ≤ b ∧ b < 261) → Nat.beq (zKd zK0 a).1 6 = true → Nat.beq (zKd zK0 b).1 6 = true → cFx J a (ctE sd (sT0 π w k)) → cFx J b (ctE sd (sT0 π w (k + 1))) → aX0_find G Q 80 [some (.ref 261), some (.ref 1), some (.ref 130), some (.int (nI w)), some (.int (nI sd)), some (.int (nI k)), some (.ref p), some (.ref p2), some (.ref a), some (.ref b)] [] (zK0, I, J, zR0 past) := by
    intro a b ha hb a6 b6 qa qb
    refine c_find80 hG hc hv hw hsd hk6 wf wg i1 i2 j1 j2 p p2 a b ha hb a6 b6 qa qb (fun J' f q => ?_)
    refine h1 J' f (fun j hj => ?_)
    have := ca (zPerm j)
    unfold sCt
    rw [iI_l (by omega)]
    exact q j hj
  obtain ⟨q1, q2⟩ := s1.2 c1
  obtain ⟨q3, q4⟩ := s2.2 c2
  rcases (show sd = 0 ∨ sd = 1 by omega) with rfl | rfl
  · refine sgX0_find hG [60, 80] 60 40 ?_
    refine And.intro (fun c => absurd rfl c) (fun _ => ?_)
    refine zB_in p9 (op_in r2 ?_)
    refine sgX0_find hG [80] 60 60 ?_
    refine And.intro (fun c => absurd rfl c) (fun _ => ?_)
    refine zB_in p92 (op_in r22 ?_)
    exact z80 u u2 (by omega) (by omega) u6 u62 (by rw [ctE_0]; exact q2) (by rw [ctE_0]; exact q4)
  · refine sgX0_find hG [60, 80] 60 40 ?_
    refine And.intro (fun _ => ?_) (fun c => absurd c (by decide))
    refine zB_in p9 (op_in r1 ?_)
    refine sgX0_find hG [80] 60 60 ?_
    refine And.intro (fun _ => ?_) (fun c => absurd c (by decide))
    refine zB_in p92 (op_in r12 ?_)
    exact z80 l l2 (by omega) (by omega) l6 l62 (by rw [ctE_1]; exact q1) (by rw [ctE_1]; exact q3)
/-- why there is no cut -/
def rfC (π : zPl) (w sd k : Int32) : Int32 := if bUp 1 w && (bUp 1 sd && bUp 5 k) then (if (sT0 π w.toNatClampNeg k.toNatClampNeg).1 && (sT0 π w.toNatClampNeg (k.toNatClampNeg + 1)).1 then 1 else -2) else -1
theorem rfC_3 (π : zPl) (w sd k : Int32) : rfC π w sd k = 1 ∨ rfC π w sd k = -1 ∨ rfC π w sd k = -2 := by
  unfold rfC
  split
  · split
    · exact Or.inl rfl
    · exact Or.inr (Or.inr rfl)
  · exact Or.inr (Or.inl rfl)
theorem rfC_1 {π : zPl} {w sd k : Int32} (h : rfC π w sd k = 1) : ∃ wn sn kn : Nat, (w = nI wn ∧ sd = nI sn ∧ k = nI kn) ∧ (wn < 2 ∧ sn < 2 ∧ kn < 6) ∧ (sT0 π wn kn).1 = true ∧ (sT0 π wn (kn + 1)).1 = true := by
  unfold rfC at h
  split at h
  · rename_i t
    rw [Bool.and_eq_true, Bool.and_eq_true] at t
    obtain ⟨wn, a1, rfl⟩ := bUp_in (n := 1) (by decide) t.1
    obtain ⟨sn, a2, rfl⟩ := bUp_in (n := 1) (by decide) t.2.1
    obtain ⟨kn, a3, rfl⟩ := bUp_in (n := 5) (by decide) t.2.2
    rw [nI_clamp (by omega), nI_clamp (by omega)] at h
    split at h
    · rename_i c
      rw [Bool.and_eq_true] at c
      exact ⟨wn, sn, kn, ⟨rfl, rfl, rfl⟩, ⟨by omega, by omega, by omega⟩, c.1, c.2⟩
    · exact absurd h (by decide)
  · exact absurd h (by decide)
def sCv (π : zPl) (w sd k : Int32) : Nat → Int32 := sCt π w.toNatClampNeg sd.toNatClampNeg k.toNatClampNeg
def cFd (I : Nat → Nat → Int32) (J : Nat → Nat → Int64) (I' : Nat → Nat → Int32) (J' : Nat → Nat → Int64) : Prop := ∀ x, x < 132 ∨ x = 261 ∨ 264 ≤ x → I' x = I x ∧ J' x = J x
theorem cFd_Q {I I1 : Nat → Nat → Int32} {J J1 : Nat → Nat → Int64} (h : cFd I J I1 J1) : cQ I J I1 J1 := fun x hx => h x (by omega)
theorem cFd_same {I I1 : Nat → Nat → Int32} {J J1 : Nat → Nat → Int64} {past : Nat → Nat} {S : zS} (hS : cSt I J past S) (hv : vS S) (h : cFd I J I1 J1) : cSt I1 J1 past S := cSt_same hS hv (cFd_Q h) (h 128 (by omega)).1 (h 129 (by omega)).2
theorem c_findCut {G : zG} (hG : zGok G) {k' : Nat} (hk : 7 ≤ k') {I : Nat → Nat → Int32} {J : Nat → Nat → Int64} {past : Nat → Nat} {Q : zRt} {π : zPl} (hc : cPl I J 1 π) (hv : vPl π) (w sd k : Int32) (h : ∀ I' J', cFd I J I' J' → (rfC π w sd k = 1 → ∀ j, j < 15 → J' 262 j = (sCv π w sd k (zPerm j)).toInt64) → Q (some (.int (rfC π w sd k))) (zK0, I', J', zR0 past)) : zCalls G k' yX11_findCut [.ref 0, .int w, .int sd, .int k] (zK0, I, J, zR0 past) Q := by
  have no : (bUp 1 w && (bUp 1 sd && bUp 5 k)) = false → aX11_findCut G Q 25 [some (.ref 0), some (.int w), some (.int sd), some (.int k)] [] (zK0, I, J, zR0 past) := by
    intro e
    have e2 : rfC π w sd k = -1 := by unfold rfC; rw [e]; rfl
    rw [e2] at h
    refine sgX11_findCut hG [] 60 25 ?_
    exact h I J (fun _ _ => ⟨rfl, rfl⟩) (fun c => absurd c (by decide))
  refine rnX11_findCut hG hk 0 w sd k ?_
  refine sgX11_findCut hG [16, 25, 27] 60 0 ?_
  refine c_isWay hG (by decide) w ?_
  refine And.intro (fun c => no (by rw [(zb_eq0 _).mp c]; rfl)) (fun c => ?_)
  have b1 := z_nb1 (x := 0) c
  have z16 : bUp 1 sd = true → aX11_findCut G Q 16 [some (.ref 0), some (.int w), some (.int sd), some (.int k)] [] (zK0, I, J, zR0 past) := by
    intro b2
    refine sgX11_findCut hG [25, 27] 60 16 ?_
    refine And.intro (fun c => no (by rw [bUp_lo c, Bool.and_false, Bool.and_false])) (fun c3 => ?_)
    refine And.intro (fun c4 => ?_) (fun c => no (by rw [bUp_hi c, Bool.and_false, Bool.and_false]))
    have b3 : bUp 5 k = true := bUp_ok c3 c4
    obtain ⟨wn, a1, rfl⟩ := bUp_in (n := 1) (by decide) b1
    obtain ⟨sn, a2, rfl⟩ := bUp_in (n := 1) (by decide) b2
    obtain ⟨kn, a3, rfl⟩ := bUp_in (n := 5) (by decide) b3
    unfold rfC sCv at h
    rw [b1, b2, b3, nI_clamp (by omega), nI_clamp (by omega), nI_clamp (by omega)] at h
    refine sgX11_findCut hG [] 60 27 ?_
    refine c_workOutFirst hG (by decide) hc hv (sTb π) (fun _ _ => rfl) (fun I1 J1 f1 t1 => ?_)
    have hc1 := cQ_pl (cRg_Q f1) hv.2.1 hc
    refine c_find hG (by decide) hc1 hv (w := wn) (sd := sn) (k := kn) (by omega) (by omega) (by omega) (t1 0 wn kn (by omega) (by omega) (by omega)) (t1 0 wn (kn + 1) (by omega) (by omega) (by omega)) rfl rfl rfl (fun e => ?_) (fun e J2 f2 q2 => ?_)
    · rw [e] at h
      refine And.intro (fun _ => ?_) (fun c => absurd rfl c)
      exact h I1 J1 (fun x hx => f1 x (by omega)) (fun c => absurd c (by decide))
    · rw [e] at h
      refine And.intro (fun c => absurd c (by decide)) (fun _ => ?_)
      exact h I1 J2 (fun x hx => ⟨(f1 x (by omega)).1, (f2 x (by omega) (by omega)).trans (f1 x (by omega)).2⟩) (fun _ => q2)
  refine And.intro (fun c => ?_) (fun c => ?_)
  · subst c
    exact z16 (by decide)
  · refine And.intro (fun d => no ?_) (fun d => ?_)
    · have e : bUp 1 sd = false := by
        cases z : bUp 1 sd with
        | false => rfl
        | true =>
          obtain ⟨n, hn, e⟩ := bUp_in (n := 1) (by decide) z
          rcases (show n = 0 ∨ n = 1 by omega) with rfl | rfl
          · exact absurd e c
          · exact absurd e d
      rw [e, Bool.false_and, Bool.and_false]
    · have d : sd = 1 := d
      subst d
      exact z16 (by decide)
def tlL (g : Nat → Int64) (n : Nat) : List Int64 := (List.range n).map g
theorem tlL_s (g : Nat → Int64) (n : Nat) : tlL g (n + 1) = tlL g n ++ [g n] := by unfold tlL; rw [List.range_succ, List.map_append]; rfl
theorem tlL_len (g : Nat → Int64) (n : Nat) : (tlL g n).length = n := by unfold tlL; rw [List.length_map, List.length_range]
def sCut (π : zPl) (w sd k : Int32) : Int32 × Option (List Int64) := (rfC π w sd k, if rfC π w sd k = 1 then some (tlL (fun j => (sCv π w sd k (zPerm j)).toInt64) 13) else none)
theorem c_cut {G : zG} (hG : zGok G) {k' : Nat} (hk : 8 ≤ k') {I : Nat → Nat → Int32} {J : Nat → Nat → Int64} {past : Nat → Nat} {Q : zRt} {S : zS} (hS : cSt I J past S) (hv : vS S) (w sd k : Int32) (h : ∀ I' J', cSt I' J' past (sOut S ( sCut S.1 w sd k)) → cFr I J I' J' → Q (some (.int ( sCut S.1 w sd k).1)) (zK0, I', J', zR0 past)) : zCalls G k' yX11_cut [.ref 0, .int w, .int sd, .int k] (zK0, I, J, zR0 past) Q := by
  refine rnX11_cut hG hk 0 w sd k ?_
  refine sgX11_cut hG [24, 54] 60 0 ?_
  refine c_findCut hG (by decide) hS.1 hv.1 w sd k (fun I1 J1 f1 q1 => ?_)
  have z54 : ∀ (o5 : Option Value) I2 J2, cSt I2 J2 past (sOut S (sCut S.1 w sd k)) → cFr I J I2 J2 → aX11_cut G Q 54 [some (.ref 0), some (.int w), some (.int sd), some (.int k), some (.int (rfC S.1 w sd k)), o5] [] (zK0, I2, J2, zR0 past) := by
    intro o5 I2 J2 a b
    refine sgX11_cut hG [] 60 54 ?_
    exact h I2 J2 a b
  by_cases r1 : rfC S.1 w sd k = 1
  · have es : sCut S.1 w sd k = (1, some (tlL (fun j => (sCv S.1 w sd k (zPerm j)).toInt64) 13)) := by unfold sCut; rw [if_pos r1, r1]
    have q1 := q1 r1
    refine And.intro (fun c => absurd c (by rw [r1]; decide)) (fun _ => ?_)
    refine c_clear hG (by decide) (fun I2 f2 n2 => ?_)
    have loop : ∀ (q j : Nat) (v : Int32) (I' : Nat → Nat → Int32) (J' : Nat → Nat → Int64), v = nI j → j + q = 13 → (∀ x, x ≠ 128 → I' x = I1 x) → (∀ x, x ≠ 129 → J' x = J1 x) → cNm I' J' (tlL (fun j => (sCv S.1 w sd k (zPerm j)).toInt64) j) → aX11_cut G Q 24 [some (.ref 0), some (.int w), some (.int sd), some (.int k), some (.int (rfC S.1 w sd k)), some (.int v)] [] (zK0, I', J', zR0 past) := by
      intro q
      induction q with
      | zero =>
        intro j v I' J' ev hj fi fj nn
        subst ev
        have e : j = 13 := by omega
        subst e
        refine sgX11_cut hG [24, 54] 60 24 ?_
        refine And.intro (fun _ => ?_) (fun c => absurd (by decide) c)
        have qq : cQ I J I' J' := cQ_tr (cFd_Q f1) (fun x hx => ⟨fi x (by omega), fj x (by omega)⟩)
        refine z54 _ I' J' ?_ (cQ_fr qq)
        rw [es]
        exact cSt_tel hS hv qq nn
      | succ q ih =>
        intro j v I' J' ev hj fi fj nn
        subst ev
        refine sgX11_cut hG [24, 54] 60 24 ?_
        refine And.intro (fun c => absurd c (by rw [show (13 : Int32) = nI 13 from rfl, nI_leI (by omega) (by omega)]; omega)) (fun _ => ?_)
        refine And.intro (by exact vp_in_nI (by omega) (by omega)) ?_
        refine c_tell hG (by decide) nn (by rw [tlL_len]; omega) _ (fun I3 J3 f3 g3 n3 => ?_)
        have ev : J' 262 (nI j).toNatClampNeg = (sCv S.1 w sd k (zPerm j)).toInt64 := by rw [nI_clamp (by omega), fj 262 (by decide)]; exact q1 j (by omega)
        rw [ev, ← tlL_s (fun j => (sCv S.1 w sd k (zPerm j)).toInt64) j] at n3
        exact ih (j + 1) _ I3 J3 (by rw [nI_1]) (by omega) (fun x hx => (f3 x hx).trans (fi x hx)) (fun x hx => (g3 x hx).trans (fj x hx)) n3
    exact loop 13 0 0 I2 J1 rfl (by omega) f2 (fun _ _ => rfl) n2
  · have es : sCut S.1 w sd k = (rfC S.1 w sd k, none) := by unfold sCut; rw [if_neg r1]
    refine And.intro (fun _ => ?_) (fun c => ?_)
    · refine z54 _ I1 J1 ?_ (cQ_fr (cFd_Q f1))
      rw [es]
      exact cFd_same hS hv f1
    · exfalso
      apply c
      rcases rfC_3 S.1 w sd k with e | e | e
      · exact absurd e r1
      · rw [e]; decide
      · rw [e]; decide
