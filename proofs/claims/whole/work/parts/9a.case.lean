-- ===== the law's cases =====
/-- what is owed where a case ends -/
def zTl (G : zG) (b cs sl : Nat) (v : Int32) : Prop := ∀ (I : Nat → Nat → Int32) (J : Nat → Nat → Int64) (past : Nat → Nat) (S : zS), cSt I J past S → mSt I J S → vS S → zAt G room_1 RL code 8 ret (zFw G b) cs sl 1358 [some (.ref 1000002), some (.ref 0), some (.ref 305), some (.ref 320), some (.int v), none, none, none] [] (zK0, I, J, zR0 past)
def zVi (G : zG) (v : Int32) : Prop := vp_in v (zgN G) ∧ vp_in (v + 1) (zgN G) ∧ vp_in (v + 2) (zgN G) ∧ vp_in (v + 3) (zgN G) ∧ vp_in (v + 4) (zgN G)
theorem w_sign {G : zG} (hsk : zSok G) (hG : zGok G) {b cs sl : Nat} (hc : cs ≤ 601024) (hs : sl ≤ 7293034) {v : Int32} (h : zVi G v) {I : Nat → Nat → Int32} {J : Nat → Nat → Int64} {past : Nat → Nat} {S : zS} (hS : cSt I J past S) (hM : mSt I J S) (hv : vS S) (K : zTl G b cs sl v) : zAt G room_1 RL code 8 ret (zFw G b) cs sl 184 [some (.ref 1000002), some (.ref 0), some (.ref 305), some (.ref 320), some (.int v), none, none, none] [] (zK0, I, J, zR0 past) := by
  refine zStep (pkL_law hG hc hs (fun _ _ => False)) [1358] 90 184 ?_
  refine And.intro h.2.1 ?_
  refine c_sign hG (by decide) hS hv _ (fun I' hS' fr => ?_)
  refine And.intro h.2.1 ?_
  refine m_sign hG (by decide) (mSt_cFr fr hM) hv _ (fun I2 hM2 fr2 => ?_)
  refine And.intro (fun _ => ?_) (fun c => absurd rfl c)
  exact K _ _ _ _ (cSt_mFr fr2 (vS_sgn _ hv) hS') hM2 (vS_sgn _ hv)
theorem w_end {G : zG} (hsk : zSok G) (hG : zGok G) {b cs sl : Nat} (hc : cs ≤ 601024) (hs : sl ≤ 7293034) {v : Int32} (h : zVi G v) {I : Nat → Nat → Int32} {J : Nat → Nat → Int64} {past : Nat → Nat} {S : zS} (hS : cSt I J past S) (hM : mSt I J S) (hv : vS S) (K : zTl G b cs sl v) : zAt G room_1 RL code 8 ret (zFw G b) cs sl 209 [some (.ref 1000002), some (.ref 0), some (.ref 305), some (.ref 320), some (.int v), none, none, none] [] (zK0, I, J, zR0 past) := by
  refine zStep (pkL_law hG hc hs (fun _ _ => False)) [1358] 90 209 ?_
  refine And.intro h.2.1 ?_
  refine c_endS hG (by decide) hS hv _ (fun I' hS' fr => ?_)
  refine And.intro h.2.1 ?_
  refine m_endS hG (by decide) (mSt_cFr fr hM) hv _ (fun I2 hM2 fr2 => ?_)
  refine And.intro (fun _ => ?_) (fun c => absurd rfl c)
  exact K _ _ _ _ (cSt_mFr fr2 (vS_end _ hv) hS') hM2 (vS_end _ hv)
theorem w_rows {G : zG} (hsk : zSok G) (hG : zGok G) {b cs sl : Nat} (hc : cs ≤ 601024) (hs : sl ≤ 7293034) {v : Int32} (h : zVi G v) {I : Nat → Nat → Int32} {J : Nat → Nat → Int64} {past : Nat → Nat} {S : zS} (hS : cSt I J past S) (hM : mSt I J S) (hv : vS S) (K : zTl G b cs sl v) : zAt G room_1 RL code 8 ret (zFw G b) cs sl 234 [some (.ref 1000002), some (.ref 0), some (.ref 305), some (.ref 320), some (.int v), none, none, none] [] (zK0, I, J, zR0 past) := by
  refine zStep (pkL_law hG hc hs (fun _ _ => False)) [1358] 90 234 ?_
  refine c_rows hsk hG (by decide) hS hv (fun I' J' past' hS' fr => ?_)
  refine m_rows hG (by decide) (mSt_cFr fr hM) hv (fun I2 J2 hM2 fr2 => ?_)
  refine And.intro (fun _ => ?_) (fun c => absurd rfl c)
  exact K _ _ _ _ (cSt_mFr fr2 (vS_rws hv) hS') hM2 (vS_rws hv)
theorem w_sheet {G : zG} (hsk : zSok G) (hG : zGok G) {b cs sl : Nat} (hc : cs ≤ 601024) (hs : sl ≤ 7293034) {v : Int32} (h : zVi G v) {I : Nat → Nat → Int32} {J : Nat → Nat → Int64} {past : Nat → Nat} {S : zS} (hS : cSt I J past S) (hM : mSt I J S) (hv : vS S) (K : zTl G b cs sl v) : zAt G room_1 RL code 8 ret (zFw G b) cs sl 315 [some (.ref 1000002), some (.ref 0), some (.ref 305), some (.ref 320), some (.int v), none, none, none] [] (zK0, I, J, zR0 past) := by
  refine zStep (pkL_law hG hc hs (fun _ _ => False)) [1358] 90 315 ?_
  refine And.intro h.2.1 ?_
  refine And.intro h.2.2.1 ?_
  refine And.intro h.2.2.2.1 ?_
  refine And.intro h.2.2.2.2 ?_
  refine c_sheet hG (by decide) hS hv _ _ _ _ (fun I' hS' fr => ?_)
  refine And.intro h.2.1 ?_
  refine And.intro h.2.2.1 ?_
  refine And.intro h.2.2.2.1 ?_
  refine And.intro h.2.2.2.2 ?_
  refine m_sheet hG (by decide) (mSt_cFr fr hM) hv _ _ _ _ (fun I2 hM2 fr2 => ?_)
  refine And.intro (fun _ => ?_) (fun c => absurd rfl c)
  exact K _ _ _ _ (cSt_mFr fr2 (vS_she _ _ _ _ hv) hS') hM2 (vS_she _ _ _ _ hv)
theorem w_becomes {G : zG} (hsk : zSok G) (hG : zGok G) {b cs sl : Nat} (hc : cs ≤ 601024) (hs : sl ≤ 7293034) {v : Int32} (h : zVi G v) {I : Nat → Nat → Int32} {J : Nat → Nat → Int64} {past : Nat → Nat} {S : zS} (hS : cSt I J past S) (hM : mSt I J S) (hv : vS S) (K : zTl G b cs sl v) : zAt G room_1 RL code 8 ret (zFw G b) cs sl 376 [some (.ref 1000002), some (.ref 0), some (.ref 305), some (.ref 320), some (.int v), none, none, none] [] (zK0, I, J, zR0 past) := by
  refine zStep (pkL_law hG hc hs (fun _ _ => False)) [1358] 90 376 ?_
  refine And.intro h.2.1 ?_
  refine And.intro h.2.2.1 ?_
  refine c_becomes hG (by decide) hS hv _ _ (fun I' J' past' hS' fr => ?_)
  refine And.intro h.2.1 ?_
  refine And.intro h.2.2.1 ?_
  refine m_becomes hG (by decide) (mSt_cFr fr hM) hv _ _ (fun I2 hM2 fr2 => ?_)
  refine And.intro (fun _ => ?_) (fun c => absurd rfl c)
  exact K _ _ _ _ (cSt_mFr fr2 (vS_chg (sBec_v hv.1) hv) hS') hM2 (vS_chg (sBec_v hv.1) hv)
theorem w_adds {G : zG} (hsk : zSok G) (hG : zGok G) {b cs sl : Nat} (hc : cs ≤ 601024) (hs : sl ≤ 7293034) {v : Int32} (h : zVi G v) {I : Nat → Nat → Int32} {J : Nat → Nat → Int64} {past : Nat → Nat} {S : zS} (hS : cSt I J past S) (hM : mSt I J S) (hv : vS S) (K : zTl G b cs sl v) : zAt G room_1 RL code 8 ret (zFw G b) cs sl 413 [some (.ref 1000002), some (.ref 0), some (.ref 305), some (.ref 320), some (.int v), none, none, none] [] (zK0, I, J, zR0 past) := by
  refine zStep (pkL_law hG hc hs (fun _ _ => False)) [1358] 90 413 ?_
  refine And.intro h.2.1 ?_
  refine And.intro h.2.2.1 ?_
  refine And.intro h.2.2.2.1 ?_
  refine c_adds hG (by decide) hS hv _ _ _ (fun I' J' past' hS' fr => ?_)
  refine And.intro h.2.1 ?_
  refine And.intro h.2.2.1 ?_
  refine And.intro h.2.2.2.1 ?_
  refine m_adds hG (by decide) (mSt_cFr fr hM) hv _ _ _ (fun I2 hM2 fr2 => ?_)
  refine And.intro (fun _ => ?_) (fun c => absurd rfl c)
  exact K _ _ _ _ (cSt_mFr fr2 (vS_chg (sAdd_v hv.1) hv) hS') hM2 (vS_chg (sAdd_v hv.1) hv)
theorem w_drops {G : zG} (hsk : zSok G) (hG : zGok G) {b cs sl : Nat} (hc : cs ≤ 601024) (hs : sl ≤ 7293034) {v : Int32} (h : zVi G v) {I : Nat → Nat → Int32} {J : Nat → Nat → Int64} {past : Nat → Nat} {S : zS} (hS : cSt I J past S) (hM : mSt I J S) (hv : vS S) (K : zTl G b cs sl v) : zAt G room_1 RL code 8 ret (zFw G b) cs sl 462 [some (.ref 1000002), some (.ref 0), some (.ref 305), some (.ref 320), some (.int v), none, none, none] [] (zK0, I, J, zR0 past) := by
  refine zStep (pkL_law hG hc hs (fun _ _ => False)) [1358] 90 462 ?_
  refine And.intro h.2.1 ?_
  refine c_drops hG (by decide) hS hv _ (fun I' J' past' hS' fr => ?_)
  refine And.intro h.2.1 ?_
  refine m_drops hG (by decide) (mSt_cFr fr hM) hv _ (fun I2 hM2 fr2 => ?_)
  refine And.intro (fun _ => ?_) (fun c => absurd rfl c)
  exact K _ _ _ _ (cSt_mFr fr2 (vS_chg (sDrp_v hv.1) hv) hS') hM2 (vS_chg (sDrp_v hv.1) hv)
theorem w_slice {G : zG} (hsk : zSok G) (hG : zGok G) {b cs sl : Nat} (hc : cs ≤ 601024) (hs : sl ≤ 7293034) {v : Int32} (h : zVi G v) {I : Nat → Nat → Int32} {J : Nat → Nat → Int64} {past : Nat → Nat} {S : zS} (hS : cSt I J past S) (hM : mSt I J S) (hv : vS S) (K : zTl G b cs sl v) : zAt G room_1 RL code 8 ret (zFw G b) cs sl 487 [some (.ref 1000002), some (.ref 0), some (.ref 305), some (.ref 320), some (.int v), none, none, none] [] (zK0, I, J, zR0 past) := by
  refine zStep (pkL_law hG hc hs (fun _ _ => False)) [1358] 90 487 ?_
  refine And.intro h.2.1 ?_
  refine And.intro h.2.2.1 ?_
  refine And.intro h.2.2.2.1 ?_
  refine c_slice hG (by decide) hS hv _ _ _ (fun I' J' hS' fr => ?_)
  refine And.intro h.2.1 ?_
  refine And.intro h.2.2.1 ?_
  refine And.intro h.2.2.2.1 ?_
  refine m_slice hG (by decide) (mSt_cFr fr hM) hv _ _ _ (fun I2 J2 hM2 fr2 => ?_)
  refine And.intro (fun _ => ?_) (fun c => absurd rfl c)
  exact K _ _ _ _ (cSt_mFr fr2 (vS_out (oL_slc _ _ _ _) hv) hS') hM2 (vS_out (oL_slc _ _ _ _) hv)
theorem w_inside {G : zG} (hsk : zSok G) (hG : zGok G) {b cs sl : Nat} (hc : cs ≤ 601024) (hs : sl ≤ 7293034) {v : Int32} (h : zVi G v) {I : Nat → Nat → Int32} {J : Nat → Nat → Int64} {past : Nat → Nat} {S : zS} (hS : cSt I J past S) (hM : mSt I J S) (hv : vS S) (K : zTl G b cs sl v) : zAt G room_1 RL code 8 ret (zFw G b) cs sl 536 [some (.ref 1000002), some (.ref 0), some (.ref 305), some (.ref 320), some (.int v), none, none, none] [] (zK0, I, J, zR0 past) := by
  refine zStep (pkL_law hG hc hs (fun _ _ => False)) [1358] 90 536 ?_
  refine And.intro h.2.1 ?_
  refine And.intro h.2.2.1 ?_
  refine And.intro h.2.2.2.1 ?_
  refine And.intro h.2.2.2.2 ?_
  refine c_inside hG (by decide) hS hv _ _ _ _ (fun I' J' hS' fr => ?_)
  refine And.intro h.2.1 ?_
  refine And.intro h.2.2.1 ?_
  refine And.intro h.2.2.2.1 ?_
  refine And.intro h.2.2.2.2 ?_
  refine m_inside hG (by decide) (mSt_cFr fr hM) hv _ _ _ _ (fun I2 J2 hM2 fr2 => ?_)
  refine And.intro (fun _ => ?_) (fun c => absurd rfl c)
  exact K _ _ _ _ (cSt_mFr fr2 (vS_out (oL_ins _ _ _ _ _) hv) hS') hM2 (vS_out (oL_ins _ _ _ _ _) hv)
theorem w_round {G : zG} (hsk : zSok G) (hG : zGok G) {b cs sl : Nat} (hc : cs ≤ 601024) (hs : sl ≤ 7293034) {v : Int32} (h : zVi G v) {I : Nat → Nat → Int32} {J : Nat → Nat → Int64} {past : Nat → Nat} {S : zS} (hS : cSt I J past S) (hM : mSt I J S) (hv : vS S) (K : zTl G b cs sl v) : zAt G room_1 RL code 8 ret (zFw G b) cs sl 597 [some (.ref 1000002), some (.ref 0), some (.ref 305), some (.ref 320), some (.int v), none, none, none] [] (zK0, I, J, zR0 past) := by
  refine zStep (pkL_law hG hc hs (fun _ _ => False)) [1358] 90 597 ?_
  refine And.intro h.2.1 ?_
  refine And.intro h.2.2.1 ?_
  refine And.intro h.2.2.2.1 ?_
  refine c_round hG (by decide) hS hv _ _ _ (fun I' J' hS' fr => ?_)
  refine And.intro h.2.1 ?_
  refine And.intro h.2.2.1 ?_
  refine And.intro h.2.2.2.1 ?_
  refine m_round hG (by decide) (mSt_cFr fr hM) hv _ _ _ (fun I2 J2 hM2 fr2 => ?_)
  refine And.intro (fun _ => ?_) (fun c => absurd rfl c)
  exact K _ _ _ _ (cSt_mFr fr2 (vS_out (oL_rnd _ _ _ _) hv) hS') hM2 (vS_out (oL_rnd _ _ _ _) hv)
theorem w_splits {G : zG} (hsk : zSok G) (hG : zGok G) {b cs sl : Nat} (hc : cs ≤ 601024) (hs : sl ≤ 7293034) {v : Int32} (h : zVi G v) {I : Nat → Nat → Int32} {J : Nat → Nat → Int64} {past : Nat → Nat} {S : zS} (hS : cSt I J past S) (hM : mSt I J S) (hv : vS S) (K : zTl G b cs sl v) : zAt G room_1 RL code 8 ret (zFw G b) cs sl 646 [some (.ref 1000002), some (.ref 0), some (.ref 305), some (.ref 320), some (.int v), none, none, none] [] (zK0, I, J, zR0 past) := by
  refine zStep (pkL_law hG hc hs (fun _ _ => False)) [1358] 90 646 ?_
  refine And.intro h.2.1 ?_
  refine And.intro h.2.2.1 ?_
  refine And.intro h.2.2.2.1 ?_
  refine And.intro h.2.2.2.2 ?_
  refine c_splits hG (by decide) hS hv _ _ _ _ (fun I' J' hS' fr => ?_)
  refine And.intro h.2.1 ?_
  refine And.intro h.2.2.1 ?_
  refine And.intro h.2.2.2.1 ?_
  refine And.intro h.2.2.2.2 ?_
  refine m_splits hG (by decide) (mSt_cFr fr hM) hv _ _ _ _ (fun I2 J2 hM2 fr2 => ?_)
  refine And.intro (fun _ => ?_) (fun c => absurd rfl c)
  exact K _ _ _ _ (cSt_mFr fr2 (vS_out (oL_spl _ _ _ _ _) hv) hS') hM2 (vS_out (oL_spl _ _ _ _ _) hv)
theorem w_slices {G : zG} (hsk : zSok G) (hG : zGok G) {b cs sl : Nat} (hc : cs ≤ 601024) (hs : sl ≤ 7293034) {v : Int32} (h : zVi G v) {I : Nat → Nat → Int32} {J : Nat → Nat → Int64} {past : Nat → Nat} {S : zS} (hS : cSt I J past S) (hM : mSt I J S) (hv : vS S) (K : zTl G b cs sl v) : zAt G room_1 RL code 8 ret (zFw G b) cs sl 707 [some (.ref 1000002), some (.ref 0), some (.ref 305), some (.ref 320), some (.int v), none, none, none] [] (zK0, I, J, zR0 past) := by
  refine zStep (pkL_law hG hc hs (fun _ _ => False)) [1358] 90 707 ?_
  refine And.intro h.2.1 ?_
  refine c_slices hG (by decide) hS hv _ (fun I' J' hS' fr => ?_)
  refine And.intro h.2.1 ?_
  refine m_slices hG (by decide) (mSt_cFr fr hM) hv _ (fun I2 J2 hM2 fr2 => ?_)
  refine And.intro (fun _ => ?_) (fun c => absurd rfl c)
  exact K _ _ _ _ (cSt_mFr fr2 (vS_out (oL_sls _ _) hv) hS') hM2 (vS_out (oL_sls _ _) hv)
theorem w_cut {G : zG} (hsk : zSok G) (hG : zGok G) {b cs sl : Nat} (hc : cs ≤ 601024) (hs : sl ≤ 7293034) {v : Int32} (h : zVi G v) {I : Nat → Nat → Int32} {J : Nat → Nat → Int64} {past : Nat → Nat} {S : zS} (hS : cSt I J past S) (hM : mSt I J S) (hv : vS S) (K : zTl G b cs sl v) : zAt G room_1 RL code 8 ret (zFw G b) cs sl 732 [some (.ref 1000002), some (.ref 0), some (.ref 305), some (.ref 320), some (.int v), none, none, none] [] (zK0, I, J, zR0 past) := by
  refine zStep (pkL_law hG hc hs (fun _ _ => False)) [1358] 90 732 ?_
  refine And.intro h.2.1 ?_
  refine And.intro h.2.2.1 ?_
  refine And.intro h.2.2.2.1 ?_
  refine c_cut hG (by decide) hS hv _ _ _ (fun I' J' hS' fr => ?_)
  refine And.intro h.2.1 ?_
  refine And.intro h.2.2.1 ?_
  refine And.intro h.2.2.2.1 ?_
  refine m_cut hG (by decide) (mSt_cFr fr hM) hv _ _ _ (fun I2 J2 hM2 fr2 => ?_)
  refine And.intro (fun _ => ?_) (fun c => absurd rfl c)
  exact K _ _ _ _ (cSt_mFr fr2 (vS_out (oL_cut _ _ _ _) hv) hS') hM2 (vS_out (oL_cut _ _ _ _) hv)
theorem w_stores {G : zG} (hsk : zSok G) (hG : zGok G) {b cs sl : Nat} (hc : cs ≤ 601024) (hs : sl ≤ 7293034) {v : Int32} (h : zVi G v) {I : Nat → Nat → Int32} {J : Nat → Nat → Int64} {past : Nat → Nat} {S : zS} (hS : cSt I J past S) (hM : mSt I J S) (hv : vS S) (K : zTl G b cs sl v) : zAt G room_1 RL code 8 ret (zFw G b) cs sl 781 [some (.ref 1000002), some (.ref 0), some (.ref 305), some (.ref 320), some (.int v), none, none, none] [] (zK0, I, J, zR0 past) := by
  refine zStep (pkL_law hG hc hs (fun _ _ => False)) [1358] 90 781 ?_
  refine And.intro h.2.1 ?_
  refine And.intro h.2.2.1 ?_
  refine And.intro h.2.2.2.1 ?_
  refine c_stores hG (by decide) hS hv _ _ _ (fun I' J' past' hS' fr => ?_)
  refine And.intro h.2.1 ?_
  refine And.intro h.2.2.1 ?_
  refine And.intro h.2.2.2.1 ?_
  refine m_stores hG (by decide) (mSt_cFr fr hM) hv _ _ _ (fun I2 J2 hM2 fr2 => ?_)
  refine And.intro (fun _ => ?_) (fun c => absurd rfl c)
  exact K _ _ _ _ (cSt_mFr fr2 (vS_chg (sSto_v hv.1 _ _ _) hv) hS') hM2 (vS_chg (sSto_v hv.1 _ _ _) hv)
theorem w_checks {G : zG} (hsk : zSok G) (hG : zGok G) {b cs sl : Nat} (hc : cs ≤ 601024) (hs : sl ≤ 7293034) {v : Int32} (h : zVi G v) {I : Nat → Nat → Int32} {J : Nat → Nat → Int64} {past : Nat → Nat} {S : zS} (hS : cSt I J past S) (hM : mSt I J S) (hv : vS S) (K : zTl G b cs sl v) : zAt G room_1 RL code 8 ret (zFw G b) cs sl 830 [some (.ref 1000002), some (.ref 0), some (.ref 305), some (.ref 320), some (.int v), none, none, none] [] (zK0, I, J, zR0 past) := by
  refine zStep (pkL_law hG hc hs (fun _ _ => False)) [1358] 90 830 ?_
  refine And.intro h.2.1 ?_
  refine c_checks hG (by decide) hS hv _ (fun I' J' hS' fr => ?_)
  refine And.intro h.2.1 ?_
  refine m_checks hG (by decide) (mSt_cFr fr hM) hv _ (fun I2 J2 hM2 fr2 => ?_)
  refine And.intro (fun _ => ?_) (fun c => absurd rfl c)
  exact K _ _ _ _ (cSt_mFr fr2 (vS_out (oL_chk _ _) hv) hS') hM2 (vS_out (oL_chk _ _) hv)
theorem w_stronger {G : zG} (hsk : zSok G) (hG : zGok G) {b cs sl : Nat} (hc : cs ≤ 601024) (hs : sl ≤ 7293034) {v : Int32} (h : zVi G v) {I : Nat → Nat → Int32} {J : Nat → Nat → Int64} {past : Nat → Nat} {S : zS} (hS : cSt I J past S) (hM : mSt I J S) (hv : vS S) (K : zTl G b cs sl v) : zAt G room_1 RL code 8 ret (zFw G b) cs sl 855 [some (.ref 1000002), some (.ref 0), some (.ref 305), some (.ref 320), some (.int v), none, none, none] [] (zK0, I, J, zR0 past) := by
  refine zStep (pkL_law hG hc hs (fun _ _ => False)) [1358] 90 855 ?_
  refine And.intro h.2.1 ?_
  refine c_stronger hG (by decide) hS hv _ (fun I' J' hS' fr => ?_)
  refine And.intro h.2.1 ?_
  refine m_stronger hG (by decide) (mSt_cFr fr hM) hv _ (fun I2 J2 hM2 fr2 => ?_)
  refine And.intro (fun _ => ?_) (fun c => absurd rfl c)
  exact K _ _ _ _ (cSt_mFr fr2 (vS_out (oL_str _ _) hv) hS') hM2 (vS_out (oL_str _ _) hv)
theorem w_clears {G : zG} (hsk : zSok G) (hG : zGok G) {b cs sl : Nat} (hc : cs ≤ 601024) (hs : sl ≤ 7293034) {v : Int32} (h : zVi G v) {I : Nat → Nat → Int32} {J : Nat → Nat → Int64} {past : Nat → Nat} {S : zS} (hS : cSt I J past S) (hM : mSt I J S) (hv : vS S) (K : zTl G b cs sl v) : zAt G room_1 RL code 8 ret (zFw G b) cs sl 880 [some (.ref 1000002), some (.ref 0), some (.ref 305), some (.ref 320), some (.int v), none, none, none] [] (zK0, I, J, zR0 past) := by
  refine zStep (pkL_law hG hc hs (fun _ _ => False)) [1358] 90 880 ?_
  refine c_clears hG (by decide) hS hv (fun I' J' past' hS' fr => ?_)
  refine m_clears hG (by decide) (mSt_cFr fr hM) hv (fun I2 hM2 fr2 => ?_)
  refine And.intro (fun _ => ?_) (fun c => absurd rfl c)
  exact K _ _ _ _ (cSt_mFr fr2 (vS_chg (sClr_v hv.1) hv) hS') hM2 (vS_chg (sClr_v hv.1) hv)
theorem w_breaks {G : zG} (hsk : zSok G) (hG : zGok G) {b cs sl : Nat} (hc : cs ≤ 601024) (hs : sl ≤ 7293034) {v : Int32} (h : zVi G v) {I : Nat → Nat → Int32} {J : Nat → Nat → Int64} {past : Nat → Nat} {S : zS} (hS : cSt I J past S) (hM : mSt I J S) (hv : vS S) (K : zTl G b cs sl v) : zAt G room_1 RL code 8 ret (zFw G b) cs sl 893 [some (.ref 1000002), some (.ref 0), some (.ref 305), some (.ref 320), some (.int v), none, none, none] [] (zK0, I, J, zR0 past) := by
  refine zStep (pkL_law hG hc hs (fun _ _ => False)) [1358] 90 893 ?_
  refine And.intro h.2.1 ?_
  refine And.intro h.2.2.1 ?_
  refine And.intro h.2.2.2.1 ?_
  refine c_breaks hG (by decide) hS hv _ _ _ (fun I' J' hS' fr => ?_)
  refine And.intro h.2.1 ?_
  refine And.intro h.2.2.1 ?_
  refine And.intro h.2.2.2.1 ?_
  refine m_breaks hG (by decide) (mSt_cFr fr hM) hv _ _ _ (fun I2 J2 hM2 fr2 => ?_)
  refine And.intro (fun _ => ?_) (fun c => absurd rfl c)
  exact K _ _ _ _ (cSt_mFr fr2 (vS_out (oL_brk _ _ _ _) hv) hS') hM2 (vS_out (oL_brk _ _ _ _) hv)
theorem w_wholes {G : zG} (hsk : zSok G) (hG : zGok G) {b cs sl : Nat} (hc : cs ≤ 601024) (hs : sl ≤ 7293034) {v : Int32} (h : zVi G v) {I : Nat → Nat → Int32} {J : Nat → Nat → Int64} {past : Nat → Nat} {S : zS} (hS : cSt I J past S) (hM : mSt I J S) (hv : vS S) (K : zTl G b cs sl v) : zAt G room_1 RL code 8 ret (zFw G b) cs sl 942 [some (.ref 1000002), some (.ref 0), some (.ref 305), some (.ref 320), some (.int v), none, none, none] [] (zK0, I, J, zR0 past) := by
  refine zStep (pkL_law hG hc hs (fun _ _ => False)) [1358] 90 942 ?_
  refine c_wholes hG (by decide) hS hv (fun I' J' hS' fr => ?_)
  refine m_wholes hG (by decide) (mSt_cFr fr hM) hv (fun I2 J2 hM2 fr2 => ?_)
  refine And.intro (fun _ => ?_) (fun c => absurd rfl c)
  exact K _ _ _ _ (cSt_mFr fr2 (vS_out (oL_who _) hv) hS') hM2 (vS_out (oL_who _) hv)
theorem w_hull {G : zG} (hsk : zSok G) (hG : zGok G) {b cs sl : Nat} (hc : cs ≤ 601024) (hs : sl ≤ 7293034) {v : Int32} (h : zVi G v) {I : Nat → Nat → Int32} {J : Nat → Nat → Int64} {past : Nat → Nat} {S : zS} (hS : cSt I J past S) (hM : mSt I J S) (hv : vS S) (K : zTl G b cs sl v) : zAt G room_1 RL code 8 ret (zFw G b) cs sl 955 [some (.ref 1000002), some (.ref 0), some (.ref 305), some (.ref 320), some (.int v), none, none, none] [] (zK0, I, J, zR0 past) := by
  refine zStep (pkL_law hG hc hs (fun _ _ => False)) [1358] 90 955 ?_
  refine c_hull hG (by decide) hS hv (fun I' J' hS' fr => ?_)
  refine m_hull hG (by decide) (mSt_cFr fr hM) hv (fun I2 J2 hM2 fr2 => ?_)
  refine And.intro (fun _ => ?_) (fun c => absurd rfl c)
  exact K _ _ _ _ (cSt_mFr fr2 (vS_out oL_hul hv) hS') hM2 (vS_out oL_hul hv)
theorem w_nearest {G : zG} (hsk : zSok G) (hG : zGok G) {b cs sl : Nat} (hc : cs ≤ 601024) (hs : sl ≤ 7293034) {v : Int32} (h : zVi G v) {I : Nat → Nat → Int32} {J : Nat → Nat → Int64} {past : Nat → Nat} {S : zS} (hS : cSt I J past S) (hM : mSt I J S) (hv : vS S) (K : zTl G b cs sl v) : zAt G room_1 RL code 8 ret (zFw G b) cs sl 968 [some (.ref 1000002), some (.ref 0), some (.ref 305), some (.ref 320), some (.int v), none, none, none] [] (zK0, I, J, zR0 past) := by
  refine zStep (pkL_law hG hc hs (fun _ _ => False)) [1358] 90 968 ?_
  refine And.intro h.2.1 ?_
  refine And.intro h.2.2.1 ?_
  refine And.intro h.2.2.2.1 ?_
  refine c_nearest hG (by decide) hS hv _ _ _ (fun I' J' hS' fr => ?_)
  refine And.intro h.2.1 ?_
  refine And.intro h.2.2.1 ?_
  refine And.intro h.2.2.2.1 ?_
  refine m_nearest hG (by decide) (mSt_cFr fr hM) hv _ _ _ (fun I2 J2 hM2 fr2 => ?_)
  refine And.intro (fun _ => ?_) (fun c => absurd rfl c)
  exact K _ _ _ _ (cSt_mFr fr2 (vS_out (oL_nea _ _ _ _) hv) hS') hM2 (vS_out (oL_nea _ _ _ _) hv)
theorem w_most {G : zG} (hsk : zSok G) (hG : zGok G) {b cs sl : Nat} (hc : cs ≤ 601024) (hs : sl ≤ 7293034) {v : Int32} (h : zVi G v) {I : Nat → Nat → Int32} {J : Nat → Nat → Int64} {past : Nat → Nat} {S : zS} (hS : cSt I J past S) (hM : mSt I J S) (hv : vS S) (K : zTl G b cs sl v) : zAt G room_1 RL code 8 ret (zFw G b) cs sl 1017 [some (.ref 1000002), some (.ref 0), some (.ref 305), some (.ref 320), some (.int v), none, none, none] [] (zK0, I, J, zR0 past) := by
  refine zStep (pkL_law hG hc hs (fun _ _ => False)) [1358] 90 1017 ?_
  refine And.intro h.2.1 ?_
  refine And.intro h.2.2.1 ?_
  refine And.intro h.2.2.2.1 ?_
  refine c_most hG (by decide) hS hv _ _ _ (fun I' J' hS' fr => ?_)
  refine And.intro h.2.1 ?_
  refine And.intro h.2.2.1 ?_
  refine And.intro h.2.2.2.1 ?_
  refine m_most hG (by decide) (mSt_cFr fr hM) hv _ _ _ (fun I2 J2 hM2 fr2 => ?_)
  refine And.intro (fun _ => ?_) (fun c => absurd rfl c)
  exact K _ _ _ _ (cSt_mFr fr2 (vS_out (oL_mos _ _ _ _) hv) hS') hM2 (vS_out (oL_mos _ _ _ _) hv)
theorem w_gains {G : zG} (hsk : zSok G) (hG : zGok G) {b cs sl : Nat} (hc : cs ≤ 601024) (hs : sl ≤ 7293034) {v : Int32} (h : zVi G v) {I : Nat → Nat → Int32} {J : Nat → Nat → Int64} {past : Nat → Nat} {S : zS} (hS : cSt I J past S) (hM : mSt I J S) (hv : vS S) (K : zTl G b cs sl v) : zAt G room_1 RL code 8 ret (zFw G b) cs sl 1066 [some (.ref 1000002), some (.ref 0), some (.ref 305), some (.ref 320), some (.int v), none, none, none] [] (zK0, I, J, zR0 past) := by
  refine zStep (pkL_law hG hc hs (fun _ _ => False)) [1358] 90 1066 ?_
  refine And.intro h.2.1 ?_
  refine And.intro h.2.2.1 ?_
  refine c_gains hG (by decide) hS hv _ _ (fun I' J' hS' fr => ?_)
  refine And.intro h.2.1 ?_
  refine And.intro h.2.2.1 ?_
  refine m_gains hG (by decide) (mSt_cFr fr hM) hv _ _ (fun I2 J2 hM2 fr2 => ?_)
  refine And.intro (fun _ => ?_) (fun c => absurd rfl c)
  exact K _ _ _ _ (cSt_mFr fr2 (vS_out (oL_gai _ _ _) hv) hS') hM2 (vS_out (oL_gai _ _ _) hv)
theorem w_loses {G : zG} (hsk : zSok G) (hG : zGok G) {b cs sl : Nat} (hc : cs ≤ 601024) (hs : sl ≤ 7293034) {v : Int32} (h : zVi G v) {I : Nat → Nat → Int32} {J : Nat → Nat → Int64} {past : Nat → Nat} {S : zS} (hS : cSt I J past S) (hM : mSt I J S) (hv : vS S) (K : zTl G b cs sl v) : zAt G room_1 RL code 8 ret (zFw G b) cs sl 1103 [some (.ref 1000002), some (.ref 0), some (.ref 305), some (.ref 320), some (.int v), none, none, none] [] (zK0, I, J, zR0 past) := by
  refine zStep (pkL_law hG hc hs (fun _ _ => False)) [1358] 90 1103 ?_
  refine And.intro h.2.1 ?_
  refine And.intro h.2.2.1 ?_
  refine And.intro h.2.2.2.1 ?_
  refine c_loses hG (by decide) hS hv _ _ _ (fun I' J' hS' fr => ?_)
  refine And.intro h.2.1 ?_
  refine And.intro h.2.2.1 ?_
  refine And.intro h.2.2.2.1 ?_
  refine m_loses hG (by decide) (mSt_cFr fr hM) hv _ _ _ (fun I2 J2 hM2 fr2 => ?_)
  refine And.intro (fun _ => ?_) (fun c => absurd rfl c)
  exact K _ _ _ _ (cSt_mFr fr2 (vS_out (oL_los _ _ _ _) hv) hS') hM2 (vS_out (oL_los _ _ _ _) hv)
theorem w_tightest {G : zG} (hsk : zSok G) (hG : zGok G) {b cs sl : Nat} (hc : cs ≤ 601024) (hs : sl ≤ 7293034) {v : Int32} (h : zVi G v) {I : Nat → Nat → Int32} {J : Nat → Nat → Int64} {past : Nat → Nat} {S : zS} (hS : cSt I J past S) (hM : mSt I J S) (hv : vS S) (K : zTl G b cs sl v) : zAt G room_1 RL code 8 ret (zFw G b) cs sl 1152 [some (.ref 1000002), some (.ref 0), some (.ref 305), some (.ref 320), some (.int v), none, none, none] [] (zK0, I, J, zR0 past) := by
  refine zStep (pkL_law hG hc hs (fun _ _ => False)) [1358] 90 1152 ?_
  refine c_tightest hG (by decide) hS hv (fun I' J' hS' fr => ?_)
  refine m_tightest hG (by decide) (mSt_cFr fr hM) hv (fun I2 J2 hM2 fr2 => ?_)
  refine And.intro (fun _ => ?_) (fun c => absurd rfl c)
  exact K _ _ _ _ (cSt_mFr fr2 (vS_out (oL_tig _) hv) hS') hM2 (vS_out (oL_tig _) hv)
theorem w_day {G : zG} (hsk : zSok G) (hG : zGok G) {b cs sl : Nat} (hc : cs ≤ 601024) (hs : sl ≤ 7293034) {v : Int32} (h : zVi G v) {I : Nat → Nat → Int32} {J : Nat → Nat → Int64} {past : Nat → Nat} {S : zS} (hS : cSt I J past S) (hM : mSt I J S) (hv : vS S) (K : zTl G b cs sl v) : zAt G room_1 RL code 8 ret (zFw G b) cs sl 1165 [some (.ref 1000002), some (.ref 0), some (.ref 305), some (.ref 320), some (.int v), none, none, none] [] (zK0, I, J, zR0 past) := by
  refine zStep (pkL_law hG hc hs (fun _ _ => False)) [1358] 90 1165 ?_
  refine c_day hsk hG (by decide) hS hv (fun I' J' past' hS' fr => ?_)
  refine m_day hG (by decide) (mSt_cFr fr hM) hv (fun I2 J2 hM2 fr2 => ?_)
  refine And.intro (fun _ => ?_) (fun c => absurd rfl c)
  exact K _ _ _ _ (cSt_mFr fr2 (vS_day hv) hS') hM2 (vS_day hv)
theorem w_undo {G : zG} (hsk : zSok G) (hG : zGok G) {b cs sl : Nat} (hc : cs ≤ 601024) (hs : sl ≤ 7293034) {v : Int32} (h : zVi G v) {I : Nat → Nat → Int32} {J : Nat → Nat → Int64} {past : Nat → Nat} {S : zS} (hS : cSt I J past S) (hM : mSt I J S) (hv : vS S) (K : zTl G b cs sl v) : zAt G room_1 RL code 8 ret (zFw G b) cs sl 1178 [some (.ref 1000002), some (.ref 0), some (.ref 305), some (.ref 320), some (.int v), none, none, none] [] (zK0, I, J, zR0 past) := by
  refine zStep (pkL_law hG hc hs (fun _ _ => False)) [1358] 90 1178 ?_
  refine c_undo hG (by decide) hS hv (fun I' J' hS' fr => ?_)
  refine m_undo hG (by decide) (mSt_cFr fr hM) hv (fun I2 hM2 fr2 => ?_)
  refine And.intro (fun _ => ?_) (fun c => absurd rfl c)
  exact K _ _ _ _ (cSt_mFr fr2 (vS_und hv) hS') hM2 (vS_und hv)
theorem w_years {G : zG} (hsk : zSok G) (hG : zGok G) {b cs sl : Nat} (hc : cs ≤ 601024) (hs : sl ≤ 7293034) {v : Int32} (h : zVi G v) {I : Nat → Nat → Int32} {J : Nat → Nat → Int64} {past : Nat → Nat} {S : zS} (hS : cSt I J past S) (hM : mSt I J S) (hv : vS S) (K : zTl G b cs sl v) : zAt G room_1 RL code 8 ret (zFw G b) cs sl 1191 [some (.ref 1000002), some (.ref 0), some (.ref 305), some (.ref 320), some (.int v), none, none, none] [] (zK0, I, J, zR0 past) := by
  refine zStep (pkL_law hG hc hs (fun _ _ => False)) [1358] 90 1191 ?_
  refine And.intro h.2.1 ?_
  refine And.intro h.2.2.1 ?_
  refine c_years hG (by decide) hS hv _ _ (fun I' J' hS' fr => ?_)
  refine And.intro h.2.1 ?_
  refine And.intro h.2.2.1 ?_
  refine m_years hG (by decide) (mSt_cFr fr hM) hv _ _ (fun I2 J2 hM2 fr2 => ?_)
  refine And.intro (fun _ => ?_) (fun c => absurd rfl c)
  exact K _ _ _ _ (cSt_mFr fr2 (vS_out (oL_yrs _ _ _) hv) hS') hM2 (vS_out (oL_yrs _ _ _) hv)
theorem w_keep {G : zG} (hsk : zSok G) (hG : zGok G) {b cs sl : Nat} (hc : cs ≤ 601024) (hs : sl ≤ 7293034) {v : Int32} (h : zVi G v) {I : Nat → Nat → Int32} {J : Nat → Nat → Int64} {past : Nat → Nat} {S : zS} (hS : cSt I J past S) (hM : mSt I J S) (hv : vS S) (K : zTl G b cs sl v) : zAt G room_1 RL code 8 ret (zFw G b) cs sl 1228 [some (.ref 1000002), some (.ref 0), some (.ref 305), some (.ref 320), some (.int v), none, none, none] [] (zK0, I, J, zR0 past) := by
  refine zStep (pkL_law hG hc hs (fun _ _ => False)) [1358] 90 1228 ?_
  refine And.intro h.2.1 ?_
  refine c_keep hG (by decide) hS hv _ (fun I' J' hS' fr => ?_)
  refine And.intro h.2.1 ?_
  refine m_keep hG (by decide) (mSt_cFr fr hM) hv _ (fun I2 hM2 fr2 => ?_)
  refine And.intro (fun _ => ?_) (fun c => absurd rfl c)
  exact K _ _ _ _ (cSt_mFr fr2 (vS_kee _ hv) hS') hM2 (vS_kee _ hv)
theorem w_again {G : zG} (hsk : zSok G) (hG : zGok G) {b cs sl : Nat} (hc : cs ≤ 601024) (hs : sl ≤ 7293034) {v : Int32} (h : zVi G v) {I : Nat → Nat → Int32} {J : Nat → Nat → Int64} {past : Nat → Nat} {S : zS} (hS : cSt I J past S) (hM : mSt I J S) (hv : vS S) (K : zTl G b cs sl v) : zAt G room_1 RL code 8 ret (zFw G b) cs sl 1253 [some (.ref 1000002), some (.ref 0), some (.ref 305), some (.ref 320), some (.int v), none, none, none] [] (zK0, I, J, zR0 past) := by
  refine zStep (pkL_law hG hc hs (fun _ _ => False)) [1358] 90 1253 ?_
  refine And.intro h.2.1 ?_
  refine c_again hG (by decide) hS hv _ (fun I' J' hS' fr => ?_)
  refine And.intro h.2.1 ?_
  refine m_again hG (by decide) (mSt_cFr fr hM) hv _ (fun I2 hM2 fr2 => ?_)
  refine And.intro (fun _ => ?_) (fun c => absurd rfl c)
  exact K _ _ _ _ (cSt_mFr fr2 (vS_aga _ hv) hS') hM2 (vS_aga _ hv)
theorem w_count {G : zG} (hsk : zSok G) (hG : zGok G) {b cs sl : Nat} (hc : cs ≤ 601024) (hs : sl ≤ 7293034) {v : Int32} (h : zVi G v) {I : Nat → Nat → Int32} {J : Nat → Nat → Int64} {past : Nat → Nat} {S : zS} (hS : cSt I J past S) (hM : mSt I J S) (hv : vS S) (K : zTl G b cs sl v) : zAt G room_1 RL code 8 ret (zFw G b) cs sl 1278 [some (.ref 1000002), some (.ref 0), some (.ref 305), some (.ref 320), some (.int v), none, none, none] [] (zK0, I, J, zR0 past) := by
  refine zStep (pkL_law hG hc hs (fun _ _ => False)) [1358] 90 1278 ?_
  refine And.intro h.2.1 ?_
  refine c_count hG (by decide) hS hv _ (fun I' J' hS' fr => ?_)
  refine And.intro h.2.1 ?_
  refine m_count hG (by decide) (mSt_cFr fr hM) hv _ (fun I2 J2 hM2 fr2 => ?_)
  refine And.intro (fun _ => ?_) (fun c => absurd rfl c)
  exact K _ _ _ _ (cSt_mFr fr2 (vS_out (oL_cnt _ _) hv) hS') hM2 (vS_out (oL_cnt _ _) hv)
