-- ===== the law's two cases that catch, and its loop =====
theorem cSt_lt {I I' : Nat → Nat → Int32} {J J' : Nat → Nat → Int64} {past : Nat → Nat} {S : zS} (f : ∀ x, x < 305 → I' x = I x ∧ J' x = J x) (hv : vS S) (hS : cSt I J past S) : cSt I' J' past S := by
  have e1 : cSt (fun x => if x < 305 then I' x else I x) (fun x => if x < 305 then J' x else J x) past S := cSt_mFr (I := I) (J := J) (fun x hx => by
    by_cases q : x < 305
    · show (if x < 305 then I' x else I x) = I x ∧ (if x < 305 then J' x else J x) = J x
      rw [if_pos q, if_pos q]
      exact f x q
    · show (if x < 305 then I' x else I x) = I x ∧ (if x < 305 then J' x else J x) = J x
      rw [if_neg q, if_neg q]
      exact ⟨rfl, rfl⟩) hv hS
  obtain ⟨a, b, c, d, e⟩ := e1
  have g : ∀ x, x < 305 → I' x = (fun x => if x < 305 then I' x else I x) x ∧ J' x = (fun x => if x < 305 then J' x else J x) x := fun x hx => by
    show I' x = (if x < 305 then I' x else I x) ∧ J' x = (if x < 305 then J' x else J x)
    rw [if_pos hx, if_pos hx]
    exact ⟨rfl, rfl⟩
  refine ⟨cPl_rg a hv.1.2.1 (fun x _ q => g x (by omega)), cHis_fr b (fun i hi => (hv.2.1.2 i hi).2.1) (fun x hx => g x ?_), cKep_fr c (fun i hi k => (hv.2.2.1 i hi k).2.1) (fun x hx => g x (by omega)), cTxt_fr d (g 126 (by decide)).1 (g 127 (by decide)).1, cNum_fr e (g 128 (by decide)).1 (g 129 (by decide)).2 (g 12 (by decide)).1⟩
  rcases hx with q | ⟨i, hi, q1, q2⟩
  · omega
  · have := zS9_in (b.2.2.1 i (by have := hv.2.1.1; omega))
    omega
theorem mSt_out {I : Nat → Nat → Int32} {J : Nat → Nat → Int64} {S : zS} {x : Int64} (hM : mSt I J S) : mSt I (z_upJ J 320 0 x) S := ⟨hM.1, hM.2.1, hM.2.2.1, hM.2.2.2.1, hM.2.2.2.2.1, fun j hj => by rw [z_upJ_ne (by decide)]; exact hM.2.2.2.2.2 j hj⟩
theorem cSt_out {I : Nat → Nat → Int32} {J : Nat → Nat → Int64} {past : Nat → Nat} {S : zS} {x : Int64} (hv : vS S) (hS : cSt I J past S) : cSt I (z_upJ J 320 0 x) past S := cSt_lt (fun y hy => ⟨rfl, z_upJ_ne (by omega)⟩) hv hS
/-- a call that makes something -/
theorem zcallM {G : zG} {R : Room} {pc cs sl mc ms : Nat} {p : Program} {l : Launch} {e : Env} {s : State} {m : MethodId} {args : Array Value} {below : List Frame} {meth : Method} {c : Code} {H : Heap} {locs : List Loc} {Q : State → Prop} {ls : Array Slot} {rest st0 : List Value} {a : Array Value} {K : zRt} (hr : va_Run p l e R s m args below meth c H locs cs sl mc ms (F0 m pc ls st0) rest (zQc G K a) (zA G)) (hS : va_S (zA G) s.heap H locs)
    (kk : ∀ (r : Option Value) (σ : zSt) (H1 : Heap) (locs1 : List Loc), K r σ → zWd G σ H1 → va_S (zA G) s.heap H1 locs1 → W p l e R s m args below meth c H1 locs1 (cs + mc) (sl + ms) Q (F0 m (pc + 3) ls ((r.map (zV G)).toList ++ rest))) : W p l e R s m args below meth c H locs cs sl Q (F0 m pc ls st0) := by
  intro T hT X
  obtain ⟨v, st₀, t, T', L, h0, X', hL, e1, e2, ⟨⟨r, σ, hv, hp, hw⟩, hF⟩, st⟩ := hr T hT X
  cases hv
  obtain ⟨k1, k2, k3⟩ := vx_keep h0 e1 hS (fun _ _ h => h) (fun _ h => h) hL hF
  obtain ⟨t2, a1, b1⟩ := kk r σ T'.heap (locs ++ L) hp (by rw [e1]; exact hw) k3 T' rfl X'
  exact ⟨t2, st t2 a1, b1⟩
theorem lw_s1 : ∀ w ∈ va_wsS RL 38 yL_row (Cond.codeWith yL_row cL_row 5 (some .int) [(0, 10, 13, 13)] :: zWs), w ∈ zWs := by
  have h : ∀ w ∈ [Cond.methodLink RL 38 yL_row, Cond.static yL_row, Cond.initialized yL_row.cls], w ∈ lw_tbl ∧ goodWord w = true := by decide +kernel
  intro w hw
  rcases List.mem_append.mp hw with q | q
  · exact List.mem_filter.mpr (h w q)
  · rcases List.mem_cons.mp q with q | q
    · rw [q]; exact lw_row
    · exact q
theorem lw_s2 : ∀ w ∈ va_wsS RL 161 yL_told (Cond.codeWith yL_told cL_told 4 (some .int) [(0, 8, 11, 13)] :: zWs), w ∈ zWs := by
  have h : ∀ w ∈ [Cond.methodLink RL 161 yL_told, Cond.static yL_told, Cond.initialized yL_told.cls], w ∈ lw_tbl ∧ goodWord w = true := by decide +kernel
  intro w hw
  rcases List.mem_append.mp hw with q | q
  · exact List.mem_filter.mpr (h w q)
  · rcases List.mem_cons.mp q with q | q
    · rw [q]; exact lw_told
    · exact q
theorem zFg {G : zG} {R : Room} {own : String} {cc : ByteArray} {ret : Option FieldType} {F : List Frame → Array Value → State → State → Prop} {cs sl pc : Nat} {a0 a1 a2 a3 a4 a5 a6 a7 : Option Value} {st : List Value} {σ : zSt} (k : zAt G R own cc 8 ret F cs sl pc [a0, a1, a2, a3, a4, none, none, none] st σ) : zAt G R own cc 8 ret F cs sl pc [a0, a1, a2, a3, a4, a5, a6, a7] st σ := by
  refine zAt_forget (ls' := [a0, a1, a2, a3, a4, none, none, none]) (fun i w hi => ?_) (Nat.le_refl 8) k
  match i, hi with
  | 0, hi => exact hi
  | 1, hi => exact hi
  | 2, hi => exact hi
  | 3, hi => exact hi
  | 4, hi => exact hi
  | 5, hi => exact absurd hi (by simp)
  | 6, hi => exact absurd hi (by simp)
  | 7, hi => exact absurd hi (by simp)
  | i + 8, hi => exact absurd hi (by simp)
theorem w_row {G : zG} (hT : zTok G) (hG : zGok G) {b cs sl : Nat} (hc : cs + 1 ≤ 601024) (hs : sl + 6 ≤ 7293034) {v : Int32} (h : zVi G v) {I : Nat → Nat → Int32} {J : Nat → Nat → Int64} {past : Nat → Nat} {S : zS} (hS : cSt I J past S) (hM : mSt I J S) (hv : vS S) (K : zTl G b (cs + 1) (sl + 6) v) : zAt G room_1 RL code 8 ret (zFw G b) cs sl 247 [some (.ref 1000002), some (.ref 0), some (.ref 305), some (.ref 320), some (.int v), none, none, none] [] (zK0, I, J, zR0 past) := by
  refine zStep (pkL_law hG (Nat.le_of_succ_le hc) (by omega) (fun _ _ => False)) [261] 90 247 ?_
  refine And.intro h.2.1 ?_
  refine And.intro h.2.2.1 ?_
  generalize eA : zgX G (v + 1).toNatClampNeg = A
  generalize eB : zgX G (v + 2).toNatClampNeg = B
  intro p e s m args below meth c hE H locs lsR hw hS2 hl
  refine zcallM (K := fun r σ => (bRo S.1 A B = true ∧ r = some (.int 0) ∧ σ = (zK0, I, z_upJ J 320 0 (pR S.1 A.toNatClampNeg B.toNatClampNeg).toInt64, zR0 past)) ∨ (bRo S.1 A B = false ∧ r = some (.int 1) ∧ σ = (zK0, I, J, zR0 past)))
    (vx_runSW (Ts := zWs) (As := [.ref (zAd G 0), .int A, .int B, .ref (zAd G 320)]) (rest := []) ⟨hE.1, hE.2.1, hE.2.2.1, hE.2.2.2.2.2.1, hE.2.2.2.2.2.2.1⟩ (l_row hT hG hS hv A B (fun q => Or.inl ⟨q, rfl, rfl⟩) (fun q => Or.inr ⟨q, rfl, rfl⟩)) (vx_cwSW 4 hE.2.2.2.2.2.2.1 (zGood zWs lw_s1 (fun w h => h)) rfl rfl rfl (by decide +kernel) (by decide)) ⟨zPre_blind hG, zpre_at hG (as := [.ref 0, .int A, .int B, .ref 320]) hE hw hS2⟩ rfl rfl hl.1 rfl (lv_room (Nat.zero_le 8)) (by decide +kernel : decode code 261 = .ok (.invokestatic 38, 3)) ⟨hc, hs⟩) hS2 (fun r σ H1 locs1 hr hw1 hS1 => ?_)
  rcases hr with ⟨hb, rfl, rfl⟩ | ⟨hb, rfl, rfl⟩
  · have kk : zAt G room_1 RL code 8 ret (zFw G b) (cs + 1) (sl + 6) 264 [some (.ref 1000002), some (.ref 0), some (.ref 305), some (.ref 320), some (.int v), none, none, none] [.int 0] (zK0, I, z_upJ J 320 0 (pR S.1 A.toNatClampNeg B.toNatClampNeg).toInt64, zR0 past) := by
      refine zStep (pkL_law hG hc hs (fun _ _ => False)) [1358] 90 264 ?_
      refine And.intro h.2.1 ?_
      refine And.intro h.2.2.1 ?_
      rw [eA, eB]
      refine m_row hG (by decide) (mSt_out hM) hv A B (fun I2 hM2 fr2 e5 => ?_)
      rw [hb]
      refine m_thrown hG (by decide) ?_
      rw [e5, hb]
      refine And.intro (fun _ => ?_) (fun c => absurd rfl c)
      refine And.intro (fun c => absurd rfl c) (fun _ => ?_)
      refine And.intro (vp_in_nI (n := 0) (N := 1) (by decide) (by decide)) ?_
      refine And.intro (fun _ => ?_) (fun c => absurd (uJ_s) c)
      exact zFg (K _ _ _ _ (cSt_mFr fr2 hv (cSt_out hv hS)) hM2 hv)
    exact kk p e s m args below meth c hE H1 locs1 lsR hw1 hS1 hl
  · have kk : zAt G room_1 RL code 8 ret (zFw G b) (cs + 1) (sl + 6) 264 [some (.ref 1000002), some (.ref 0), some (.ref 305), some (.ref 320), some (.int v), none, none, none] [.int 1] (zK0, I, J, zR0 past) := by
      refine zStep (pkL_law hG hc hs (fun _ _ => False)) [1358] 90 264 ?_
      refine And.intro h.2.1 ?_
      refine And.intro h.2.2.1 ?_
      rw [eA, eB]
      refine m_row hG (by decide) hM hv A B (fun I2 hM2 fr2 e5 => ?_)
      refine m_thrown hG (by decide) ?_
      rw [e5, hb]
      refine And.intro (fun _ => ?_) (fun c => absurd rfl c)
      refine And.intro (fun _ => ?_) (fun c => absurd c (show ¬ (1 : Int32) = 0 by decide))
      exact zFg (K _ _ _ _ (cSt_mFr fr2 hv hS) hM2 hv)
    exact kk p e s m args below meth c hE H1 locs1 lsR hw1 hS1 hl
theorem w_told {G : zG} (hT : zTok G) (hG : zGok G) {b cs sl : Nat} (hc : cs + 1 ≤ 601024) (hs : sl + 6 ≤ 7293034) {v : Int32} (h : zVi G v) {I : Nat → Nat → Int32} {J : Nat → Nat → Int64} {past : Nat → Nat} {S : zS} (hS : cSt I J past S) (hM : mSt I J S) (hv : vS S) (K : zTl G b (cs + 1) (sl + 6) v) : zAt G room_1 RL code 8 ret (zFw G b) cs sl 1303 [some (.ref 1000002), some (.ref 0), some (.ref 305), some (.ref 320), some (.int v), none, none, none] [] (zK0, I, J, zR0 past) := by
  refine zStep (pkL_law hG (Nat.le_of_succ_le hc) (by omega) (fun _ _ => False)) [1311] 90 1303 ?_
  refine And.intro h.2.1 ?_
  generalize eA : zgX G (v + 1).toNatClampNeg = A
  intro p e s m args below meth c hE H locs lsR hw hS2 hl
  refine zcallM (K := fun r σ => (bTo S.2.2.2.2.1 A = true ∧ r = some (.int 0) ∧ σ = (zK0, I, z_upJ J 320 0 (S.2.2.2.2.2 A.toNatClampNeg), zR0 past)) ∨ (bTo S.2.2.2.2.1 A = false ∧ r = some (.int 1) ∧ σ = (zK0, I, J, zR0 past)))
    (vx_runSW (Ts := zWs) (As := [.ref (zAd G 0), .int A, .ref (zAd G 320)]) (rest := []) ⟨hE.1, hE.2.1, hE.2.2.1, hE.2.2.2.2.2.1, hE.2.2.2.2.2.2.1⟩ (l_told hT hG hS hv A (fun q => Or.inl ⟨q, rfl, rfl⟩) (fun q => Or.inr ⟨q, rfl, rfl⟩)) (vx_cwSW 3 hE.2.2.2.2.2.2.1 (zGood zWs lw_s2 (fun w h => h)) rfl rfl rfl (by decide +kernel) (by decide)) ⟨zPre_blind hG, zpre_at hG (as := [.ref 0, .int A, .ref 320]) hE hw hS2⟩ rfl rfl hl.1 rfl (lv_room (Nat.zero_le 8)) (by decide +kernel : decode code 1311 = .ok (.invokestatic 161, 3)) ⟨hc, hs⟩) hS2 (fun r σ H1 locs1 hr hw1 hS1 => ?_)
  rcases hr with ⟨hb, rfl, rfl⟩ | ⟨hb, rfl, rfl⟩
  · have kk : zAt G room_1 RL code 8 ret (zFw G b) (cs + 1) (sl + 6) 1314 [some (.ref 1000002), some (.ref 0), some (.ref 305), some (.ref 320), some (.int v), none, none, none] [.int 0] (zK0, I, z_upJ J 320 0 (S.2.2.2.2.2 A.toNatClampNeg), zR0 past) := by
      refine zStep (pkL_law hG hc hs (fun _ _ => False)) [1358] 90 1314 ?_
      refine And.intro h.2.1 ?_
      rw [eA]
      refine m_told hG (by decide) (mSt_out hM) hv A (fun I2 hM2 fr2 e5 => ?_)
      rw [hb]
      refine m_thrown hG (by decide) ?_
      rw [e5, hb]
      refine And.intro (fun _ => ?_) (fun c => absurd rfl c)
      refine And.intro (fun c => absurd rfl c) (fun _ => ?_)
      refine And.intro (vp_in_nI (n := 0) (N := 1) (by decide) (by decide)) ?_
      refine And.intro (fun _ => ?_) (fun c => absurd (uJ_s) c)
      exact zFg (K _ _ _ _ (cSt_mFr fr2 hv (cSt_out hv hS)) hM2 hv)
    exact kk p e s m args below meth c hE H1 locs1 lsR hw1 hS1 hl
  · have kk : zAt G room_1 RL code 8 ret (zFw G b) (cs + 1) (sl + 6) 1314 [some (.ref 1000002), some (.ref 0), some (.ref 305), some (.ref 320), some (.int v), none, none, none] [.int 1] (zK0, I, J, zR0 past) := by
      refine zStep (pkL_law hG hc hs (fun _ _ => False)) [1358] 90 1314 ?_
      refine And.intro h.2.1 ?_
      rw [eA]
      refine m_told hG (by decide) hM hv A (fun I2 hM2 fr2 e5 => ?_)
      refine m_thrown hG (by decide) ?_
      rw [e5, hb]
      refine And.intro (fun _ => ?_) (fun c => absurd rfl c)
      refine And.intro (fun _ => ?_) (fun c => absurd c (show ¬ (1 : Int32) = 0 by decide))
      exact zFg (K _ _ _ _ (cSt_mFr fr2 hv hS) hM2 hv)
    exact kk p e s m args below meth c hE H1 locs1 lsR hw1 hS1 hl
