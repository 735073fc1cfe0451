-- ===== the loop =====
theorem zAt_wide {G : zG} {R : Room} {own : String} {cc : ByteArray} {nL : Nat} {ret : Option FieldType} {F : List Frame → Array Value → State → State → Prop} {cs sl cs' sl' pc : Nat} {ls : zLs} {st : List Value} {σ : zSt} (h1 : cs ≤ cs') (h2 : sl ≤ sl') (k : zAt G R own cc nL ret F cs' sl' pc ls st σ) : zAt G R own cc nL ret F cs sl pc ls st σ := by
  intro p e s m args below meth c hE H locs lsR hw hS hl T hT X
  exact k p e s m args below meth c hE H locs lsR hw hS hl T hT (stand_widen X h1 h2)
theorem w_gt {N a : Nat} (hN : N ≤ 2560) (ha : a ≤ 2565) : (Int32.ofNat N - 5 < nI a) ↔ N < a + 5 := by
  have e1 : (Int32.ofNat N - 5 : Int32) = Int32.ofInt ((N : Int) - 5) := by
    rw [Int32.ofInt_sub]; rfl
  rw [e1, Int32.lt_iff_toInt_lt, Int32.toInt_ofInt_of_le (by omega) (by omega), nI_toInt (by omega)]
  omega
theorem w_vi {G : zG} {i : Nat} (hN : zgN G ≤ 2560) (h : i + 5 ≤ zgN G) : zVi G (nI i) := by
  have e : ∀ k, k < 5 → vp_in (nI (i + k)) (zgN G) := fun k hk => vp_in_nI (by omega) (by omega)
  refine ⟨e 0 (by omega), ?_, ?_, ?_, ?_⟩
  · rw [show (1 : Int32) = nI 1 from rfl, nI_add]; exact e 1 (by omega)
  · rw [show (2 : Int32) = nI 2 from rfl, nI_add]; exact e 2 (by omega)
  · rw [show (3 : Int32) = nI 3 from rfl, nI_add]; exact e 3 (by omega)
  · rw [show (4 : Int32) = nI 4 from rfl, nI_add]; exact e 4 (by omega)
theorem w_loop {G : zG} (hT : zTok G) (hsk : zSok G) (hG : zGok G) (hN : zgN G ≤ 2560) {b : Nat} : ∀ (r i cs sl : Nat) (v : Int32) (I : Nat → Nat → Int32) (J : Nat → Nat → Int64) (past : Nat → Nat) (S : zS), v = nI (5 * i) → i + r = 513 → cs + r ≤ 601024 → sl + 6 * r ≤ 7293034 → cSt I J past S → mSt I J S → vS S → zAt G room_1 RL code 8 ret (zFw G b) cs sl 23 [some (.ref 1000002), some (.ref 0), some (.ref 305), some (.ref 320), some (.int v), none, none, none] [] (zK0, I, J, zR0 past) := by
  intro r
  induction r with
  | zero =>
    intro i cs sl v I J past S ev hi hc hs hS hM hv
    subst ev
    refine zStep (pkL_law hG (by omega) (by omega) (fun _ _ => False)) [] 20 23 ?_
    refine And.intro (fun _ => rfl) (fun c => absurd ((w_gt hN (by omega)).mpr (by omega)) c)
  | succ r ih =>
    intro i cs sl v I J past S ev hi hc hs hS hM hv
    subst ev
    have K1 : zTl G b (cs + 1) (sl + 6) (nI (5 * i)) := by
      intro I2 J2 past2 S2 hS2 hM2 hv2
      refine zStep (pkL_law hG (by omega) (by omega) (fun _ _ => False)) [23] 20 1358 ?_
      exact ih (i + 1) (cs + 1) (sl + 6) _ I2 J2 past2 S2 (by rw [show (5 : Int32) = nI 5 from rfl, nI_add]; rfl) (by omega) (by omega) (by omega) hS2 hM2 hv2
    have K : zTl G b cs sl (nI (5 * i)) := fun I2 J2 past2 S2 hS2 hM2 hv2 => zAt_wide (Nat.le_succ cs) (Nat.le_add_right sl 6) (K1 I2 J2 past2 S2 hS2 hM2 hv2)
    refine zStep (pkL_law hG (by omega) (by omega) (fun _ _ => False)) [184, 209, 234, 247, 315, 376, 413, 462, 487, 536, 597, 646, 707, 732, 781, 830, 855, 880, 893, 942, 955, 968, 1017, 1066, 1103, 1152, 1165, 1178, 1191, 1228, 1253, 1278, 1303, 1358] 20 23 ?_
    refine And.intro (fun _ => rfl) (fun c => ?_)
    have c : ¬ zgN G < 5 * i + 5 := fun q => c ((w_gt hN (by omega)).mpr q)
    have hvi := w_vi (G := G) (i := 5 * i) hN (by omega)
    refine And.intro hvi.1 ?_
    refine And.intro (fun _ => w_sign hsk hG (by omega) (by omega) hvi hS hM hv K) (fun _ => ?_)
    refine And.intro (fun _ => w_end hsk hG (by omega) (by omega) hvi hS hM hv K) (fun _ => ?_)
    refine And.intro (fun _ => w_rows hsk hG (by omega) (by omega) hvi hS hM hv K) (fun _ => ?_)
    refine And.intro (fun _ => w_row hT hG (by omega) (by omega) hvi hS hM hv K1) (fun _ => ?_)
    refine And.intro (fun _ => w_sheet hsk hG (by omega) (by omega) hvi hS hM hv K) (fun _ => ?_)
    refine And.intro (fun _ => w_becomes hsk hG (by omega) (by omega) hvi hS hM hv K) (fun _ => ?_)
    refine And.intro (fun _ => w_adds hsk hG (by omega) (by omega) hvi hS hM hv K) (fun _ => ?_)
    refine And.intro (fun _ => w_drops hsk hG (by omega) (by omega) hvi hS hM hv K) (fun _ => ?_)
    refine And.intro (fun _ => w_slice hsk hG (by omega) (by omega) hvi hS hM hv K) (fun _ => ?_)
    refine And.intro (fun _ => w_inside hsk hG (by omega) (by omega) hvi hS hM hv K) (fun _ => ?_)
    refine And.intro (fun _ => w_round hsk hG (by omega) (by omega) hvi hS hM hv K) (fun _ => ?_)
    refine And.intro (fun _ => w_splits hsk hG (by omega) (by omega) hvi hS hM hv K) (fun _ => ?_)
    refine And.intro (fun _ => w_slices hsk hG (by omega) (by omega) hvi hS hM hv K) (fun _ => ?_)
    refine And.intro (fun _ => w_cut hsk hG (by omega) (by omega) hvi hS hM hv K) (fun _ => ?_)
    refine And.intro (fun _ => w_stores hsk hG (by omega) (by omega) hvi hS hM hv K) (fun _ => ?_)
    refine And.intro (fun _ => w_checks hsk hG (by omega) (by omega) hvi hS hM hv K) (fun _ => ?_)
    refine And.intro (fun _ => w_stronger hsk hG (by omega) (by omega) hvi hS hM hv K) (fun _ => ?_)
    refine And.intro (fun _ => w_clears hsk hG (by omega) (by omega) hvi hS hM hv K) (fun _ => ?_)
    refine And.intro (fun _ => w_breaks hsk hG (by omega) (by omega) hvi hS hM hv K) (fun _ => ?_)
    refine And.intro (fun _ => w_wholes hsk hG (by omega) (by omega) hvi hS hM hv K) (fun _ => ?_)
    refine And.intro (fun _ => w_hull hsk hG (by omega) (by omega) hvi hS hM hv K) (fun _ => ?_)
    refine And.intro (fun _ => w_nearest hsk hG (by omega) (by omega) hvi hS hM hv K) (fun _ => ?_)
    refine And.intro (fun _ => w_most hsk hG (by omega) (by omega) hvi hS hM hv K) (fun _ => ?_)
    refine And.intro (fun _ => w_gains hsk hG (by omega) (by omega) hvi hS hM hv K) (fun _ => ?_)
    refine And.intro (fun _ => w_loses hsk hG (by omega) (by omega) hvi hS hM hv K) (fun _ => ?_)
    refine And.intro (fun _ => w_tightest hsk hG (by omega) (by omega) hvi hS hM hv K) (fun _ => ?_)
    refine And.intro (fun _ => w_day hsk hG (by omega) (by omega) hvi hS hM hv K) (fun _ => ?_)
    refine And.intro (fun _ => w_undo hsk hG (by omega) (by omega) hvi hS hM hv K) (fun _ => ?_)
    refine And.intro (fun _ => w_years hsk hG (by omega) (by omega) hvi hS hM hv K) (fun _ => ?_)
    refine And.intro (fun _ => w_keep hsk hG (by omega) (by omega) hvi hS hM hv K) (fun _ => ?_)
    refine And.intro (fun _ => w_again hsk hG (by omega) (by omega) hvi hS hM hv K) (fun _ => ?_)
    refine And.intro (fun _ => w_count hsk hG (by omega) (by omega) hvi hS hM hv K) (fun _ => ?_)
    refine And.intro (fun _ => w_told hT hG (by omega) (by omega) hvi hS hM hv K1) (fun _ => ?_)
    exact K _ _ _ _ hS hM hv
