-- ===== the law's first words =====
theorem fs_11 {G : zG} {σ : zSt} {n : Nat} : ∀ j, j < 13 → defaultValue (tyX11 j) = vp_V (zFs G (zNw σ (11, n)) σ.1.length 11) j := fun j hj => by
  rw [zfs_new hj]
  match j, hj with
  | 0, _ => rfl
  | 1, _ => rfl
  | 2, _ => rfl
  | 3, _ => rfl
  | 4, _ => rfl
  | 5, _ => rfl
  | 6, _ => rfl
  | 7, _ => rfl
  | 8, _ => rfl
  | 9, _ => rfl
  | 10, _ => rfl
  | 11, _ => rfl
  | 12, _ => rfl
theorem fs_12a : ∀ j, j < 37 → defaultValue (tyX12 j) = zDv ((zFT 12).getD j 0) := by decide +kernel
theorem fs_12 {G : zG} {σ : zSt} {n : Nat} : ∀ j, j < 37 → defaultValue (tyX12 j) = vp_V (zFs G (zNw σ (12, n)) σ.1.length 12) j := fun j hj => by
  rw [zfs_new hj]
  exact fs_12a j hj
theorem dyi11 : yX11_init.cls ≠ "java/lang/invoke/MethodHandle" ∧ yX11_init.cls ≠ "java/lang/invoke/VarHandle" ∧ (parseMethodDescriptor yX11_init.desc).map (fun d => d.parameters.length) = some 0 := by decide +kernel
theorem dyi12 : yX12_init.cls ≠ "java/lang/invoke/MethodHandle" ∧ yX12_init.cls ≠ "java/lang/invoke/VarHandle" ∧ (parseMethodDescriptor yX12_init.desc).map (fun d => d.parameters.length) = some 0 := by decide +kernel
theorem cl_L_8 : Cond.classLink RL 8 RX11 ∈ zWs := zWs_in 111 (by decide +kernel) rfl
theorem cl_L_20 : Cond.classLink RL 20 RX12 ∈ zWs := zWs_in 1100 (by decide +kernel) rfl
theorem mk_L_19 : zMk RL 19 yX11_init := Or.inl (zWs_in 113 (by decide +kernel) rfl)
theorem mk_L_22 : zMk RL 22 yX12_init := Or.inl (zWs_in 1102 (by decide +kernel) rfl)
noncomputable def pgL_0 : zPg := [(0, o_no), (3, o_dup), (4, o_no), (7, o_as 1), (8, o_no), (11, o_dup), (12, o_no), (15, o_as 2), (16, o_ic 1), (17, o_no), (19, o_as 3), (20, o_ic 0), (21, o_is 4), (23, o_no)]
theorem pkL_0 {G : zG} {R : Room} {F : List Frame → Array Value → State → State → Prop} {cs sl : Nat} {C : zCl} {Rt : zRt} : zPOK G R RL code 8 ret F cs sl C Rt pgL_0 := by
  refine And.intro (k_no) ?_
  refine And.intro (k_dup (pc := 3) (by decide +kernel : decode code 3 = .ok (.dup, 1))) ?_
  refine And.intro (k_no) ?_
  refine And.intro (k_astore_n (pc := 7) (by decide +kernel : decode code 7 = .ok (.astore_n 1, 1)) rfl) ?_
  refine And.intro (k_no) ?_
  refine And.intro (k_dup (pc := 11) (by decide +kernel : decode code 11 = .ok (.dup, 1))) ?_
  refine And.intro (k_no) ?_
  refine And.intro (k_astore_n (pc := 15) (by decide +kernel : decode code 15 = .ok (.astore_n 2, 1)) rfl) ?_
  refine And.intro (k_iconst (pc := 16) (by decide +kernel : decode code 16 = .ok (.iconst 1, 1)) (by decide)) ?_
  refine And.intro (k_no) ?_
  refine And.intro (k_astore_n (pc := 19) (by decide +kernel : decode code 19 = .ok (.astore_n 3, 1)) rfl) ?_
  refine And.intro (k_iconst (pc := 20) (by decide +kernel : decode code 20 = .ok (.iconst 0, 1)) (by decide)) ?_
  refine And.intro (k_istore (pc := 21) (by decide +kernel : decode code 21 = .ok (.istore 4, 2))) ?_
  refine And.intro (k_no) ?_
  exact trivial
/-- what the law has made -/
noncomputable def rAll : Nat → Nat → Option Nat := fun p k => if p < 305 then ra19 p k else if p < 320 then (rl12 (p - 305) k).map (· + 305) else none
theorem kAll : (([(11, 13)] ++ ka19) ++ [(12, 37)] ++ kd12) ++ [(15, 1)] = zK0 := by decide +kernel
theorem rAll_ok : ((List.range 321).all (fun p => (List.range (zNk (zKd zK0 p))).all (fun k => decide (zR0 past0 p k = rAll p k)))) = true := by decide +kernel
theorem rAll_eq {p k : Nat} (hp : p < 321) (hk : k < zNk (zKd zK0 p)) : zR0 past0 p k = rAll p k := by
  have h := List.all_eq_true.mp rAll_ok p (List.mem_range.mpr hp)
  exact of_decide_eq_true (List.all_eq_true.mp h k (List.mem_range.mpr hk))
theorem zAt_eq {G : zG} {R : Room} {own : String} {cc : ByteArray} {nL : Nat} {rt : Option FieldType} {F : List Frame → Array Value → State → State → Prop} {cs sl pc : Nat} {ls : zLs} {st : List Value} {σ σ' : zSt} (h : ∀ H, zWd G σ H → zWd G σ' H) (k : zAt G R own cc nL rt F cs sl pc ls st σ') : zAt G R own cc nL rt F cs sl pc ls st σ := fun p e s m args below meth c hE H locs lsR hw hS hl => k p e s m args below meth c hE H locs lsR (h H hw) hS hl
theorem w_made {σ0 σ1 σ2 : zSt} (h0 : σ0.1 = [(11, 13)]) (c1 : zBu ka19 ra19 0 σ0 σ1) (l1 : σ1.1.length = 305) (c2 : zBu kd12 rl12 305 (zNw σ1 (12, 37)) σ2) (l2 : σ2.1.length = 320) : (zNw σ2 (15, 1)).1 = zK0 ∧ (∀ p, p < 321 → ∀ k, (zNw σ2 (15, 1)).2.2.2 p k = rAll p k) ∧ ∀ p, p < 321 → (zKd zK0 p).1 ≠ 9 → ∀ k, (zNw σ2 (15, 1)).2.1 p k = 0 := by
  have hK : (zNw σ2 (15, 1)).1 = zK0 := by
    show σ2.1 ++ [(15, 1)] = zK0
    rw [c2.1]
    show ((σ1.1 ++ [(12, 37)]) ++ kd12) ++ [(15, 1)] = zK0
    rw [c1.1, h0]
    exact kAll
  refine ⟨hK, fun p hp k => ?_, fun p hp h9 k => ?_⟩
  · unfold rAll
    by_cases e : p = 320
    · subst e
      rw [if_neg (by decide), if_neg (by decide)]
      show va_up σ2.2.2.2 σ2.1.length (fun _ => none) 320 k = none
      rw [← l2, va_up_self]
    · show va_up σ2.2.2.2 σ2.1.length (fun _ => none) p k = _
      rw [va_up_ne _ _ (by omega)]
      by_cases d : p < 305
      · rw [if_pos d, (c2.2.1 p d).2.2]
        show va_up σ1.2.2.2 σ1.1.length (fun _ => none) p k = _
        rw [va_up_ne _ _ (by omega), (c1.2.2 p (Nat.zero_le p) (by rw [ka19_len]; omega) k).1]
        show (ra19 p k).map (· + 0) = ra19 p k
        cases ra19 p k <;> rfl
      · rw [if_neg d, if_pos (by omega)]
        exact (c2.2.2 p (by omega) (by show p < 305 + 1 + 14; omega) k).1
  · by_cases e : p = 320
    · subst e
      show va_up σ2.2.1 σ2.1.length (fun _ => 0) 320 k = 0
      rw [← l2, va_up_self]
    · have e2 : zKd zK0 p = zKd σ2.1 p := by
        rw [← hK]
        exact zKd_l (by omega)
      rw [e2] at h9
      show va_up σ2.2.1 σ2.1.length (fun _ => 0) p k = 0
      rw [va_up_ne _ _ (by omega)]
      by_cases d : p < 305
      · rw [(c2.2.1 p d).1]
        show va_up σ1.2.1 σ1.1.length (fun _ => 0) p k = 0
        rw [va_up_ne _ _ (by omega)]
        refine (c1.2.2 p (Nat.zero_le p) (by rw [ka19_len]; omega) k).2 ?_
        rw [c2.1, show (zNw σ1 (12, 37)).1 = σ1.1 ++ [(12, 37)] from rfl, List.append_assoc, zKd_l (by omega)] at h9
        exact h9
      · exact (c2.2.2 p (by omega) (by show p < 305 + 1 + 14; omega) k).2 h9
/-- from the law's entry to its loop -/
theorem w_start {G : zG} (hA : zAO G) (hM : zMA G) (hT : zTok G) (hsk : zSok G) (hG : zGok G) (hN : zgN G ≤ 2560) {b : Nat} {I : Nat → Nat → Int32} {J : Nat → Nat → Int64} {P : Nat → Nat → Option Nat} : zAt G room_1 RL code 8 ret (zFw G b) 0 0 0 [some (.ref 1000002), none, none, none, none, none, none, none] [] ([], I, J, P) := by
  refine at_new zFw_v (tag := 11) (n := 13) rfl (by decide) zin11 tyX11_ok cl_L_8 nw_X11 ini_X11 (by decide +kernel) (σ := ([], I, J, P)) fs_11 rfl (show 0 < 1000000 by decide) (by decide) (by decide) ?_
  refine zStep (pkL_0 (C := zCalls G 0) (Rt := fun _ _ => False)) [4] 10 3 ?_
  have f1 : zFo 11 0 (zNw ([], I, J, P) (11, 13)) := ⟨rfl, by decide, rfl, fun k => ⟨congrFun (va_up_self I 0 (fun _ => 0)) k, congrFun (va_up_self P 0 (fun _ => none)) k⟩⟩
  refine at_init hG zFw_v (k' := 5) (mc := 304) (ms := 2756) (by decide) ini_X11 imX11_init rfl mk_L_19 dyi11 (by decide +kernel) rfl rfl ?_
  refine i_11 (i_5 hM) hA hG (by decide) (o := 0) (by decide) f1 (fun σ1 c1 => ⟨rfl, ?_⟩)
  have l1 : σ1.1.length = 305 := (bu_len (o := 0) rfl c1).trans (by rw [ka19_len])
  refine zStep (pkL_0 (C := zCalls G 0) (Rt := fun _ _ => False)) [8] 10 7 ?_
  refine at_new zFw_v (tag := 12) (n := 37) rfl (by decide) zin12 tyX12_ok cl_L_20 nw_X12 ini_X12 (by decide +kernel) fs_12 (l1.trans (by rfl)) (by omega) (by decide) (by decide) ?_
  refine zStep (pkL_0 (C := zCalls G 0) (Rt := fun _ _ => False)) [12] 10 11 ?_
  have f2 := bu_fo (o := 0) (t := 12) (n := 37) rfl c1 (by rw [ka19_len]; decide)
  refine at_init hG zFw_v (k' := 2) (mc := 14) (ms := 2466) (by decide) ini_X12 imX12_init rfl mk_L_22 dyi12 (by decide +kernel) (f2.1.trans (by rw [l1])) rfl ?_
  refine i_12 (by decide) (by omega) f2 (fun σ2 c2 => ⟨rfl, ?_⟩)
  have l2 : σ2.1.length = 320 := (bu_len f2.1 c2).trans (by rw [l1]; decide)
  refine zStep (pkL_0 (C := zCalls G 0) (Rt := fun _ _ => False)) [17] 10 15 ?_
  refine at_newJ zFw_v (N := 1) (by decide +kernel) (by decide) (by decide) (by decide) (l2.trans rfl) (by omega) (by decide) (by decide) ?_
  refine zStep (pkL_0 (C := zCalls G 0) (Rt := fun _ _ => False)) [23] 10 19 ?_
  rw [l1] at c2
  obtain ⟨m1, m2, m3⟩ := w_made rfl c1 l1 c2 l2
  have key : ∀ (q r : Nat) (τ : zSt), q = 305 → r = 320 → τ = zNw σ2 (15, 1) → zAt G room_1 RL code 8 ret (zFw G b) 321 5273 23 [some (.ref 1000002), some (.ref 0), some (.ref q), some (.ref r), some (.int 0), none, none, none] [] τ := by
    rintro q r τ rfl rfl e
    rw [← e] at m1 m2 m3
    clear e
    obtain ⟨K3, I3, J3, P3⟩ := τ
    have m1 : K3 = zK0 := m1
    subst m1
    refine zAt_eq (σ' := (zK0, I3, J3, zR0 past0)) (fun H hw => zWd_R hw (fun p hp k hk => ?_)) ?_
    · have hp : p < zK0.length := hp
      rw [show zK0.length = 321 by decide +kernel] at hp
      rw [rAll_eq hp hk]
      exact (m2 p hp k).symm
    · refine w_loop hT hsk hG hN 513 0 321 5273 0 I3 J3 past0 S0 rfl rfl (by decide) (by decide) (cSt_0 ?_ ?_ ?_ ?_ ?_ ?_ ?_) (mSt_0 ?_ ?_ ?_ ?_ ?_ ?_) vS_0
      · exact m3 1 (by decide) (by decide +kernel) 0
      · exact m3 1 (by decide) (by decide +kernel) 1
      · exact m3 25 (by decide) (by decide +kernel) 0
      · exact fun i _ => m3 24 (by decide) (by decide +kernel) i
      · exact m3 126 (by decide) (by decide +kernel) 0
      · exact m3 128 (by decide) (by decide +kernel) 0
      · exact m3 12 (by decide) (by decide +kernel) 1
      · exact m3 306 (by decide) (by decide +kernel) 0
      · exact m3 306 (by decide) (by decide +kernel) 19
      · exact m3 305 (by decide) (by decide +kernel) 13
      · exact fun i _ => m3 319 (by decide) (by decide +kernel) i
      · exact m3 305 (by decide) (by decide +kernel) 2
      · exact m3 305 (by decide) (by decide +kernel) 4
  exact key _ _ _ l1 l2 rfl
