-- ===== the constructor of Plan =====
theorem cl_X5_22 : Cond.classLink RX5 22 "[[J" ∈ zWs := zWs_in 125 (by decide +kernel) rfl
theorem bu_mn {kd : List (Nat × Nat)} {rel : Nat → Nat → Option Nat} {o : Nat} {σ σ1 : zSt} (hl : σ.1.length = o + 1) (h : zBu kd rel o σ σ1) (hr : ∀ x k, kd.length + 1 ≤ x → rel x k = none) : ∀ i, zBu (kd ++ (20, 8) :: List.replicate i (15, 15)) (fun x k => if x = kd.length + 1 ∧ k < i then some (kd.length + 2 + k) else rel x k) o σ (mnS σ1 i)
  | 0 => by
    refine bu_ext (bu_new (d := (20, 8)) hl h (fun k => hr _ k (Nat.le_refl _))) (fun x k _ => ?_)
    rw [if_neg (fun q => Nat.not_lt_zero _ q.2)]
  | i + 1 => by
    have b := bu_mn hl h hr i
    have hL := bu_len hl h
    have b1 := bu_new (d := (15, 15)) hl b (fun k => by
      rw [List.length_append, List.length_cons, List.length_replicate, if_neg (by omega)]
      exact hr _ k (by omega))
    have b2 := bu_putA (q := σ1.1.length) (b := (mnS σ1 i).1.length) (k := i) b1 (kd.length + 1) (kd.length + 2 + i) (by omega) (by rw [mnS_len]; omega)
    have e9 : (kd ++ (20, 8) :: List.replicate i (15, 15)) ++ [(15, 15)] = kd ++ (20, 8) :: List.replicate (i + 1) (15, 15) := by
      rw [List.append_assoc, List.cons_append, List.replicate_succ']
    rw [e9] at b2
    refine bu_ext b2 (fun x k _ => ?_)
    show (if x = kd.length + 1 ∧ k < i + 1 then some (kd.length + 2 + k) else rel x k) = if x = kd.length + 1 ∧ k = i then some (kd.length + 2 + i) else if x = kd.length + 1 ∧ k < i then some (kd.length + 2 + k) else rel x k
    by_cases c : x = kd.length + 1 ∧ k = i
    · rw [if_pos c, if_pos ⟨c.1, by omega⟩, c.2]
    · rw [if_neg c]
      by_cases d : x = kd.length + 1 ∧ k < i
      · rw [if_pos d, if_pos ⟨d.1, by omega⟩]
      · rw [if_neg d, if_neg (fun q => by
          by_cases z : k = i
          · exact c ⟨q.1, z⟩
          · exact d ⟨q.1, by omega⟩)]
theorem i_5 {G : zG} (hA : zMA G) : zI5 G := by
  intro k' o σ Q hk ho hf h
  obtain ⟨K, I, J, P⟩ := σ
  have b0 := bu_0 hf
  obtain ⟨h1, h2, h3, h4⟩ := hf
  have hK : K.length = o + 1 := h1
  refine zMethodK (k := 1) hk (by decide) (by decide +kernel) cdX5_init _ rfl (Nat.le_of_ble_eq_true rfl) ?_
  refine zStep (pkX5_init (C := zCalls G 0) (Rt := Q)) [1] 10 0 ?_
  refine at_obj ol_X5_3 (by decide +kernel) (by decide) (by decide) ?_
  refine zStep (pkX5_init (C := zCalls G 0) (Rt := Q)) [17] 20 4 ?_
  refine zB_in h3 ?_
  refine zB_in h3 ?_
  have c0 := bu_I (j := 1) (bu_I (j := 0) b0)
  have b1 := bu_new (d := (14, 18)) h1 c0 (fun k => rfl)
  refine at_newI zFk_v (N := 18) (by decide +kernel) (by decide) (by decide) (by decide) rfl (by show K.length < 1000000; omega) (by decide) (by decide) ?_
  refine at_pR zFk_n rfl (tag := 5) (k := 2) rfl (by decide) rfl zin5 tyX5_ok nmX5 fl_X5_18 rfl rfl rfl (fun a => ⟨rfl, rfl⟩) (by decide +kernel) (bu_kd h1 h3 b1) ?_
  refine at_hide (bu_put (k := 2) b1 1 h1) (fun σ1 c1 => ?_)
  have l1 : σ1.1.length = o + 1 + 1 := bu_len h1 c1
  refine zStep (pkX5_init (C := zCalls G 0) (Rt := Q)) [27] 20 22 ?_
  refine at_multi zFk_v hA cl_X5_22 (by decide +kernel) (by decide) (by decide) (by decide) (by decide) (l1.trans (by show o + 1 + 1 = K.length + 1; omega)) (by omega) (by decide) (by decide) ?_
  have c2 := bu_mn h1 c1 (fun x k hx => by
    have hx : 2 ≤ x := hx
    show (if x = 0 ∧ k = 2 then some 1 else none) = none
    rw [if_neg (by omega)]) 8
  refine at_pR zFk_n rfl (tag := 5) (k := 3) rfl (by decide) rfl zin5 tyX5_ok nmX5 fl_X5_24 rfl rfl rfl (fun a => ⟨rfl, rfl⟩) (by decide +kernel) (bu_kd h1 h3 c2) ?_
  refine at_ret (by decide +kernel) ?_
  refine h _ (bu_ext (bu_put (k := 3) c2 2 l1) (fun x k _ => ?_))
  show (if x = 0 then (if k = 2 then some 1 else if k = 3 then some 2 else none) else if x = 2 then (if k < 8 then some (3 + k) else none) else none) = if x = 0 ∧ k = 3 then some 2 else if x = 1 + 1 ∧ k < 8 then some (1 + 2 + k) else if x = 0 ∧ k = 2 then some 1 else none
  by_cases a : x = 0
  · subst a
    by_cases b : k = 2
    · subst b; rfl
    · by_cases c : k = 3
      · subst c; rfl
      · rw [if_pos rfl, if_neg b, if_neg c, if_neg (fun q => c q.2), if_neg (fun q => absurd q.1 (by decide)), if_neg (fun q => b q.2)]
  · rw [if_neg a, if_neg (fun q : x = 0 ∧ k = 3 => a q.1), if_neg (fun q : x = 0 ∧ k = 2 => a q.1)]
    by_cases b : x = 2
    · subst b
      by_cases c : k < 8
      · rw [if_pos rfl, if_pos c, if_pos ⟨rfl, c⟩]
      · rw [if_pos rfl, if_neg c, if_neg (fun q => c q.2)]
    · rw [if_neg b, if_neg (fun q => b q.1)]
