-- ===== whole points =====
theorem uI_e (f : Nat → Nat → Int32) (p k : Nat) (v : Int32) (q j : Nat) : z_upI f p k v q j = if q = p ∧ j = k then v else f q j := by
  by_cases h : q = p
  · subst h
    by_cases h2 : j = k
    · subst h2; rw [uI_s, if_pos ⟨rfl, rfl⟩]
    · rw [uI_k h2, if_neg (fun q => h2 q.2)]
  · rw [uI_p h, if_neg (fun q => h q.1)]
theorem uJ_e (f : Nat → Nat → Int64) (p k : Nat) (v : Int64) (q j : Nat) : z_upJ f p k v q j = if q = p ∧ j = k then v else f q j := by
  by_cases h : q = p
  · subst h
    by_cases h2 : j = k
    · subst h2; rw [uJ_s, if_pos ⟨rfl, rfl⟩]
    · rw [uJ_k h2, if_neg (fun q => h2 q.2)]
  · rw [uJ_p h, if_neg (fun q => h q.1)]
def zPtT (h : Nat → Nat → Bool) : Nat → List (Nat × Nat)
  | 0 => []
  | t + 1 => zPtT h t ++ (if h (t / 7) (t % 7) then [(t / 7, t % 7)] else [])
theorem zPtT_len (h : Nat → Nat → Bool) : ∀ t, (zPtT h t).length ≤ t
  | 0 => Nat.le_refl 0
  | t + 1 => by
    have := zPtT_len h t
    unfold zPtT
    rw [List.length_append]
    split <;> simp <;> omega
theorem zPtT_in (h : Nat → Nat → Bool) : ∀ t (q : Nat × Nat), q ∈ zPtT h t → h q.1 q.2 = true ∧ 7 * q.1 + q.2 < t ∧ q.2 < 7
  | 0, q, hq => absurd hq List.not_mem_nil
  | t + 1, q, hq => by
    unfold zPtT at hq
    rcases List.mem_append.mp hq with hq | hq
    · have := zPtT_in h t q hq
      exact ⟨this.1, by omega, this.2.2⟩
    · split at hq
      · rename_i c
        rw [List.mem_singleton] at hq
        subst hq
        exact ⟨c, by have := Nat.div_add_mod t 7; omega, Nat.mod_lt _ (by decide)⟩
      · exact absurd hq List.not_mem_nil
def zWh (π : zPl) (out : Int32) (x y : Nat) : Bool := zHd π (nI x) (nI y) 1 out
/-- the whole points of a plan -/
def zPts (π : zPl) (out : Int32) : List (Nat × Nat) := zPtT (zWh π out) 49
def cPts (I : Nat → Nat → Int32) (L : List (Nat × Nat)) : Prop := I 264 0 = nI L.length ∧ ∀ (i : Nat) (q : Nat × Nat), L[i]? = some q → I 265 i = nI q.1 ∧ I 266 i = nI q.2
def mPts (I : Nat → Nat → Int32) (L : List (Nat × Nat)) : Prop := I 305 29 = nI L.length ∧ ∀ (i : Nat) (q : Nat × Nat), L[i]? = some q → I 316 (2 * i) = nI q.1 ∧ I 316 (2 * i + 1) = nI q.2
theorem cPl_fr {I I' : Nat → Nat → Int32} {J J' : Nat → Nat → Int64} {p : Nat} {π : zPl} (h : cPl I J p π) (h1 : I' p = I p) (h2 : I' (p + 1) = I (p + 1)) (h3 : ∀ i, i < π.2.2.1 → J' (p + 3 + i) = J (p + 3 + i)) : cPl I' J' p π := by
  obtain ⟨a, b, c, d⟩ := h
  exact ⟨by rw [h1]; exact a, by rw [h1]; exact b, fun j hj => by rw [h2]; exact c j hj, fun i hi j hj => by rw [h3 i hi]; exact d i hi j hj⟩
theorem mPl_fr {I I' : Nat → Nat → Int32} {a o : Nat} {π : zPl} (h : mPl I a o π) (h1 : I' a = I a) : mPl I' a o π := by
  obtain ⟨x, b, c, d⟩ := h
  exact ⟨by rw [h1]; exact x, by rw [h1]; exact b, fun j hj => by rw [h1]; exact c j hj, fun i hi j hj => by rw [h1]; exact d i hi j hj⟩
theorem cPts_push {I : Nat → Nat → Int32} {L : List (Nat × Nat)} {x y : Nat} (h : cPts I L) : cPts (z_upI (z_upI (z_upI I 265 L.length (nI x)) 266 L.length (nI y)) 264 0 (nI (L.length + 1))) (L ++ [(x, y)]) := by
  refine ⟨by rw [uI_s, List.length_append]; rfl, fun i q hq => ?_⟩
  rcases Nat.lt_or_ge i L.length with c | c
  · rw [List.getElem?_append_left c] at hq
    have hh := h.2 i q hq
    refine ⟨?_, ?_⟩
    · rw [uI_e, if_neg (by omega), uI_e, if_neg (by omega), uI_e, if_neg (by omega)]; exact hh.1
    · rw [uI_e, if_neg (by omega), uI_e, if_neg (by omega), uI_e, if_neg (by omega)]; exact hh.2
  · rw [List.getElem?_append_right c] at hq
    have e : i = L.length := by
      rcases Nat.lt_or_ge (i - L.length) 1 with z | z
      · omega
      · rw [List.getElem?_eq_none (by simpa using z)] at hq; cases hq
    subst e
    rw [Nat.sub_self] at hq
    cases hq
    refine ⟨?_, ?_⟩
    · rw [uI_e, if_neg (by omega), uI_e, if_neg (by omega), uI_e, if_pos (by omega)]
    · rw [uI_e, if_neg (by omega), uI_e, if_pos (by omega)]
theorem mPts_push {I : Nat → Nat → Int32} {L : List (Nat × Nat)} {x y : Nat} (h : mPts I L) : mPts (z_upI (z_upI (z_upI I 316 (2 * L.length) (nI x)) 316 (2 * L.length + 1) (nI y)) 305 29 (nI (L.length + 1))) (L ++ [(x, y)]) := by
  refine ⟨by rw [uI_s, List.length_append]; rfl, fun i q hq => ?_⟩
  rcases Nat.lt_or_ge i L.length with c | c
  · rw [List.getElem?_append_left c] at hq
    have hh := h.2 i q hq
    refine ⟨?_, ?_⟩
    · rw [uI_e, if_neg (by omega), uI_e, if_neg (by omega), uI_e, if_neg (by omega)]; exact hh.1
    · rw [uI_e, if_neg (by omega), uI_e, if_neg (by omega), uI_e, if_neg (by omega)]; exact hh.2
  · rw [List.getElem?_append_right c] at hq
    have e : i = L.length := by
      rcases Nat.lt_or_ge (i - L.length) 1 with z | z
      · omega
      · rw [List.getElem?_eq_none (by simpa using z)] at hq; cases hq
    subst e
    rw [Nat.sub_self] at hq
    cases hq
    refine ⟨?_, ?_⟩
    · rw [uI_e, if_neg (by omega), uI_e, if_neg (by omega), uI_e, if_pos (by omega)]
    · rw [uI_e, if_neg (by omega), uI_e, if_pos (by omega)]
theorem z_7xy {x y : Nat} (hy : y < 7) : (7 * x + y) / 7 = x ∧ (7 * x + y) % 7 = y := by omega
theorem c_gather {G : zG} (hG : zGok G) {k' : Nat} (hk : 4 ≤ k') {I : Nat → Nat → Int32} {J : Nat → Nat → Int64} {past : Nat → Nat} {Q : zRt} {π : zPl} {p : Nat} (hp : p = 1 ∨ p = 12) (hc : cPl I J p π) (h6 : π.1 ≤ 6) (out : Int32) (h : ∀ I', (∀ q, q ≠ 264 → q ≠ 265 → q ≠ 266 → I' q = I q) → cPts I' (zPts π out) → Q none (zK0, I', J, zR0 past)) : zCalls G k' yX10_gather [.ref 264, .ref p, .int out] (zK0, I, J, zR0 past) Q := by
  have outer : ∀ (rx x : Nat) (vx : Int32) (oy : Option Value) (I' : Nat → Nat → Int32), oy = none ∨ (∃ z, oy = some (.int z)) → vx = nI x → x + rx = 7 → (∀ q, q ≠ 264 → q ≠ 265 → q ≠ 266 → I' q = I q) → cPts I' (zPtT (zWh π out) (7 * x)) → aX10_gather G Q 7 [some (.ref 264), some (.ref p), some (.int out), some (.int vx), oy] [] (zK0, I', J, zR0 past) := by
    intro rx
    induction rx with
    | zero =>
      intro x vx oy I' _ ev hx hf hq
      subst ev
      have e : x = 7 := by omega
      subst e
      refine sgX10_gather hG [7, 16] 60 7 ?_
      refine And.intro (fun _ => ?_) (fun c => absurd (by decide) c)
      exact h I' hf hq
    | succ rx ihx =>
      have inner : ∀ (ry y x : Nat) (vx vy : Int32) (I' : Nat → Nat → Int32), vx = nI x → vy = nI y → x + (rx + 1) = 7 → y + ry = 7 → (∀ q, q ≠ 264 → q ≠ 265 → q ≠ 266 → I' q = I q) → cPts I' (zPtT (zWh π out) (7 * x + y)) → aX10_gather G Q 16 [some (.ref 264), some (.ref p), some (.int out), some (.int vx), some (.int vy)] [] (zK0, I', J, zR0 past) := by
        intro ry
        induction ry with
        | zero =>
          intro y x vx vy I' ex ev hx hy hf hq
          subst ev
          have e : y = 7 := by omega
          subst e
          refine sgX10_gather hG [7, 16] 60 16 ?_
          refine And.intro (fun _ => ?_) (fun c => absurd (by decide) c)
          exact ihx (x + 1) _ _ I' (Or.inr ⟨_, rfl⟩) (by rw [ex, nI_1]) (by omega) hf (by rw [show 7 * (x + 1) = 7 * x + 7 by omega]; exact hq)
        | succ ry ihy =>
          intro y x vx vy I' ex ev hx hy hf hq
          subst ex
          subst ev
          have hy7 : ¬ (7 : Int32) ≤ nI y := by rw [show (7 : Int32) = nI 7 from rfl, nI_leI (by omega) (by omega)]; omega
          have hlen := zPtT_len (zWh π out) (7 * x + y)
          have e0 := hq.1
          have hs0 : ¬ I' 264 0 < 0 := by rw [e0]; exact nI_pos (by omega)
          have hsz : ¬ Int32.ofNat 49 ≤ I' 264 0 := by
            rw [e0, show Int32.ofNat 49 = nI 49 from rfl, nI_leI (by omega) (by omega)]; omega
          have hp1 : p ≠ 264 ∧ p ≠ 265 ∧ p ≠ 266 ∧ p + 1 ≠ 264 ∧ p + 1 ≠ 265 ∧ p + 1 ≠ 266 := by omega
          have hc' : cPl I' J p π := cPl_fr hc (hf p hp1.1 hp1.2.1 hp1.2.2.1) (hf (p + 1) hp1.2.2.2.1 hp1.2.2.2.2.1 hp1.2.2.2.2.2) (fun _ _ => rfl)
          have hdm := z_7xy (x := x) (y := y) (by omega)
          have nxt : ∀ I'', (∀ q, q ≠ 264 → q ≠ 265 → q ≠ 266 → I'' q = I q) → cPts I'' (zPtT (zWh π out) (7 * x + y + 1)) → aX10_gather G Q 16 [some (.ref 264), some (.ref p), some (.int out), some (.int (nI x)), some (.int (nI y + 1))] [] (zK0, I'', J, zR0 past) := fun I'' hf2 hq2 => ihy (y + 1) x (nI x) _ I'' rfl (by rw [nI_1]) hx (by omega) hf2 hq2
          have hbeq : Nat.beq (zKd zK0 p).1 5 = true := by rcases hp with rfl | rfl <;> decide +kernel
          refine sgX10_gather hG [7, 16] 60 16 ?_
          refine And.intro (fun c => absurd c hy7) (fun _ => ?_)
          refine And.intro (fun c => absurd c hs0) (fun _ => ?_)
          refine And.intro (fun c => absurd c hsz) (fun _ => ?_)
          refine zB_in hbeq ?_
          refine c_holds hG (by decide) hp hc' h6 (nI x) (nI y) 1 out ?_
          refine And.intro (fun c => ?_) (fun c => ?_)
          · have c := (zb_eq0 _).mp c
            refine nxt I' hf ?_
            have e : zPtT (zWh π out) (7 * x + y + 1) = zPtT (zWh π out) (7 * x + y) := by
              show _ ++ _ = _
              rw [hdm.1, hdm.2, if_neg (by unfold zWh; rw [c]; decide), List.append_nil]
            rw [e]; exact hq
          · have c : zHd π (nI x) (nI y) 1 out = true := by
              cases z : zHd π (nI x) (nI y) 1 out with
              | true => rfl
              | false => exact absurd ((zb_eq0 _).mpr z) c
            have e : zPtT (zWh π out) (7 * x + y + 1) = zPtT (zWh π out) (7 * x + y) ++ [(x, y)] := by
              show _ ++ _ = _
              rw [hdm.1, hdm.2, if_pos (by unfold zWh; exact c)]
            refine And.intro (by rw [e0]; exact vp_in_nI (by omega) (by omega)) ?_
            refine And.intro (by rw [uI_p (by decide), e0]; exact vp_in_nI (by omega) (by omega)) ?_
            refine nxt _ (fun q q1 q2 q3 => ?_) ?_
            · rw [z_upI_ne q1, z_upI_ne q3, z_upI_ne q2]; exact hf q q1 q2 q3
            · rw [e]
              have k := cPts_push (x := x) (y := y) hq
              simp only [uI_p (show (264 : Nat) ≠ 265 by decide), uI_p (show (264 : Nat) ≠ 266 by decide), e0, nI_clamp (show (zPtT (zWh π out) (7 * x + y)).length < 2 ^ 31 by omega), nI_1]
              exact k
      intro x vx oy I' ho ev hx hf hq
      subst ev
      have hx7 : ¬ (7 : Int32) ≤ nI x := by rw [show (7 : Int32) = nI 7 from rfl, nI_leI (by omega) (by omega)]; omega
      refine sgX10_gather hG [7, 16] 60 7 ?_
      refine And.intro (fun c => absurd c hx7) (fun _ => ?_)
      exact inner 7 0 x (nI x) 0 I' rfl rfl hx (by omega) hf hq
  refine rnX10_gather hG hk 264 p out ?_
  refine sgX10_gather hG [7, 16] 60 0 ?_
  refine outer 7 0 0 none _ (Or.inl rfl) rfl (by omega) (fun q q1 _ _ => z_upI_ne q1) ⟨uI_s, fun i q hq => by simp [zPtT] at hq⟩
theorem m_layWholes {G : zG} (hG : zGok G) {k' : Nat} (hk : 5 ≤ k') {I : Nat → Nat → Int32} {J : Nat → Nat → Int64} {past : Nat → Nat} {Q : zRt} {π : zPl} (hm : mPl I 306 0 π) (h6 : π.1 ≤ 6) (h : ∀ I', (∀ q, q ≠ 305 → q ≠ 316 → I' q = I q) → (∀ j, j ≠ 29 → I' 305 j = I 305 j) → mPts I' (zPts π (-1)) → Q none (zK0, I', J, zR0 past)) : zCalls G k' yX12_layWholes [.ref 305] (zK0, I, J, zR0 past) Q := by
  have outer : ∀ (rx x : Nat) (vx : Int32) (oy : Option Value) (I' : Nat → Nat → Int32), oy = none ∨ (∃ z, oy = some (.int z)) → vx = nI x → x + rx = 7 → (∀ q, q ≠ 305 → q ≠ 316 → I' q = I q) → (∀ j, j ≠ 29 → I' 305 j = I 305 j) → mPts I' (zPtT (zWh π (-1)) (7 * x)) → aX12_layWholes G Q 7 [some (.ref 305), some (.int vx), oy] [] (zK0, I', J, zR0 past) := by
    intro rx
    induction rx with
    | zero =>
      intro x vx oy I' _ ev hx hf hg hq
      subst ev
      have e : x = 7 := by omega
      subst e
      refine sgX12_layWholes hG [7, 15] 60 7 ?_
      refine And.intro (fun _ => ?_) (fun c => absurd (by decide) c)
      exact h I' hf hg hq
    | succ rx ihx =>
      have inner : ∀ (ry y x : Nat) (vx vy : Int32) (I' : Nat → Nat → Int32), vx = nI x → vy = nI y → x + (rx + 1) = 7 → y + ry = 7 → (∀ q, q ≠ 305 → q ≠ 316 → I' q = I q) → (∀ j, j ≠ 29 → I' 305 j = I 305 j) → mPts I' (zPtT (zWh π (-1)) (7 * x + y)) → aX12_layWholes G Q 15 [some (.ref 305), some (.int vx), some (.int vy)] [] (zK0, I', J, zR0 past) := by
        intro ry
        induction ry with
        | zero =>
          intro y x vx vy I' ex ev hx hy hf hg hq
          subst ev
          have e : y = 7 := by omega
          subst e
          refine sgX12_layWholes hG [7, 15] 60 15 ?_
          refine And.intro (fun _ => ?_) (fun c => absurd (by decide) c)
          exact ihx (x + 1) _ _ I' (Or.inr ⟨_, rfl⟩) (by rw [ex, nI_1]) (by omega) hf hg (by rw [show 7 * (x + 1) = 7 * x + 7 by omega]; exact hq)
        | succ ry ihy =>
          intro y x vx vy I' ex ev hx hy hf hg hq
          subst ex
          subst ev
          have hy7 : ¬ (6 : Int32) < nI y := by rw [show (6 : Int32) = nI 6 from rfl, nI_ltI (by omega) (by omega)]; omega
          have hlen := zPtT_len (zWh π (-1)) (7 * x + y)
          have e0 := hq.1
          have hm' : mPl I' 306 0 π := mPl_fr hm (hf 306 (by decide) (by decide))
          have hdm := z_7xy (x := x) (y := y) (by omega)
          have nxt : ∀ I'', (∀ q, q ≠ 305 → q ≠ 316 → I'' q = I q) → (∀ j, j ≠ 29 → I'' 305 j = I 305 j) → mPts I'' (zPtT (zWh π (-1)) (7 * x + y + 1)) → aX12_layWholes G Q 15 [some (.ref 305), some (.int (nI x)), some (.int (nI y + 1))] [] (zK0, I'', J, zR0 past) := fun I'' hf2 hg2 hq2 => ihy (y + 1) x (nI x) _ I'' rfl (by rw [nI_1]) hx (by omega) hf2 hg2 hq2
          refine sgX12_layWholes hG [7, 15] 60 15 ?_
          refine And.intro (fun c => absurd c hy7) (fun _ => ?_)
          refine m_isWhole hG (by decide) hm' h6 (nI x) (nI y) ?_
          refine And.intro (fun c => ?_) (fun c => ?_)
          · have c : zHd π (nI x) (nI y) 1 (-1) = true := by
              cases z : zHd π (nI x) (nI y) 1 (-1) with
              | true => rfl
              | false => exact absurd ((zb_eq0 _).mpr z) c
            have e : zPtT (zWh π (-1)) (7 * x + y + 1) = zPtT (zWh π (-1)) (7 * x + y) ++ [(x, y)] := by
              show _ ++ _ = _
              rw [hdm.1, hdm.2, if_pos (by unfold zWh; exact c)]
            have i1 : (2 : Int32) * I' 305 29 = nI (2 * (zPtT (zWh π (-1)) (7 * x + y)).length) := by rw [e0, show (2 : Int32) = nI 2 from rfl, pk_mul]
            have i2 : (2 : Int32) * nI (zPtT (zWh π (-1)) (7 * x + y)).length = nI (2 * (zPtT (zWh π (-1)) (7 * x + y)).length) := by rw [show (2 : Int32) = nI 2 from rfl, pk_mul]
            refine And.intro (by rw [i1]; exact vp_in_nI (by omega) (by omega)) ?_
            refine And.intro (by rw [uI_p (by decide), i1, nI_1]; exact vp_in_nI (by omega) (by omega)) ?_
            refine nxt _ (fun q q1 q2 => ?_) (fun j hj => ?_) ?_
            · rw [z_upI_ne q1, z_upI_ne q2, z_upI_ne q2]; exact hf q q1 q2
            · rw [uI_k hj, uI_p (by decide), uI_p (by decide)]; exact hg j hj
            · rw [e]
              have k := mPts_push (x := x) (y := y) hq
              simp only [uI_p (show (305 : Nat) ≠ 316 by decide), e0, i2, nI_1, nI_clamp (show 2 * (zPtT (zWh π (-1)) (7 * x + y)).length < 2 ^ 31 by omega), nI_clamp (show 2 * (zPtT (zWh π (-1)) (7 * x + y)).length + 1 < 2 ^ 31 by omega)]
              exact k
          · have c := (zb_eq0 _).mp c
            refine nxt I' hf hg ?_
            have e : zPtT (zWh π (-1)) (7 * x + y + 1) = zPtT (zWh π (-1)) (7 * x + y) := by
              show _ ++ _ = _
              rw [hdm.1, hdm.2, if_neg (by unfold zWh; rw [c]; decide), List.append_nil]
            rw [e]; exact hq
      intro x vx oy I' ho ev hx hf hg hq
      subst ev
      have hx7 : ¬ (6 : Int32) < nI x := by rw [show (6 : Int32) = nI 6 from rfl, nI_ltI (by omega) (by omega)]; omega
      refine sgX12_layWholes hG [7, 15] 60 7 ?_
      refine And.intro (fun c => absurd c hx7) (fun _ => ?_)
      exact inner 7 0 x (nI x) 0 I' rfl rfl hx (by omega) hf hg hq
  refine rnX12_layWholes hG hk 305 ?_
  refine sgX12_layWholes hG [7, 15] 60 0 ?_
  refine outer 7 0 0 none _ (Or.inl rfl) rfl (by omega) (fun q q1 _ => z_upI_ne q1) (fun j hj => uI_k hj) ⟨uI_s, fun i q hq => by simp [zPtT] at hq⟩
