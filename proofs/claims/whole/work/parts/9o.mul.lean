-- ===== an array of arrays, at once =====
def zMA (G : zG) : Prop := ∀ s : State, zgP G s s.heap → ∃ kA : Class, s.vm.classes[zgY G 20]? = some kA ∧ kA.kind = .array (zgY G 15) (.array .long)
theorem zWd_push {G : zG} {σ : zSt} {H : Heap} {cell : Cell} {tag n : Nat} (h13 : ¬ tag < 13) (h1 : σ.1.length < 1000000) (hw : zWd G σ H) (hz : H.size = zgB G + σ.1.length) (hc : cell = vp_cell (zgY G tag) (zArr G (zNw σ (tag, n)) σ.1.length tag n)) : zWd G (zNw σ (tag, n)) (H.push cell) := by
  refine ⟨by show (σ.1 ++ [(tag, n)]).length ≤ 1000000; rw [List.length_append]; exact h1, ?_⟩
  rw [zW_nw, show zCell G (zNw σ (tag, n)) σ.1.length (tag, n) = Sum.inl (zgY G tag, zArr G (zNw σ (tag, n)) σ.1.length tag n) from if_neg h13]
  refine va_P.app (hw.2.kept (fun k x hx => ?_)) (fun k x hx => ?_)
  · have a1 : x.1 < H.size := vx_lt hw.2 hx
    rw [Array.getElem?_push, if_neg (Nat.ne_of_lt a1)]
  · have hk : k < 1 := (List.getElem?_eq_some_iff.mp hx).1
    rw [show k = 0 by omega] at hx
    cases hx
    show (H.push cell)[zAd G σ.1.length]? = some (vp_cell _ _)
    rw [zAd_lt h1, ← hz, Array.getElem?_push_size, hc]
theorem zWd_row {G : zG} {σ : zSt} {H H1 : Heap} {q i v n : Nat} (hk : zKd σ.1 q = (20, n)) (hw : zWd G σ H) (e : H1[zAd G q]? = some ((vp_cell (zgY G 20) (zArr G σ q 20 n)).setSlot i (.ref (zAd G v)))) (oq : ∀ x : Nat, x ≠ zAd G q → H1[x]? = H[x]?) : zWd G (σ.1, σ.2.1, σ.2.2.1, z_upR σ.2.2.2 q i (some v)) H1 := by
  obtain ⟨K, I, J, Q⟩ := σ
  have hk : zKd K q = (20, n) := hk
  have hg := zW_arr (G := G) (σ := (K, I, J, Q)) (p := q) hk (by decide) (by decide)
  have hset := zW_set (G := G) (σ := (K, I, J, Q)) (σ' := (K, I, J, z_upR Q q i (some v))) (p := q) (e := .inl (zgY G 20, n, .inr (.inr (.inr (.inr (va_up (fun k => (Q q k).map (zAd G)) i (some (zAd G v)))))))) rfl (fun x hx => ⟨rfl, rfl, z_upR_ne hx⟩) (by
    rw [show zKd (K, I, J, Q).1 q = (20, n) from hk]
    show _ = Sum.inl (zgY G 20, n, Sum.inr (Sum.inr (Sum.inr (Sum.inr (fun k => (z_upR Q q i (some v) q k).map (zAd G))))))
    rw [z_upR_self]
    congr 7
    funext k
    by_cases hx : k = i
    · subst hx; rw [va_up_self, va_up_self]; rfl
    · rw [va_up_ne _ _ hx, va_up_ne _ _ hx])
  refine ⟨hw.1, ?_⟩
  show va_P (zgD G) vwCl (zW G (K, I, J, z_upR Q q i (some v))) H1
  rw [← hset]
  refine hw.2.set (zW_D hw.1) hg ?_ oq
  show H1[zAd G q]? = some (vp_cell _ _)
  rw [e]
  show some ((vp_cell (zgY G 20) (n, Sum.inr (Sum.inr (Sum.inr (Sum.inr (fun k => (Q q k).map (zAd G))))))).setSlot i _) = _
  rw [vp_cell_q, vp_cell_q, arrV_store]
  congr 2
  funext k
  by_cases hx : k = i
  · subst hx
    simp [updV, va_up, va_rf]
  · simp [updV, va_up, hx]
/-- what lies there after i rows -/
def mnS (σ : zSt) : Nat → zSt
  | 0 => zNw σ (20, 8)
  | i + 1 => ((zNw (mnS σ i) (15, 15)).1, (zNw (mnS σ i) (15, 15)).2.1, (zNw (mnS σ i) (15, 15)).2.2.1, z_upR (zNw (mnS σ i) (15, 15)).2.2.2 σ.1.length i (some (mnS σ i).1.length))
theorem mnS_len (σ : zSt) : ∀ i, (mnS σ i).1.length = σ.1.length + 1 + i
  | 0 => by show (σ.1 ++ [_]).length = _; rw [List.length_append]; rfl
  | i + 1 => by show ((mnS σ i).1 ++ [_]).length = _; rw [List.length_append, mnS_len σ i]; rfl
theorem mnS_kd (σ : zSt) : ∀ i, zKd (mnS σ i).1 σ.1.length = (20, 8)
  | 0 => zKd_r
  | i + 1 => by
    show zKd ((mnS σ i).1 ++ [_]) _ = _
    rw [zKd_l (by rw [mnS_len]; omega)]
    exact mnS_kd σ i
theorem mn_loop {E : CtlPost} {e : Env} {f : Nat → PUnit → Sem (ForInStep PUnit)} {V : Nat → State → Prop} (N : Nat) (hs : ∀ (i : Nat) (S : State) (d : Bool) (acts : List Action) (Q : ForInStep PUnit → Pre), i < N → V i S → (∀ S' d' acts', V (i + 1) S' → Q (.yield PUnit.unit) d' acts' S') → wp (f i PUnit.unit) Q E e d acts S) : ∀ (r i : Nat), i + r = N → ∀ (S : State) (d : Bool) (acts : List Action) (Q : PUnit → Pre), V i S → (∀ S' d' acts', V N S' → Q PUnit.unit d' acts' S') → wp (forIn (List.range' i r) PUnit.unit f) Q E e d acts S
  | 0, i, h, S, d, acts, Q, hv, hq => by
    rw [show List.range' i 0 = [] from rfl]
    simp only [List.forIn_nil, wp_pure']
    exact hq _ _ _ ((show i = N from h) ▸ hv)
  | r + 1, i, h, S, d, acts, Q, hv, hq => by
    rw [List.range'_succ]
    simp only [List.forIn_cons, wp_bind']
    exact hs i S d acts _ (by omega) hv (fun S' d' acts' hv' => mn_loop N hs r (i + 1) (by omega) S' d' acts' Q hv' hq)
/-- one instruction, the end not named ahead -/
theorem zInstr {tb : Tables} [Ours tb] {e : Env} {below : List Frame} {s : State} {f : JFrame} {c : Code} {P : State → Prop} {i : Instr} {len : Nat} (h : At s f.method c below) (hd : decode c.code f.pc = .ok (i, len)) (hw : wpRun (tb.exec i) (fun _ s1 _ => ∀ acts, ∃ t, Steps tb e below (afterInstr e len (.ok () s1 acts)).1 t ∧ P t) (fun _ _ _ => False) e (s.setTop f)) : ∃ t, Steps tb e below (s.setTop f) t ∧ P t := by
  have hw := (wpRun_iff_run _ _ _ _ _).mp hw
  have k : ∃ t, Steps tb e below (stepThread tb e (s.setTop f)).1 t ∧ P t := by
    rw [stepThread_java (State.frames_setTop' f h.top) h.plain h.code hd]
    cases hr : (tb.exec i).run e (s.setTop f) with
    | ok a s1 acts => rw [hr] at hw; exact hw acts
    | ctl x s1 acts => rw [hr] at hw; cases x <;> exact hw.elim
  obtain ⟨t, a, b⟩ := k
  exact ⟨t, Steps.head ⟨h.running, by rw [State.curStatus?_setTop]; exact h.runnable, by rw [State.alone_setTop]; exact h.alone⟩ (h.within f) a, b⟩
