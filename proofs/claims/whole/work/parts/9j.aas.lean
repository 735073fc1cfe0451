-- ===== storing into an array of objects =====
theorem at_as17 {G : zG} {R : Room} {own : String} {cc : ByteArray} {nL : Nat} {ret : Option FieldType} {F : List Frame → Array Value → State → State → Prop} {cs sl pc : Nat} (hd : decode cc pc = .ok (.aastore, 1)) {ls : zLs} {st : List Value} {σ : zSt} {v q n : Nat} {i : Int32} (hk : zKd σ.1 q = (17, n)) (hv : Nat.beq (zKd σ.1 v).1 3 = true) (hi : vp_in i n) (kk : zAt G R own cc nL ret F cs sl (pc + 1) ls st (σ.1, σ.2.1, σ.2.2.1, z_upR σ.2.2.2 q i.toNatClampNeg (some v))) : zAt G R own cc nL ret F cs sl pc ls (.ref v :: .int i :: .ref q :: st) σ := by
  obtain ⟨K, I, J, Q⟩ := σ
  have hk : zKd K q = (17, n) := hk
  have hg := zW_arr (G := G) (σ := (K, I, J, Q)) (p := q) hk (by decide) (by decide)
  intro p e s m args below meth c hE H locs lsR hw hS hl
  refine va_astq (r := (RX3, TX3, 5)) hE.1 hE.2.1 hE.2.2.2.2.2.2.2.1 hw.2 (zW_D hw.1) hS q 4 v 3 hg rfl (zW_obj (G := G) (σ := (K, I, J, Q)) (by decide) hv).1 rfl hi hd (fun H1 locs1 hP1 _ hS1 => ?_)
  have hset := zW_set (G := G) (σ := (K, I, J, Q)) (σ' := (K, I, J, z_upR Q q i.toNatClampNeg (some v))) (p := q) (e := .inl (zgY G 17, n, .inr (.inr (.inr (.inr (va_up (fun k => (Q q k).map (zAd G)) i.toNatClampNeg (some (zAd G v)))))))) rfl (fun x hx => ⟨rfl, rfl, z_upR_ne hx⟩) (by
    rw [show zKd (K, I, J, Q).1 q = (17, n) from hk]
    show _ = Sum.inl (zgY G 17, n, Sum.inr (Sum.inr (Sum.inr (Sum.inr (fun k => (z_upR Q q i.toNatClampNeg (some v) q k).map (zAd G))))))
    rw [z_upR_self]
    congr 7
    funext k
    by_cases hx : k = i.toNatClampNeg
    · subst hx; rw [va_up_self, va_up_self]; rfl
    · rw [va_up_ne _ _ hx, va_up_ne _ _ hx])
  have hP1 := hset ▸ hP1
  exact kk p e s m args below meth c hE H1 locs1 lsR ⟨hw.1, hP1⟩ hS1 hl
theorem at_as18 {G : zG} {R : Room} {own : String} {cc : ByteArray} {nL : Nat} {ret : Option FieldType} {F : List Frame → Array Value → State → State → Prop} {cs sl pc : Nat} (hd : decode cc pc = .ok (.aastore, 1)) {ls : zLs} {st : List Value} {σ : zSt} {v q n : Nat} {i : Int32} (hk : zKd σ.1 q = (18, n)) (hv : Nat.beq (zKd σ.1 v).1 5 = true) (hi : vp_in i n) (kk : zAt G R own cc nL ret F cs sl (pc + 1) ls st (σ.1, σ.2.1, σ.2.2.1, z_upR σ.2.2.2 q i.toNatClampNeg (some v))) : zAt G R own cc nL ret F cs sl pc ls (.ref v :: .int i :: .ref q :: st) σ := by
  obtain ⟨K, I, J, Q⟩ := σ
  have hk : zKd K q = (18, n) := hk
  have hg := zW_arr (G := G) (σ := (K, I, J, Q)) (p := q) hk (by decide) (by decide)
  intro p e s m args below meth c hE H locs lsR hw hS hl
  refine va_astq (r := (RX5, TX5, 4)) hE.1 hE.2.1 hE.2.2.2.2.2.2.2.1 hw.2 (zW_D hw.1) hS q 5 v 5 hg rfl (zW_obj (G := G) (σ := (K, I, J, Q)) (by decide) hv).1 rfl hi hd (fun H1 locs1 hP1 _ hS1 => ?_)
  have hset := zW_set (G := G) (σ := (K, I, J, Q)) (σ' := (K, I, J, z_upR Q q i.toNatClampNeg (some v))) (p := q) (e := .inl (zgY G 18, n, .inr (.inr (.inr (.inr (va_up (fun k => (Q q k).map (zAd G)) i.toNatClampNeg (some (zAd G v)))))))) rfl (fun x hx => ⟨rfl, rfl, z_upR_ne hx⟩) (by
    rw [show zKd (K, I, J, Q).1 q = (18, n) from hk]
    show _ = Sum.inl (zgY G 18, n, Sum.inr (Sum.inr (Sum.inr (Sum.inr (fun k => (z_upR Q q i.toNatClampNeg (some v) q k).map (zAd G))))))
    rw [z_upR_self]
    congr 7
    funext k
    by_cases hx : k = i.toNatClampNeg
    · subst hx; rw [va_up_self, va_up_self]; rfl
    · rw [va_up_ne _ _ hx, va_up_ne _ _ hx])
  have hP1 := hset ▸ hP1
  exact kk p e s m args below meth c hE H1 locs1 lsR ⟨hw.1, hP1⟩ hS1 hl
theorem at_as19 {G : zG} {R : Room} {own : String} {cc : ByteArray} {nL : Nat} {ret : Option FieldType} {F : List Frame → Array Value → State → State → Prop} {cs sl pc : Nat} (hd : decode cc pc = .ok (.aastore, 1)) {ls : zLs} {st : List Value} {σ : zSt} {v q n : Nat} {i : Int32} (hk : zKd σ.1 q = (19, n)) (hv : Nat.beq (zKd σ.1 v).1 9 = true) (hi : vp_in i n) (kk : zAt G R own cc nL ret F cs sl (pc + 1) ls st (σ.1, σ.2.1, σ.2.2.1, z_upR σ.2.2.2 q i.toNatClampNeg (some v))) : zAt G R own cc nL ret F cs sl pc ls (.ref v :: .int i :: .ref q :: st) σ := by
  obtain ⟨K, I, J, Q⟩ := σ
  have hk : zKd K q = (19, n) := hk
  have hg := zW_arr (G := G) (σ := (K, I, J, Q)) (p := q) hk (by decide) (by decide)
  intro p e s m args below meth c hE H locs lsR hw hS hl
  refine va_astq (r := (RX9, TX9, 3)) hE.1 hE.2.1 hE.2.2.2.2.2.2.2.1 hw.2 (zW_D hw.1) hS q 6 v 9 hg rfl (zW_obj (G := G) (σ := (K, I, J, Q)) (by decide) hv).1 rfl hi hd (fun H1 locs1 hP1 _ hS1 => ?_)
  have hset := zW_set (G := G) (σ := (K, I, J, Q)) (σ' := (K, I, J, z_upR Q q i.toNatClampNeg (some v))) (p := q) (e := .inl (zgY G 19, n, .inr (.inr (.inr (.inr (va_up (fun k => (Q q k).map (zAd G)) i.toNatClampNeg (some (zAd G v)))))))) rfl (fun x hx => ⟨rfl, rfl, z_upR_ne hx⟩) (by
    rw [show zKd (K, I, J, Q).1 q = (19, n) from hk]
    show _ = Sum.inl (zgY G 19, n, Sum.inr (Sum.inr (Sum.inr (Sum.inr (fun k => (z_upR Q q i.toNatClampNeg (some v) q k).map (zAd G))))))
    rw [z_upR_self]
    congr 7
    funext k
    by_cases hx : k = i.toNatClampNeg
    · subst hx; rw [va_up_self, va_up_self]; rfl
    · rw [va_up_ne _ _ hx, va_up_ne _ _ hx])
  have hP1 := hset ▸ hP1
  exact kk p e s m args below meth c hE H1 locs1 lsR ⟨hw.1, hP1⟩ hS1 hl
/-- .. as what a constructor makes: slot k of the place o + a -/
def rPutA (rel : Nat → Nat → Option Nat) (a k j : Nat) : Nat → Nat → Option Nat := fun x i => if x = a ∧ i = k then some j else rel x i
theorem bu_putA {kd : List (Nat × Nat)} {rel : Nat → Nat → Option Nat} {o q b k : Nat} {σ σ1 : zSt} (h : zBu kd rel o σ σ1) (a j : Nat) (eq : q = o + a) (e : b = o + j) : zBu kd (rPutA rel a k j) o σ (σ1.1, σ1.2.1, σ1.2.2.1, z_upR σ1.2.2.2 q k (some b)) := by
  subst e
  subst eq
  obtain ⟨h1, h2, h3⟩ := h
  refine ⟨h1, fun x hx => ⟨(h2 x hx).1, (h2 x hx).2.1, (z_upR_ne (by omega)).trans (h2 x hx).2.2⟩, fun x c d i => ⟨?_, (h3 x c d i).2⟩⟩
  have e := (h3 x c d i).1
  show z_upR σ1.2.2.2 (o + a) k (some (o + j)) x i = (rPutA rel a k j (x - o) i).map (· + o)
  unfold rPutA
  by_cases c : x = o + a
  · subst c
    rw [z_upR_self, Nat.add_sub_cancel_left]
    rw [Nat.add_sub_cancel_left] at e
    by_cases d : i = k
    · subst d
      rw [va_up_self, if_pos ⟨rfl, rfl⟩]
      show some (o + j) = some (j + o)
      rw [Nat.add_comm]
    · rw [va_up_ne _ _ d, if_neg (fun q => d q.2)]; exact e
  · rw [z_upR_ne c, if_neg (fun q => c (by omega))]; exact e
/-- the relation may be said otherwise, where it counts -/
theorem bu_ext {kd : List (Nat × Nat)} {rel rel2 : Nat → Nat → Option Nat} {o : Nat} {σ σ1 : zSt} (h : zBu kd rel o σ σ1) (hr : ∀ x k, x < 1 + kd.length → rel2 x k = rel x k) : zBu kd rel2 o σ σ1 := ⟨h.1, h.2.1, fun x a b k => ⟨by rw [hr _ _ (by omega)]; exact (h.2.2 x a b k).1, (h.2.2 x a b k).2⟩⟩
