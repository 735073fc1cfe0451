-- ===== the state of a new object =====
theorem zFw_v {G : zG} {b : Nat} : zVac G 0 (zFw G b) := fun _ _ _ _ h _ q => absurd q h
def pl0 : zPl := (0, fun _ => 0, 0, fun _ _ => 0)
def S0 : zS := (pl0, (0, fun _ => pl0), ((fun _ => false), fun _ => pl0), (0, fun _ => 0), (0, fun _ => 0))
theorem vPl_0 : vPl pl0 := ⟨⟨Nat.zero_le 6, fun k hk => absurd hk (Nat.not_lt_zero k)⟩, Nat.zero_le 8, fun i hi => absurd hi (Nat.not_lt_zero i)⟩
theorem vS_0 : vS S0 := ⟨vPl_0, ⟨Nat.zero_le 8, fun i hi => absurd hi (Nat.not_lt_zero i)⟩, fun i _ q => absurd (show false = true from q) (by decide), ⟨Nat.zero_le 80, fun j hj => absurd hj (Nat.not_lt_zero j)⟩, Nat.zero_le 40⟩
def past0 : Nat → Nat := fun i => 27 + 11 * i
theorem cSt_0 {I : Nat → Nat → Int32} {J : Nat → Nat → Int64} (h1 : I 1 0 = 0) (h2 : I 1 1 = 0) (h3 : I 25 0 = 0) (h4 : ∀ i, i < 2 → I 24 i = 0) (h5 : I 126 0 = 0) (h6 : I 128 0 = 0) (h7 : I 12 1 = 0) : cSt I J past0 S0 := by
  refine ⟨⟨h1, h2, fun j hj => absurd hj (Nat.not_lt_zero j), fun i hi => absurd hi (Nat.not_lt_zero i)⟩, ⟨h3, Nat.zero_le 8, fun i hi => ?_, fun i j hi hj e => ?_, fun i hi => absurd hi (Nat.not_lt_zero i)⟩, fun i hi => ⟨h4 i hi, fun q => absurd (show false = true from q) (by decide)⟩, ⟨h5, fun j hj => absurd hj (Nat.not_lt_zero j)⟩, h6, fun j hj => absurd hj (Nat.not_lt_zero j), h7⟩
  · match i, hi with
    | 0, _ => decide
    | 1, _ => decide
    | 2, _ => decide
    | 3, _ => decide
    | 4, _ => decide
    | 5, _ => decide
    | 6, _ => decide
    | 7, _ => decide
    | 8, _ => decide
  · have e : 27 + 11 * i = 27 + 11 * j := e
    omega
theorem mSt_0 {I : Nat → Nat → Int32} {J : Nat → Nat → Int64} (h1 : I 306 0 = 0) (h2 : I 306 19 = 0) (h3 : I 305 13 = 0) (h4 : ∀ i, i < 2 → I 319 i = 0) (h5 : I 305 2 = 0) (h6 : I 305 4 = 0) : mSt I J S0 :=
  ⟨⟨h1, h2, fun j hj => absurd hj (Nat.not_lt_zero j), fun i hi => absurd hi (Nat.not_lt_zero i)⟩, ⟨h3, fun i hi => absurd hi (Nat.not_lt_zero i)⟩, fun i hi => ⟨h4 i hi, fun q => absurd (show false = true from q) (by decide)⟩, ⟨h5, fun j hj => absurd hj (Nat.not_lt_zero j)⟩, h6, fun j hj => absurd hj (Nat.not_lt_zero j)⟩
