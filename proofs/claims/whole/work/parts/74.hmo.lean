-- ===== hull (model) =====
theorem m_turn {G : zG} (hG : zGok G) {k' : Nat} (hk : 1 ≤ k') {I : Nat → Nat → Int32} {J : Nat → Nat → Int64} {past : Nat → Nat} {Q : zRt} {L : List (Nat × Nat)} (hL : mPts I L) (bL : bdL L) {a b c : Nat} (ha : a < L.length) (hb : b < L.length) (hc : c < L.length) {A B C : Int32} (eA : A = nI a) (eB : B = nI b) (eC : C = nI c) (h : Q (some (.int (Int32.ofInt (trn (pv L) a b c)))) (zK0, I, J, zR0 past)) : zCalls G k' yX12_turn [.ref 305, .int A, .int B, .int C] (zK0, I, J, zR0 past) Q := by
  subst eA
  subst eB
  subst eC
  have h49 := bL.1
  obtain ⟨a1, a2⟩ := hL.2 a _ (zP0_at ha)
  obtain ⟨b1, b2⟩ := hL.2 b _ (zP0_at hb)
  obtain ⟨c1, c2⟩ := hL.2 c _ (zP0_at hc)
  have i1 : ∀ n, (2 : Int32) * nI n = nI (2 * n) := fun n => by rw [show (2 : Int32) = nI 2 from rfl, pk_mul]
  have i2 : ∀ n, (2 : Int32) * nI n + 1 = nI (2 * n + 1) := fun n => by rw [i1, nI_1]
  refine rnX12_turn hG hk 305 _ _ _ ?_
  refine sgX12_turn hG [] 90 0 ?_
  refine And.intro (by rw [i1]; exact vp_in_nI (by omega) (by omega)) ?_
  refine And.intro (by rw [i1]; exact vp_in_nI (by omega) (by omega)) ?_
  refine And.intro (by rw [i2]; exact vp_in_nI (by omega) (by omega)) ?_
  refine And.intro (by rw [i2]; exact vp_in_nI (by omega) (by omega)) ?_
  refine And.intro (by rw [i2]; exact vp_in_nI (by omega) (by omega)) ?_
  refine And.intro (by rw [i2]; exact vp_in_nI (by omega) (by omega)) ?_
  refine And.intro (by rw [i1]; exact vp_in_nI (by omega) (by omega)) ?_
  refine And.intro (by rw [i1]; exact vp_in_nI (by omega) (by omega)) ?_
  rw [← pv_trn, ← a1, ← a2, ← b1, ← b2, ← c1, ← c2] at h
  rw [i2, i2, i2, i1, i1, i1, nI_clamp (by omega), nI_clamp (by omega), nI_clamp (by omega), nI_clamp (by omega), nI_clamp (by omega), nI_clamp (by omega)]
  exact h
theorem pv_fr2 {L : List (Nat × Nat)} (a b : Nat) : (nI (zP0 L b).1 - nI (zP0 L a).1) * (nI (zP0 L b).1 - nI (zP0 L a).1) + (nI (zP0 L b).2 - nI (zP0 L a).2) * (nI (zP0 L b).2 - nI (zP0 L a).2) = Int32.ofInt (fr2 (pv L) a b) := by
  unfold fr2 vsb pv
  simp only [nI_I, ← Int32.ofInt_sub, ← Int32.ofInt_mul, ← Int32.ofInt_add]
theorem pv_fbd {L : List (Nat × Nat)} (bL : bdL L) {a b : Nat} (ha : a < L.length) (hb : b < L.length) : (fr2 (pv L) a b).natAbs ≤ 98 := by
  have a1 := bL.2 a _ (zP0_at ha)
  have b1 := bL.2 b _ (zP0_at hb)
  have x1 : (((zP0 L b).1 : Int) - ((zP0 L a).1 : Int)).natAbs ≤ 7 := by omega
  have x3 : (((zP0 L b).2 : Int) - ((zP0 L a).2 : Int)).natAbs ≤ 7 := by omega
  exact bd_add (bd_mul x1 x1) (bd_mul x3 x3)
theorem m_far {G : zG} (hG : zGok G) {k' : Nat} (hk : 1 ≤ k') {I : Nat → Nat → Int32} {J : Nat → Nat → Int64} {past : Nat → Nat} {Q : zRt} {L : List (Nat × Nat)} (hL : mPts I L) (bL : bdL L) {a b : Nat} (ha : a < L.length) (hb : b < L.length) {A B : Int32} (eA : A = nI a) (eB : B = nI b) (h : Q (some (.int (Int32.ofInt (fr2 (pv L) a b)))) (zK0, I, J, zR0 past)) : zCalls G k' yX12_far [.ref 305, .int A, .int B] (zK0, I, J, zR0 past) Q := by
  subst eA
  subst eB
  have h49 := bL.1
  obtain ⟨a1, a2⟩ := hL.2 a _ (zP0_at ha)
  obtain ⟨b1, b2⟩ := hL.2 b _ (zP0_at hb)
  have i1 : ∀ n, (2 : Int32) * nI n = nI (2 * n) := fun n => by rw [show (2 : Int32) = nI 2 from rfl, pk_mul]
  have i2 : ∀ n, (2 : Int32) * nI n + 1 = nI (2 * n + 1) := fun n => by rw [i1, nI_1]
  refine rnX12_far hG hk 305 _ _ ?_
  refine sgX12_far hG [] 90 0 ?_
  refine And.intro (by rw [i1]; exact vp_in_nI (by omega) (by omega)) ?_
  refine And.intro (by rw [i1]; exact vp_in_nI (by omega) (by omega)) ?_
  refine And.intro (by rw [i2]; exact vp_in_nI (by omega) (by omega)) ?_
  refine And.intro (by rw [i2]; exact vp_in_nI (by omega) (by omega)) ?_
  rw [← pv_fr2, ← a1, ← a2, ← b1, ← b2] at h
  rw [i2, i2, i1, i1, nI_clamp (by omega), nI_clamp (by omega), nI_clamp (by omega), nI_clamp (by omega)]
  exact h
theorem trn_sw (p : Nat → zVc) (a b c : Nat) : trn p a c b = -trn p a b c := by unfold trn crs; grind
theorem m_nextCorner {G : zG} (hG : zGok G) {k' : Nat} (hk : 2 ≤ k') {I : Nat → Nat → Int32} {J : Nat → Nat → Int64} {past : Nat → Nat} {Q : zRt} {L : List (Nat × Nat)} (hL : mPts I L) (bL : bdL L) {a b : Nat} (hs : hSt (pv L) L.length a b) {A : Int32} (eA : A = nI a) (h : Q (some (.int (nI b))) (zK0, I, J, zR0 past)) : zCalls G k' yX12_nextCorner [.ref 305, .int A] (zK0, I, J, zR0 past) Q := by
  subst eA
  have h49 := bL.1
  obtain ⟨hab, ha, hb, ho⟩ := hs
  have m1 : ∀ n, n < 49 → ¬ nI n = -1 := fun n hn => nI_m1 (by omega)
  -- best: none yet, any other one ahead of b, or b
  have loop : ∀ (r q : Nat) (v best : Int32) (o4 : Option Value), v = nI q → q + r = L.length → (best = -1 ∧ q ≤ b ∨ (∃ c, best = nI c ∧ c < q ∧ c ≠ a ∧ c ≠ b ∧ q ≤ b) ∨ (best = nI b ∧ b < q)) → aX12_nextCorner G Q 4 [some (.ref 305), some (.int (nI a)), some (.int best), some (.int v), o4] [] (zK0, I, J, zR0 past) := by
    intro r
    induction r with
    | zero =>
      intro q v best o4 ev hq hb'
      subst ev
      refine sgX12_nextCorner hG [4] 60 4 ?_
      refine And.intro (fun _ => ?_) (fun z => absurd (by rw [hL.1, nI_leI (by omega) (by omega)]; omega) z)
      rcases hb' with ⟨_, z⟩ | ⟨c, _, _, _, _, z⟩ | ⟨z, _⟩
      · omega
      · omega
      · rw [z]; exact h
    | succ r ih =>
      intro q v best o4 ev hq hb'
      subst ev
      have nx : ∀ (best' : Int32) (o4 : Option Value), (best' = -1 ∧ q + 1 ≤ b ∨ (∃ c, best' = nI c ∧ c < q + 1 ∧ c ≠ a ∧ c ≠ b ∧ q + 1 ≤ b) ∨ (best' = nI b ∧ b < q + 1)) → aX12_nextCorner G Q 4 [some (.ref 305), some (.int (nI a)), some (.int best'), some (.int (nI q + 1)), o4] [] (zK0, I, J, zR0 past) := fun best' o4 hb => ih (q + 1) _ best' o4 (by rw [nI_1]) (by omega) hb
      refine sgX12_nextCorner hG [4, 36, 68] 60 4 ?_
      refine And.intro (fun z => absurd z (by rw [hL.1, nI_leI (by omega) (by omega)]; omega)) (fun _ => ?_)
      refine And.intro (fun c => ?_) (fun c => ?_)
      rotate_left
      · rw [nI_eq (by omega) (by omega)] at c
        refine nx best o4 ?_
        rcases hb' with ⟨z1, z2⟩ | ⟨c1, z1, z2, z3, z4, z5⟩ | ⟨z1, z2⟩
        · exact Or.inl ⟨z1, by omega⟩
        · exact Or.inr (Or.inl ⟨c1, z1, by omega, z3, z4, by omega⟩)
        · exact Or.inr (Or.inr ⟨z1, by omega⟩)
      rw [nI_eq (by omega) (by omega)] at c
      have z68 : ∀ (o4 : Option Value), (q ≤ b) → aX12_nextCorner G Q 68 [some (.ref 305), some (.int (nI a)), some (.int best), some (.int (nI q)), o4] [] (zK0, I, J, zR0 past) := by
        intro o4 hqb
        refine sgX12_nextCorner hG [4] 60 68 ?_
        refine nx (nI q) o4 ?_
        rcases (show q = b ∨ q < b by omega) with z | z
        · exact Or.inr (Or.inr ⟨by rw [z], by omega⟩)
        · exact Or.inr (Or.inl ⟨q, rfl, by omega, by omega, by omega, by omega⟩)
      refine And.intro (fun d => ?_) (fun d => ?_)
      · -- a best is there
        obtain ⟨c1, e1, c2, c3, c4⟩ : ∃ c1, best = nI c1 ∧ c1 < L.length ∧ c1 < q ∧ c1 ≠ a := by
          rcases hb' with ⟨z1, z2⟩ | ⟨c1, z1, z2, z3, z4, z5⟩ | ⟨z1, z2⟩
          · exact absurd z1 d
          · exact ⟨c1, z1, by omega, z2, z3⟩
          · exact ⟨b, z1, hb, z2, fun q => hab q.symm⟩
        subst e1
        have tb := pv_tbd bL ha c2 (show q < L.length by omega)
        have f1 := pv_fbd bL ha (show q < L.length by omega)
        have f2 := pv_fbd bL ha c2
        have hb2 : (c1 ≠ b ∧ q ≤ b) ∨ (c1 = b ∧ b < q) := by
          rcases hb' with ⟨z1, z2⟩ | ⟨c5, z1, z2, z3, z4, z5⟩ | ⟨z1, z2⟩
          · exact absurd z1 d
          · rw [nI_eq (by omega) (by omega)] at z1; exact Or.inl ⟨by omega, z5⟩
          · rw [nI_eq (by omega) (by omega)] at z1; exact Or.inr ⟨z1, z2⟩
        refine m_turn hG (by decide) hL bL ha c2 (show q < L.length by omega) rfl rfl rfl ?_
        have z36 : aX12_nextCorner G Q 36 [some (.ref 305), some (.int (nI a)), some (.int (nI c1)), some (.int (nI q)), o4] [.int (Int32.ofInt (trn (pv L) a c1 q))] (zK0, I, J, zR0 past) := by
          have l0 : Int32.ofInt (trn (pv L) a c1 q) < 0 ↔ trn (pv L) a c1 q < 0 := by rw [show (0 : Int32) = Int32.ofInt 0 from rfl, iI_lt (by omega) (by decide)]
          have q0 : Int32.ofInt (trn (pv L) a c1 q) = 0 ↔ trn (pv L) a c1 q = 0 := by rw [show (0 : Int32) = Int32.ofInt 0 from rfl, iI_eq (by omega) (by decide)]
          have le := iI_le (a := fr2 (pv L) a q) (b := fr2 (pv L) a c1) (by omega) (by omega)
          refine sgX12_nextCorner hG [4, 68] 60 36 ?_
          refine And.intro (fun z => absurd z (m1 c1 (by omega))) (fun _ => ?_)
          have keep : ∀ (o4 : Option Value), ((c1 ≠ b ∧ q + 1 ≤ b) ∨ (c1 = b ∧ b < q)) → aX12_nextCorner G Q 4 [some (.ref 305), some (.int (nI a)), some (.int (nI c1)), some (.int (nI q + 1)), o4] [] (zK0, I, J, zR0 past) := by
            intro o4 hc
            refine nx (nI c1) o4 ?_
            rcases hc with ⟨z1, z2⟩ | ⟨z1, z2⟩
            · exact Or.inr (Or.inl ⟨c1, rfl, by omega, c4, z1, z2⟩)
            · exact Or.inr (Or.inr ⟨by rw [z1], by omega⟩)
          -- b wins over all others
          have win : q = b → c1 ≠ b → trn (pv L) a c1 q < 0 ∨ (trn (pv L) a c1 q = 0 ∧ fr2 (pv L) a c1 < fr2 (pv L) a q) := by
            intro e n
            subst e
            have k := ho c1 c2 c4 n
            rw [trn_sw] at k
            omega
          have stay : c1 = b → q ≠ b → ¬ trn (pv L) a c1 q < 0 ∧ (trn (pv L) a c1 q = 0 → fr2 (pv L) a q ≤ fr2 (pv L) a c1) := by
            intro e n
            subst e
            have k := ho q (by omega) c n
            refine ⟨by omega, fun z => by omega⟩
          refine And.intro (fun x => ?_) (fun x => ?_)
          · rw [l0] at x
            refine z68 _ ?_
            rcases hb2 with ⟨z1, z2⟩ | ⟨z1, z2⟩
            · exact z2
            · exact absurd x (stay z1 (by omega)).1
          · rw [l0] at x
            refine And.intro (fun y => ?_) (fun y => ?_)
            · rw [q0] at y
              refine keep _ ?_
              rcases hb2 with ⟨z1, z2⟩ | ⟨z1, z2⟩
              · rcases (show q = b ∨ q + 1 ≤ b by omega) with w | w
                · have := win w z1; omega
                · exact Or.inl ⟨z1, w⟩
              · exact Or.inr ⟨z1, z2⟩
            · rw [q0] at y
              refine m_far hG (by decide) hL bL ha (show q < L.length by omega) rfl rfl ?_
              refine m_far hG (by decide) hL bL ha c2 rfl rfl ?_
              refine And.intro (fun w => ?_) (fun w => ?_)
              · rw [le] at w
                refine keep _ ?_
                rcases hb2 with ⟨z1, z2⟩ | ⟨z1, z2⟩
                · rcases (show q = b ∨ q + 1 ≤ b by omega) with u | u
                  · have := win u z1; omega
                  · exact Or.inl ⟨z1, u⟩
                · exact Or.inr ⟨z1, z2⟩
              · rw [le] at w
                refine z68 _ ?_
                rcases hb2 with ⟨z1, z2⟩ | ⟨z1, z2⟩
                · exact z2
                · exact absurd ((stay z1 (by omega)).2 y) w
        exact z36
      · -- none yet
        have hqb : q ≤ b := by
          rcases hb' with ⟨_, z⟩ | ⟨_, _, _, _, _, z⟩ | ⟨z1, z2⟩
          · exact z
          · exact z
          · rw [z1] at d; exact absurd d (m1 b (by omega))
        refine sgX12_nextCorner hG [68] 60 36 ?_
        exact And.intro (fun _ => z68 _ hqb) (fun x => absurd d x)
  refine rnX12_nextCorner hG hk 305 _ ?_
  refine sgX12_nextCorner hG [4] 60 0 ?_
  exact loop L.length 0 0 (-1) none rfl (by omega) (Or.inl ⟨rfl, Nat.zero_le _⟩)
