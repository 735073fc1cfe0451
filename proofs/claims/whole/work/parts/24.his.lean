-- ===== what the class holds, as a value =====
def cHis (I : Nat → Nat → Int32) (J : Nat → Nat → Int64) (past : Nat → Nat) (hs : Nat) (Hf : Nat → zPl) : Prop := I 25 0 = nI hs ∧ hs ≤ 8 ∧ (∀ i, i < 9 → past i ∈ [27, 38, 49, 60, 71, 82, 93, 104, 115]) ∧ (∀ i j, i < 9 → j < 9 → past i = past j → i = j) ∧ ∀ i, i < hs → cPl I J (past i) (Hf i)
def cKep (I : Nat → Nat → Int32) (J : Nat → Nat → Int64) (kf : Nat → Bool) (kp : Nat → zPl) : Prop := ∀ i, i < 2 → I 24 i = zb (kf i) ∧ (kf i = true → cPl I J (271 + 11 * i) (kp i))
def cTxt (I : Nat → Nat → Int32) (tn : Nat) (tf : Nat → Int32) : Prop := I 126 0 = nI tn ∧ ∀ j, j < tn → I 127 j = tf j
def cNum (I : Nat → Nat → Int32) (J : Nat → Nat → Int64) (rn : Nat) (rf : Nat → Int64) : Prop := I 128 0 = nI rn ∧ (∀ j, j < rn → J 129 j = rf j) ∧ I 12 1 = 0
def vCt (g : Nat → Int32) : Prop := (∀ j, j < 15 → -1000000 ≤ (g j).toInt ∧ (g j).toInt ≤ 1000000) ∧ (¬ g 0 = 0 ∨ ¬ g 1 = 0) ∧ (g 3 = 0 ∨ g 3 = 1)
def vPl (π : zPl) : Prop := vRw π ∧ π.2.2.1 ≤ 8 ∧ ∀ i, i < π.2.2.1 → vCt (π.2.2.2 i)
theorem zS9_in {x : Nat} (h : x ∈ [27, 38, 49, 60, 71, 82, 93, 104, 115]) : x ∈ zPS ∧ 27 ≤ x ∧ x ≤ 115 := by
  simp only [List.mem_cons, List.not_mem_nil, or_false] at h
  rcases h with rfl | rfl | rfl | rfl | rfl | rfl | rfl | rfl | rfl <;> exact ⟨by decide, by decide, by decide⟩
theorem zS9_apart : ∀ p ∈ [27, 38, 49, 60, 71, 82, 93, 104, 115], ∀ q ∈ [27, 38, 49, 60, 71, 82, 93, 104, 115], p ≠ q → p + 11 ≤ q ∨ q + 11 ≤ p := by decide +kernel
theorem cPl_rg {I I' : Nat → Nat → Int32} {J J' : Nat → Nat → Int64} {p : Nat} {π : zPl} (h : cPl I J p π) (h8 : π.2.2.1 ≤ 8) (hf : ∀ x, p ≤ x → x < p + 11 → I' x = I x ∧ J' x = J x) : cPl I' J' p π :=
  cPl_fr h (hf p (by omega) (by omega)).1 (hf (p + 1) (by omega) (by omega)).1 (fun i hi => (hf (p + 3 + i) (by omega) (by omega)).2)
theorem cHis_fr {I I' : Nat → Nat → Int32} {J J' : Nat → Nat → Int64} {past : Nat → Nat} {hs : Nat} {Hf : Nat → zPl} (h : cHis I J past hs Hf) (hv : ∀ i, i < hs → (Hf i).2.2.1 ≤ 8) (hf : ∀ x, (x = 25 ∨ ∃ i, i < hs ∧ past i ≤ x ∧ x < past i + 11) → I' x = I x ∧ J' x = J x) : cHis I' J' past hs Hf := by
  obtain ⟨a, b, c, d, e⟩ := h
  exact ⟨by rw [(hf 25 (Or.inl rfl)).1]; exact a, b, c, d, fun i hi => cPl_rg (e i hi) (hv i hi) (fun x h1 h2 => hf x (Or.inr ⟨i, hi, h1, h2⟩))⟩
theorem cKep_fr {I I' : Nat → Nat → Int32} {J J' : Nat → Nat → Int64} {kf : Nat → Bool} {kp : Nat → zPl} (h : cKep I J kf kp) (hv : ∀ i, i < 2 → kf i = true → (kp i).2.2.1 ≤ 8) (hf : ∀ x, (x = 24 ∨ (271 ≤ x ∧ x < 293)) → I' x = I x ∧ J' x = J x) : cKep I' J' kf kp := by
  intro i hi
  obtain ⟨a, b⟩ := h i hi
  exact ⟨by rw [(hf 24 (Or.inl rfl)).1]; exact a, fun c => cPl_rg (b c) (hv i hi c) (fun x h1 h2 => hf x (Or.inr ⟨by omega, by omega⟩))⟩
theorem cTxt_fr {I I' : Nat → Nat → Int32} {tn : Nat} {tf : Nat → Int32} (h : cTxt I tn tf) (h1 : I' 126 = I 126) (h2 : I' 127 = I 127) : cTxt I' tn tf := ⟨by rw [h1]; exact h.1, fun j hj => by rw [h2]; exact h.2 j hj⟩
theorem cNum_fr {I I' : Nat → Nat → Int32} {J J' : Nat → Nat → Int64} {rn : Nat} {rf : Nat → Int64} (h : cNum I J rn rf) (h1 : I' 128 = I 128) (h2 : J' 129 = J 129) (h3 : I' 12 = I 12) : cNum I' J' rn rf := ⟨by rw [h1]; exact h.1, fun j hj => by rw [h2]; exact h.2.1 j hj, by rw [h3]; exact h.2.2⟩
-- ===== the history =====
theorem c_open {G : zG} (hG : zGok G) {k' : Nat} (hk : 4 ≤ k') {I : Nat → Nat → Int32} {J : Nat → Nat → Int64} {past : Nat → Nat} {Q : zRt} {π : zPl} {hs : Nat} {Hf : Nat → zPl} (hc : cPl I J 1 π) (h6 : π.1 ≤ 6) (h8 : π.2.2.1 ≤ 8) (hh : cHis I J past hs Hf) (h : ∀ I' J', (∀ x, x < past hs ∨ past hs + 11 ≤ x → I' x = I x ∧ J' x = J x) → cPl I' J' (past hs) π → Q none (zK0, I', J', zR0 past)) : zCalls G k' yX2_open [.ref 25, .ref 1] (zK0, I, J, zR0 past) Q := by
  obtain ⟨a, b, c, d, e⟩ := hh
  have hi := zS9_in (c hs (by omega))
  have en : (I 25 0).toNatClampNeg = hs := by rw [a, nI_clamp (by omega)]
  have hr : zR0 past 26 (I 25 0).toNatClampNeg = some (past hs) := by rw [en]; rfl
  have hb := (zPlc_of (past := past) hi.1).1
  refine rnX2_open hG hk 25 1 ?_
  refine sgX2_open hG [] 60 0 ?_
  have n0 : ¬ I 25 0 < 0 := by rw [a]; exact nI_pos (by omega)
  have n9 : ¬ Int32.ofNat 9 ≤ I 25 0 := by rw [a, show Int32.ofNat 9 = nI 9 from rfl, nI_leI (by omega) (by omega)]; omega
  refine And.intro (fun q => absurd q n0) (fun _ => ?_)
  refine And.intro (fun q => absurd q n9) (fun _ => ?_)
  refine And.intro (by rw [a]; exact vp_in_nI (by omega) (by omega)) ⟨past hs, hr, ?_⟩
  refine zB_in hb ?_
  exact c_copy hG (by decide) (past hs) 1 hi.1 (by decide) (by omega) hc h6 h8 (fun I' J' hf hq => h I' J' hf hq)
theorem zR0_up (past : Nat → Nat) (k v : Nat) : z_upR (zR0 past) 26 k (some v) = zR0 (va_up past k v) := by
  funext p j
  by_cases hp : p = 26
  · subst hp
    rw [z_upR_self]
    show va_up (fun j => some (past j)) k (some v) j = some (va_up past k v j)
    unfold va_up
    split <;> rfl
  · rw [z_upR_ne hp]
    have : Nat.beq p 26 = false := by
      cases h : Nat.beq p 26 with
      | false => rfl
      | true => exact absurd (Nat.eq_of_beq_eq_true h) hp
    rw [zR0_t this, zR0_t this]
def zRot (past : Nat → Nat) (i : Nat) : Nat := if i < 8 then past (i + 1) else if i = 8 then past 0 else past i
theorem c_close {G : zG} (hG : zGok G) {k' : Nat} (hk : 1 ≤ k') {I : Nat → Nat → Int32} {J : Nat → Nat → Int64} {past : Nat → Nat} {Q : zRt} {hs : Nat} (a : I 25 0 = nI hs) (b : hs ≤ 8) (hp9 : ∀ i, i < 9 → past i ∈ [27, 38, 49, 60, 71, 82, 93, 104, 115]) (h1 : hs < 8 → Q none (zK0, z_upI I 25 0 (nI (hs + 1)), J, zR0 past)) (h2 : hs = 8 → ∀ past', (∀ i, i < 9 → past' i = zRot past i) → Q none (zK0, I, J, zR0 past')) : zCalls G k' yX2_close [.ref 25] (zK0, I, J, zR0 past) Q := by
  have kd : ∀ x, x ∈ [27, 38, 49, 60, 71, 82, 93, 104, 115] → Nat.beq (zKd zK0 x).1 5 = true := fun x hx => (zPlc_of (past := past) (zS9_in hx).1).1
  have loop : hs = 8 → ∀ (r i : Nat) (v : Int32) (pa : Nat → Nat), v = nI i → i + r = 8 → (∀ j, j < 9 → pa j = if j < i then past (j + 1) else past j) → aX2_close G Q 29 [some (.ref 25), some (.ref (past 0)), some (.int v)] [] (zK0, I, J, zR0 pa) := by
    intro h8 r
    induction r with
    | zero =>
      intro i v pa ev hir hpa
      subst ev
      have e : i = 8 := by omega
      subst e
      have k := h2 h8 (va_up pa 8 (past 0)) (fun j hj => by
        unfold zRot
        by_cases x : j = 8
        · subst x; rw [va_up_self]; rfl
        · rw [va_up_ne2 x, hpa j hj, if_pos (by omega), if_pos (by omega)])
      rw [← zR0_up] at k
      refine sgX2_close hG [29] 60 29 ?_
      have c9 : Int32.ofNat 9 ≤ nI 8 + 1 := by decide
      refine And.intro (fun _ => ?_) (fun c => absurd c9 c)
      refine zB_in (kd _ (hp9 0 (by omega))) (And.intro (by unfold vp_in; decide) ?_)
      exact k
    | succ r ih =>
      intro i v pa ev hir hpa
      subst ev
      have en : (nI i).toNatClampNeg = i := nI_clamp (by omega)
      have en1 : (nI i + 1).toNatClampNeg = i + 1 := by rw [nI_1, nI_clamp (by omega)]
      have k := ih (i + 1) (nI i + 1) (va_up pa i (pa (i + 1))) (by rw [nI_1]) (by omega) (fun j hj => by
        by_cases x : j = i
        · subst x; rw [va_up_self, hpa (j + 1) (by omega), if_neg (by omega), if_pos (by omega)]
        · rw [va_up_ne2 x, hpa j hj]
          by_cases y : j < i
          · rw [if_pos y, if_pos (by omega)]
          · rw [if_neg y, if_neg (by omega)])
      rw [← zR0_up] at k
      have hm : pa (i + 1) ∈ [27, 38, 49, 60, 71, 82, 93, 104, 115] := by rw [hpa (i + 1) (by omega), if_neg (by omega)]; exact hp9 _ (by omega)
      refine sgX2_close hG [29] 60 29 ?_
      have c9 : ¬ Int32.ofNat 9 ≤ nI i + 1 := by rw [nI_1, show Int32.ofNat 9 = nI 9 from rfl, nI_leI (by omega) (by omega)]; omega
      refine And.intro (fun c => absurd c c9) (fun _ => ?_)
      refine And.intro (by rw [nI_1]; exact vp_in_nI (by omega) (by omega)) ⟨pa (i + 1), by rw [en1]; rfl, ?_⟩
      refine zB_in (kd _ hm) (And.intro (vp_in_nI (by omega) (by omega)) ?_)
      rw [en]
      exact k
  refine rnX2_close hG hk 25 ?_
  refine sgX2_close hG [29] 60 0 ?_
  refine And.intro (fun c => ?_) (fun c => ?_)
  · rw [a, show (8 : Int32) = nI 8 from rfl, nI_leI (by omega) (by omega)] at c
    refine And.intro (by unfold vp_in; decide) ⟨past 0, rfl, ?_⟩
    exact loop (by omega) 8 0 0 past rfl (by omega) (fun j _ => by rw [if_neg (Nat.not_lt_zero j)])
  · rw [a, show (8 : Int32) = nI 8 from rfl, nI_leI (by omega) (by omega)] at c
    have k := h1 (by omega)
    rw [← nI_1, ← a] at k
    exact k
