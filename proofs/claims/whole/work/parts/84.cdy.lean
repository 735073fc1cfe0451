-- ===== a day: its words =====
def aF (c : Int32) : Nat := if c = 98 then 1 else if c = 100 then 2 else if c = 115 then 3 else 4
def aLn (c : Int32) : Nat := zLn.getD (aF c) 0
def dyF (T : Nat → Int32) (tn : Nat) : Nat → Nat → Option Nat
  | 0, _ => none
  | r + 1, p => if p < tn then (match mis T p (zBy.getD (aF (T p)) []) with | some e => some e | none => dyF T tn r (p + aLn (T p))) else none
def dyA (T : Nat → Int32) (p : Nat) (π : zPl) : Int32 × zPl := if T p = 98 then sBec π (T (p + 1) - 48) (sgn (T (p + 2)) ((T (p + 3) - 48) * 10 + T (p + 4) - 48)) else if T p = 100 then sDrp π (T (p + 1) - 48) else if T p = 115 then sSto π (T (p + 1) - 48) (T (p + 2) - 48) (T (p + 3) - 48) else sClr π
def dyX (T : Nat → Int32) (tn : Nat) : Nat → Nat → zPl → Nat → zPl × Nat × Nat
  | 0, p, π, d => (π, d, p)
  | r + 1, p, π, d => if p < tn then (if 0 ≤ (dyA T p π).1 then dyX T tn r (p + aLn (T p)) (dyA T p π).2 (d + 1) else (π, d, p)) else (π, d, p)
def sDx (S : zS) : zPl × Nat × Nat := dyX (tAt S.2.2.2.1.1 S.2.2.2.1.2) S.2.2.2.1.1 80 0 S.1 0
def sDay (S : zS) : Int32 × zS := match dyF (tAt S.2.2.2.1.1 S.2.2.2.1.2) S.2.2.2.1.1 80 0 with
  | some e => (-1 - nI e, sTx0 S)
  | none => (nI (sDx S).2.1, sTel ((sDx S).1, (if 0 < (sDx S).2.1 then hPush S.2.1.1 S.2.1.2 S.1 else S.2.1), (sTx0 S).2.2) [lN (if (sDx S).2.2 < S.2.2.2.1.1 then 1 else 0)])
theorem dyA_v {T : Nat → Int32} {p : Nat} {π : zPl} (hv : vPl π) : vPl (dyA T p π).2 := by
  unfold dyA
  split
  · exact sBec_v hv
  · split
    · exact sDrp_v hv
    · split
      · exact sSto_v hv _ _ _
      · exact sClr_v hv
theorem dyA_no {T : Nat → Int32} {p : Nat} {π : zPl} (hv : vPl π) (h : ¬ 0 ≤ (dyA T p π).1) : (dyA T p π).2 = π := by
  unfold dyA at h ⊢
  split
  · rename_i c; rw [if_pos c] at h; exact sBec_no hv h
  · rename_i c
    rw [if_neg c] at h
    split
    · rename_i c; rw [if_pos c] at h; exact sDrp_no hv h
    · rename_i c
      rw [if_neg c] at h
      split
      · rename_i c; rw [if_pos c] at h; exact sSto_no hv h
      · rename_i c; rw [if_neg c] at h; exact absurd (sClr_pos hv) h
theorem dyX_v {T : Nat → Int32} {tn : Nat} : ∀ (r p d : Nat) (π : zPl), vPl π → vPl (dyX T tn r p π d).1 ∧ (dyX T tn r p π d).2.1 ≤ d + r
  | 0, p, d, π, h => ⟨h, Nat.le_refl _⟩
  | r + 1, p, d, π, h => by
    show vPl (if p < tn then (if 0 ≤ (dyA T p π).1 then dyX T tn r (p + aLn (T p)) (dyA T p π).2 (d + 1) else (π, d, p)) else (π, d, p)).1 ∧ (if p < tn then (if 0 ≤ (dyA T p π).1 then dyX T tn r (p + aLn (T p)) (dyA T p π).2 (d + 1) else (π, d, p)) else (π, d, p)).2.1 ≤ d + (r + 1)
    split
    · split
      · have := dyX_v (T := T) (tn := tn) r (p + aLn (T p)) (d + 1) _ (dyA_v (T := T) (p := p) h)
        exact ⟨this.1, by omega⟩
      · exact ⟨h, by show d ≤ _; omega⟩
    · exact ⟨h, by show d ≤ _; omega⟩
theorem aF_5 (c : Int32) : aF c < 5 ∧ 1 ≤ aLn c ∧ aLn c ≤ 5 := by
  have k : ∀ t, t < 5 → 1 ≤ zLn.getD t 0 ∧ (1 ≤ t → zLn.getD t 0 ≤ 5) := by decide
  have a : aF c < 5 ∧ 1 ≤ aF c := by unfold aF; split; omega; split; omega; split <;> omega
  exact ⟨a.1, (k _ a.1).1, (k _ a.1).2 a.2⟩
theorem dyF_b {T : Nat → Int32} {tn : Nat} (h80 : tn ≤ 80) : ∀ (r p e : Nat), dyF T tn r p = some e → e < 100
  | 0, p, e, h => by cases h
  | r + 1, p, e, h => by
    have h : (if p < tn then (match mis T p (zBy.getD (aF (T p)) []) with | some e => some e | none => dyF T tn r (p + aLn (T p))) else none) = some e := h
    split at h
    · split at h
      · rename_i x hx
        cases h
        have := mis_bd _ _ _ hx
        have l := zBy_l (aF (T p)) (aF_5 (T p)).1
        have l2 := (aF_5 (T p)).2.2
        unfold aLn at l2
        omega
      · exact dyF_b h80 r _ e h
    · cases h
-- ===== the class =====
theorem c_actForm {G : zG} (hs : zSok G) (hG : zGok G) {k' : Nat} (hk : 2 ≤ k') {I : Nat → Nat → Int32} {J : Nat → Nat → Int64} {past : Nat → Nat} {Q : zRt} {tn : Nat} {tf : Nat → Int32} (ht : cTxt I tn tf) (h80 : tn ≤ 80) {p : Nat} (hp : p < 900) {P : Int32} (eP : P = nI p) (h : Q (some (.ref (1000003 + aF (tAt tn tf p)))) (zK0, I, J, zR0 past)) : zCalls G k' yX8_actForm [.ref 126, .int P] (zK0, I, J, zR0 past) Q := by
  unfold aF at h
  refine rnX8_actForm hG hk 126 _ ?_
  refine sgX8_actForm hs hG [] 60 0 ?_
  refine c_sat hG (by decide) ht h80 (p := p) (by omega) eP ?_
  refine And.intro (fun c => ?_) (fun c => ?_)
  · rw [if_pos c] at h; exact h
  rw [if_neg c] at h
  refine And.intro (fun c => ?_) (fun c => ?_)
  · rw [if_pos c] at h; exact h
  rw [if_neg c] at h
  refine And.intro (fun c => ?_) (fun c => ?_)
  · rw [if_pos c] at h; exact h
  rw [if_neg c] at h
  exact h
theorem c_actLength {G : zG} (hs : zSok G) (hG : zGok G) {k' : Nat} (hk : 3 ≤ k') {I : Nat → Nat → Int32} {J : Nat → Nat → Int64} {past : Nat → Nat} {Q : zRt} {tn : Nat} {tf : Nat → Int32} (ht : cTxt I tn tf) (h80 : tn ≤ 80) {p : Nat} (hp : p < 900) {P : Int32} (eP : P = nI p) (h : Q (some (.int (nI (aLn (tAt tn tf p))))) (zK0, I, J, zR0 past)) : zCalls G k' yX8_actLength [.ref 126, .int P] (zK0, I, J, zR0 past) Q := by
  have a5 := (aF_5 (tAt tn tf p)).1
  obtain ⟨b1, b2, _⟩ := zBl a5
  refine rnX8_actLength hG hk 126 _ ?_
  refine sgX8_actLength hs hG [] 60 0 ?_
  refine c_actForm hs hG (by decide) ht h80 (p := p) (by omega) eP ?_
  refine zB_in b1 (zB_in b2 ?_)
  refine j_length hs hG (by decide) a5 rfl ?_
  exact h
theorem c_dayFault {G : zG} (hs : zSok G) (hG : zGok G) {k' : Nat} (hk : 8 ≤ k') {I : Nat → Nat → Int32} {J : Nat → Nat → Int64} {past : Nat → Nat} {Q : zRt} {tn : Nat} {tf : Nat → Int32} (ht : cTxt I tn tf) (h80 : tn ≤ 80) (h : Q (some (.int (oI (dyF (tAt tn tf) tn 80 0)))) (zK0, I, J, zR0 past)) : zCalls G k' yX8_dayFault [.ref 126] (zK0, I, J, zR0 past) Q := by
  obtain ⟨T, eT⟩ : ∃ T, T = tAt tn tf := ⟨_, rfl⟩
  rw [← eT] at h
  have loop : ∀ (r a p : Nat) (va vp : Int32) (o3 : Option Value), va = nI a → vp = nI p → a + r = 80 → p < 100 → Q (some (.int (oI (dyF T tn r p)))) (zK0, I, J, zR0 past) → aX8_dayFault G Q 4 [some (.ref 126), some (.int vp), some (.int va), o3] [] (zK0, I, J, zR0 past) := by
    intro r
    induction r with
    | zero =>
      intro a p va vp o3 ea ep ha hp h
      subst ea
      have e : a = 80 := by omega
      subst e
      refine sgX8_dayFault hG [4] 60 4 ?_
      refine And.intro (fun _ => ?_) (fun c => absurd (by decide) c)
      exact h
    | succ r ih =>
      intro a p va vp o3 ea ep ha hp h
      subst ea
      subst ep
      obtain ⟨a5, l1, l5⟩ := aF_5 (T p)
      have ed : dyF T tn (r + 1) p = if p < tn then (match mis T p (zBy.getD (aF (T p)) []) with | some e => some e | none => dyF T tn r (p + aLn (T p))) else none := rfl
      rw [ed] at h
      refine sgX8_dayFault hG [4] 60 4 ?_
      refine And.intro (fun c => absurd c (by rw [show (80 : Int32) = nI 80 from rfl, nI_leI (by omega) (by omega)]; omega)) (fun _ => ?_)
      refine And.intro (fun c => ?_) (fun c => ?_)
      · rw [ht.1, nI_leI (by omega) (by omega)] at c
        rw [if_neg (by omega)] at h
        exact h
      · rw [ht.1, nI_leI (by omega) (by omega)] at c
        rw [if_pos (by omega)] at h
        refine c_actForm hs hG (by decide) ht h80 (p := p) (by omega) rfl ?_
        rw [← eT]
        refine c_misfit hs hG (by decide) ht h80 (p := p) (t := aF (T p)) (by omega) a5 rfl rfl ?_
        rw [← eT]
        have mb : ∀ e, mis T p (zBy.getD (aF (T p)) []) = some e → e < 100 := fun e he => by
          have := mis_bd _ _ _ he
          have l := zBy_l (aF (T p)) a5
          unfold aLn at l5
          omega
        refine And.intro (fun d => ?_) (fun d => ?_)
        · rw [oI_m1 mb] at d
          rw [d] at h
          refine c_actLength hs hG (by decide) ht h80 (p := p) (by omega) rfl ?_
          rw [← eT]
          exact ih (a + 1) (p + aLn (T p)) _ _ _ (by rw [nI_1]) (by rw [nI_add]) (by omega) (by omega) h
        · rw [oI_m1 mb] at d
          obtain ⟨x, ex⟩ := Option.ne_none_iff_exists'.mp d
          rw [ex] at h ⊢
          exact h
  refine rnX8_dayFault hG hk 126 ?_
  refine sgX8_dayFault hG [4] 60 0 ?_
  exact loop 80 0 0 0 0 none rfl rfl rfl (by decide) h
/-- what an act of a day may touch -/
def cDx (I : Nat → Nat → Int32) (J : Nat → Nat → Int64) (I' : Nat → Nat → Int32) (J' : Nat → Nat → Int64) : Prop := ∀ x, (12 ≤ x ∧ x < 132) ∨ x = 0 ∨ x = 261 ∨ 264 ≤ x → I' x = I x ∧ J' x = J x
theorem c_act {G : zG} (hG : zGok G) {k' : Nat} (hk : 8 ≤ k') {I : Nat → Nat → Int32} {J : Nat → Nat → Int64} {past : Nat → Nat} {Q : zRt} {tn : Nat} {tf : Nat → Int32} (ht : cTxt I tn tf) (h80 : tn ≤ 80) {π : zPl} (hc : cPl I J 1 π) (hv : vPl π) {p : Nat} (hp : p < 700) {P : Int32} (eP : P = nI p) (h : ∀ I' J', cDx I J I' J' → cPl I' J' 1 (dyA (tAt tn tf) p π).2 → Q (some (.int (dyA (tAt tn tf) p π).1)) (zK0, I', J', zR0 past)) : zCalls G k' yX11_act [.ref 0, .int P] (zK0, I, J, zR0 past) Q := by
  have h6 := hv.1.1
  have n1 : P + 1 = nI (p + 1) := by rw [eP, nI_1]
  have n2 : P + 2 = nI (p + 2) := by rw [eP, show (2 : Int32) = nI 2 from rfl, nI_add]
  have n3 : P + 3 = nI (p + 3) := by rw [eP, show (3 : Int32) = nI 3 from rfl, nI_add]
  unfold dyA at h
  refine rnX11_act hG hk 0 _ ?_
  refine sgX11_act hG [] 60 0 ?_
  refine c_sat hG (by decide) ht h80 (p := p) (by omega) eP ?_
  refine And.intro (fun c => ?_) (fun c => ?_)
  · rw [if_pos c] at h
    refine c_number1 hG (by decide) ht h80 (p := p + 1) (by omega) n1 ?_
    refine c_signed2 hG (by decide) ht h80 (p := p + 2) (by omega) n2 ?_
    refine c_changeBound hG (by decide) (Or.inl rfl) hc h6 _ _ (fun I1 f1 c1 => ?_)
    exact h I1 J (fun x hx => ⟨f1 x (by omega), rfl⟩) c1
  rw [if_neg c] at h
  refine And.intro (fun c => ?_) (fun c => ?_)
  · rw [if_pos c] at h
    refine c_number1 hG (by decide) ht h80 (p := p + 1) (by omega) n1 ?_
    refine c_dropRow hG (by decide) (Or.inl rfl) hc h6 _ (fun I1 f1 c1 => ?_)
    exact h I1 J (fun x hx => ⟨f1 x (by omega) (by omega), rfl⟩) c1
  rw [if_neg c] at h
  refine And.intro (fun c => ?_) (fun c => ?_)
  · rw [if_pos c] at h
    refine c_number1 hG (by decide) ht h80 (p := p + 1) (by omega) n1 ?_
    refine c_number1 hG (by decide) ht h80 (p := p + 2) (by omega) n2 ?_
    refine c_number1 hG (by decide) ht h80 (p := p + 3) (by omega) n3 ?_
    refine c_findCut hG (by decide) hc hv _ _ _ (fun I1 J1 f1 q1 => ?_)
    have hc1 : cPl I1 J1 1 π := cPl_rg hc hv.2.1 (fun x a b => f1 x (by omega))
    refine c_storeFound hG (by decide) hc1 hv q1 (fun I2 J2 f2 g2 c2 => ?_)
    exact h I2 J2 (fun x hx => ⟨(f2 x (by omega)).trans (f1 x (by omega)).1, (g2 x (by omega)).trans (f1 x (by omega)).2⟩) c2
  rw [if_neg c] at h
  refine c_dropCuts hG (by decide) hc (fun I1 f1 c1 => ?_)
  exact h I1 J (fun x hx => ⟨f1 x (by omega), rfl⟩) c1
