-- ===== rows told as a text =====
abbrev zRws : Type := Nat × (Nat → Int32)
def rwPut (A : zRws) (a b c : Int32) : zRws := (A.1 + 1, upd (upd (upd A.2 (3 * A.1) a) (3 * A.1 + 1) b) (3 * A.1 + 2) c)
def wRow : List Int32 := [43, 53, 120, 43, 53, 121, 60]
def rwFst (T : Nat → Int32) (p : Nat) : Nat := if T (p + 7) = 45 then p + 8 else p + 7
def rwTwo (T : Nat → Int32) (p : Nat) : Bool := dgt (T (rwFst T p + 1))
def rwVal (T : Nat → Int32) (p : Nat) : Int32 := if rwTwo T p then (T (rwFst T p) - 48) * 10 + T (rwFst T p + 1) - 48 else T (rwFst T p) - 48
def rwAft (T : Nat → Int32) (p : Nat) : Nat := if rwTwo T p then rwFst T p + 2 else rwFst T p + 1
def rwAdd (T : Nat → Int32) (p : Nat) (A : zRws) : zRws := rwPut A (sgn (T p) (T (p + 1) - 48)) (sgn (T (p + 3)) (T (p + 4) - 48)) (sgn (T (p + 7)) (rwVal T p))
def rwE (T : Nat → Int32) (p : Nat) : Option Nat := match mis T p wRow with
  | some e => some e
  | none => if dgt (T (rwFst T p)) then none else some (rwFst T p)
def rwGo (T : Nat → Int32) (tn : Nat) : Nat → Nat → zRws → Nat ⊕ zRws
  | 0, _, A => .inr A
  | r + 1, p, A => match rwE T p with
    | some e => .inl e
    | none => if rwAft T p = tn then .inr (rwAdd T p A) else if T (rwAft T p) = 59 ∧ r ≠ 0 then rwGo T tn r (rwAft T p + 1) (rwAdd T p A) else .inl (rwAft T p)
def rwP (tn : Nat) (tf : Nat → Int32) : Nat ⊕ zRws := if tn = 0 then .inr (0, fun _ => 0) else rwGo (tAt tn tf) tn 6 0 (0, fun _ => 0)
theorem mis_bd {T : Nat → Int32} : ∀ (ws : List Int32) (p e : Nat), mis T p ws = some e → p ≤ e ∧ e < p + ws.length
  | [], p, e, h => by cases h
  | w :: ws, p, e, h => by
    have h : (if fit (T p) w then mis T (p + 1) ws else some p) = some e := h
    rw [List.length_cons]
    split at h
    · have := mis_bd ws (p + 1) e h; omega
    · cases h; omega
theorem oI_m1 {o : Option Nat} (h : ∀ e, o = some e → e < 100) : oI o = -1 ↔ o = none := by
  cases o with
  | none => exact ⟨fun _ => rfl, fun _ => rfl⟩
  | some e => exact ⟨fun q => absurd q (nI_m1 (h e rfl)), fun q => by cases q⟩
theorem rwFst_b (T : Nat → Int32) (p : Nat) : p + 7 ≤ rwFst T p ∧ rwFst T p ≤ p + 8 := by unfold rwFst; split <;> omega
theorem rwAft_b (T : Nat → Int32) (p : Nat) : p + 8 ≤ rwAft T p ∧ rwAft T p ≤ p + 10 := by
  have := rwFst_b T p
  unfold rwAft; split <;> omega
theorem tAt_lt {tn : Nat} {tf : Nat → Int32} {p : Nat} {c : Int32} (hc : ¬ c = -1) (h : tAt tn tf p = c) : p < tn := by
  unfold tAt at h
  split at h
  · assumption
  · exact absurd h.symm hc
def rwR (o : Nat ⊕ zRws) : Int32 := match o with
  | .inl e => nI e
  | .inr _ => -1
def rwOk (I : Nat → Nat → Int32) (J : Nat → Nat → Int64) (o : Nat ⊕ zRws) : Prop := ∀ A, o = .inr A → cPl I J 12 (A.1, A.2, 0, fun _ _ => 0) ∧ A.1 ≤ 6
theorem c_readRows {G : zG} (hs : zSok G) (hG : zGok G) {k' : Nat} (hk : 8 ≤ k') {I : Nat → Nat → Int32} {J : Nat → Nat → Int64} {past : Nat → Nat} {Q : zRt} {tn : Nat} {tf : Nat → Int32} (ht : cTxt I tn tf) (h80 : tn ≤ 80) (h12 : I 12 1 = 0) (h : ∀ I', (∀ x, x ≠ 12 → x ≠ 13 → I' x = I x) → I' 12 1 = 0 → rwOk I' J (rwP tn tf) → Q (some (.int (rwR (rwP tn tf)))) (zK0, I', J, zR0 past)) : zCalls G k' yX8_readRows [.ref 126, .ref 12] (zK0, I, J, zR0 past) Q := by
  obtain ⟨T, eT⟩ : ∃ T, T = tAt tn tf := ⟨_, rfl⟩
  have loop : ∀ (r k p : Nat) (vk vp : Int32) (A : zRws) (o4 o5 o6 o7 o8 o9 o10 : Option Value) (I' : Nat → Nat → Int32), 0 < tn → vk = nI k → vp = nI p → k + r = 6 → p ≤ 80 → A.1 = k → (0 < r ∨ p = 0) → rwP tn tf = rwGo T tn r p A → (∀ x, x ≠ 12 → x ≠ 13 → I' x = I x) → cPl I' J 12 (A.1, A.2, 0, fun _ _ => 0) → aX8_readRows G Q 9 [some (.ref 126), some (.ref 12), some (.int vp), some (.int vk), o4, o5, o6, o7, o8, o9, o10] [] (zK0, I', J, zR0 past) := by
    intro r
    induction r with
    | zero =>
      intro k p vk vp A o4 o5 o6 o7 o8 o9 o10 I' h0 ek ep hk hp hA hr e f c
      subst ek
      have k6 : k = 6 := by omega
      subst k6
      refine sgX8_readRows hs hG [9] 60 9 ?_
      refine And.intro (fun _ => ?_) (fun q => absurd (by decide) q)
      have e : rwP tn tf = .inr A := e
      have k := h I' f c.2.1
      rw [e] at k
      exact k (fun B hB => by cases hB; exact ⟨c, by omega⟩)
    | succ r ih =>
      intro k p vk vp A o4 o5 o6 o7 o8 o9 o10 I' h0 ek ep hk hp hA _ e f c
      subst ek
      subst ep
      have ht' : cTxt I' tn tf := cTxt_fr ht (f 126 (by decide) (by decide)) (f 127 (by decide) (by decide))
      have bad : ∀ (x : Nat) (I' : Nat → Nat → Int32), x < 100 → (∀ x, x ≠ 12 → x ≠ 13 → I' x = I x) → I' 12 1 = 0 → rwP tn tf = .inl x → Q (some (.int (nI x))) (zK0, I', J, zR0 past) := by
        intro x I' _ f c e
        have k := h I' f c
        rw [e] at k
        exact k (fun B hB => by cases hB)
      have eg : rwGo T tn (r + 1) p A = match rwE T p with | some e => .inl e | none => if rwAft T p = tn then .inr (rwAdd T p A) else if T (rwAft T p) = 59 ∧ r ≠ 0 then rwGo T tn r (rwAft T p + 1) (rwAdd T p A) else .inl (rwAft T p) := rfl
      rw [eg] at e
      have bf := rwFst_b T p
      have ba := rwAft_b T p
      refine sgX8_readRows hs hG [9, 40] 60 9 ?_
      refine And.intro (fun q => absurd q (by rw [show (6 : Int32) = nI 6 from rfl, nI_leI (by omega) (by omega)]; omega)) (fun _ => ?_)
      refine And.intro (fun q => absurd q (by rw [ht'.1, show (0 : Int32) = nI 0 from rfl, nI_leI (by omega) (by omega)]; omega)) (fun _ => ?_)
      refine c_misfit hs hG (by decide) ht' h80 (p := p) (t := 0) (by omega) (by decide) rfl rfl ?_
      have ew : zBy.getD 0 [] = wRow := rfl
      rw [ew, ← eT]
      have mb : ∀ e, mis T p wRow = some e → e < 100 := fun e he => by
        have := mis_bd _ _ _ he
        have l7 : wRow.length = 7 := rfl
        omega
      refine And.intro (fun q => ?_) (fun q => ?_)
      rotate_left
      · rw [oI_m1 mb] at q
        obtain ⟨x, ex⟩ := Option.ne_none_iff_exists'.mp q
        have e2 : rwE T p = some x := by unfold rwE; rw [ex]
        rw [e2] at e
        rw [ex]
        exact bad x I' (mb x ex) f c.2.1 e
      rw [oI_m1 mb] at q
      have eE : rwE T p = if dgt (T (rwFst T p)) then none else some (rwFst T p) := by unfold rwE; rw [q]
      -- behind the number
      have z111 : ∀ (b : Bool) (d : Int32), b = decide (T (p + 7) = 45) → dgt (T (rwFst T p)) = true → d = (if rwTwo T p then 2 else 1) → ∀ (o8 o9 o10 : Option Value), aX8_readRows G Q 111 [some (.ref 126), some (.ref 12), some (.int (nI p)), some (.int (nI k)), some (.int (oI none)), some (.int (nI (p + 7))), some (.int (zb b)), some (.int (nI (rwFst T p))), o8, o9, o10] [.int d] (zK0, I', J, zR0 past) := by
        intro b d eb hd ed o8 o9 o10
        rw [hd, if_pos rfl] at eE
        rw [eE] at e
        have e : rwP tn tf = if rwAft T p = tn then .inr (rwAdd T p A) else if T (rwAft T p) = 59 ∧ r ≠ 0 then rwGo T tn r (rwAft T p + 1) (rwAdd T p A) else .inl (rwAft T p) := e
        have ea : nI (rwFst T p) + d = nI (rwAft T p) := by
          rw [ed]
          unfold rwAft
          split
          · rw [show (2 : Int32) = nI 2 from rfl, nI_add]
          · rw [show (1 : Int32) = nI 1 from rfl, nI_add]
        have z151 : ∀ (cv : Int32) (o8 o9 o10 : Option Value), o8 = some (.int d) → cv = sgn (T (p + 7)) (rwVal T p) → aX8_readRows G Q 151 [some (.ref 126), some (.ref 12), some (.int (nI p)), some (.int (nI k)), some (.int (oI none)), some (.int (nI (p + 7))), some (.int (zb b)), some (.int (nI (rwFst T p))), o8, some (.int (rwVal T p)), o10] [.int cv, .int (sgn (T (p + 3)) (T (p + 4) - 48)), .int (sgn (T p) (T (p + 1) - 48)), .ref 12] (zK0, I', J, zR0 past) := by
          intro cv o8 o9 o10 e8 ecv
          subst e8
          subst ecv
          refine sgX8_readRows hs hG [9, 161] 60 151 ?_
          refine c_append hG (by decide) (Or.inr rfl) c (by show A.1 < 6; omega) _ _ _ (fun I1 f1 c1 => ?_)
          have f2 : ∀ x, x ≠ 12 → x ≠ 13 → I1 x = I x := fun x x1 x2 => (f1 x x1 x2).trans (f x x1 x2)
          have c1 : cPl I1 J 12 ((rwAdd T p A).1, (rwAdd T p A).2, 0, fun _ _ => 0) := c1
          have ht1 : cTxt I1 tn tf := cTxt_fr ht (f2 126 (by decide) (by decide)) (f2 127 (by decide) (by decide))
          refine (show ∀ v10, v10 = nI (rwAft T p) → aX8_readRows G Q 161 [some (.ref 126), some (.ref 12), some (.int (nI p)), some (.int (nI k)), some (.int (oI none)), some (.int (nI (p + 7))), some (.int (zb b)), some (.int (nI (rwFst T p))), some (.int d), some (.int (rwVal T p)), some (.int v10)] [] (zK0, I1, J, zR0 past) from ?_) _ ea
          intro v10 e10
          subst e10
          refine sgX8_readRows hs hG [9] 60 161 ?_
          refine And.intro (fun x => ?_) (fun x => ?_)
          rotate_left
          · rw [ht1.1, nI_eq (by omega) (by omega)] at x
            rw [if_pos x] at e
            have k := h I1 f2 c1.2.1
            rw [e] at k
            exact k (fun B hB => by cases hB; exact ⟨c1, by show A.1 + 1 ≤ 6; omega⟩)
          rw [ht1.1, nI_eq (by omega) (by omega)] at x
          rw [if_neg x] at e
          have bad2 : rwP tn tf = .inl (rwAft T p) → Q (some (.int (nI (rwAft T p)))) (zK0, I1, J, zR0 past) := fun e => bad _ I1 (by omega) f2 c1.2.1 e
          refine c_sat hG (by decide) ht1 h80 (p := rwAft T p) (by omega) rfl ?_
          rw [← eT]
          refine And.intro (fun y => ?_) (fun y => ?_)
          · rw [if_neg (fun q => y q.1)] at e
            exact bad2 e
          · refine And.intro (fun w => ?_) (fun w => ?_)
            · rw [show (5 : Int32) = nI 5 from rfl, nI_eq (by omega) (by omega)] at w
              rw [if_pos ⟨y, by omega⟩] at e
              have lt := tAt_lt (tn := tn) (tf := tf) (c := 59) (by decide) (by rw [← eT]; exact y)
              exact ih (k + 1) (rwAft T p + 1) _ _ (rwAdd T p A) _ _ _ _ _ _ _ I1 h0 (by rw [nI_1]) (by rw [nI_1]) (by omega) (by omega) (by show A.1 + 1 = k + 1; omega) (Or.inl (by omega)) e f2 c1
            · rw [show (5 : Int32) = nI 5 from rfl, nI_eq (by omega) (by omega)] at w
              rw [if_neg (fun q => q.2 (by omega))] at e
              exact bad2 e
        have tail : ∀ (o9 : Option Value) (o8 : Option Value), o8 = some (.int d) → o9 = some (.int (rwVal T p)) → aX8_readRows G Q 123 [some (.ref 126), some (.ref 12), some (.int (nI p)), some (.int (nI k)), some (.int (oI none)), some (.int (nI (p + 7))), some (.int (zb b)), some (.int (nI (rwFst T p))), o8, o9, o10] [] (zK0, I', J, zR0 past) := by
          intro o9 o8 e8 e9
          subst e8
          subst e9
          refine sgX8_readRows hs hG [151] 60 123 ?_
          refine c_signed1 hG (by decide) ht' h80 (p := p) (by omega) rfl ?_
          refine c_signed1 hG (by decide) ht' h80 (p := p + 3) (by omega) (by rw [show (3 : Int32) = nI 3 from rfl, nI_add]) ?_
          rw [← eT]
          refine And.intro (fun x => ?_) (fun x => ?_)
          · have x := (zb_eq0 _).mp x
            rw [x] at eb
            exact z151 _ _ none _ rfl (by unfold sgn; rw [if_neg (of_decide_eq_false eb.symm)])
          · have x := z_nb1 (x := 0) x
            rw [x] at eb
            exact z151 _ _ none _ rfl (by unfold sgn; rw [if_pos (of_decide_eq_true eb.symm)])
        refine sgX8_readRows hs hG [123] 60 111 ?_
        cases w : rwTwo T p with
        | true =>
          rw [w, if_pos rfl] at ed
          subst ed
          refine c_number2 hG (by decide) ht' h80 (p := rwFst T p) (by omega) rfl ?_
          exact tail _ _ rfl (by unfold rwVal; rw [w, if_pos rfl, eT])
        | false =>
          rw [w, if_neg (by decide)] at ed
          subst ed
          refine c_number1 hG (by decide) ht' h80 (p := rwFst T p) (by omega) rfl ?_
          exact tail _ _ rfl (by unfold rwVal; rw [w, if_neg (by decide), eT])
      have z81 : ∀ (b : Bool) (v : Int32), b = decide (T (p + 7) = 45) → v = nI (rwFst T p) → ∀ (o7 o8 o9 o10 : Option Value), aX8_readRows G Q 81 [some (.ref 126), some (.ref 12), some (.int (nI p)), some (.int (nI k)), some (.int (oI none)), some (.int (nI (p + 7))), some (.int (zb b)), o7, o8, o9, o10] [.int v] (zK0, I', J, zR0 past) := by
        intro b v eb ev o7 o8 o9 o10
        subst ev
        refine sgX8_readRows hs hG [111] 60 81 ?_
        refine c_isDigit hG (by decide) ht' h80 (p := rwFst T p) (by omega) rfl ?_
        rw [← eT]
        refine And.intro (fun x => ?_) (fun x => ?_)
        rotate_left
        · rw [(zb_eq0 _).mp x, if_neg (by decide)] at eE
          rw [eE] at e
          exact bad _ I' (by omega) f c.2.1 e
        have x := z_nb1 (x := 0) x
        refine c_isDigit hG (by decide) ht' h80 (p := rwFst T p + 1) (by omega) (by rw [nI_1]) ?_
        rw [← eT]
        refine And.intro (fun y => ?_) (fun y => ?_)
        · exact z111 b 1 eb x (by rw [show rwTwo T p = false from (zb_eq0 _).mp y]; rfl) _ _ _
        · exact z111 b 2 eb x (by rw [show rwTwo T p = true from z_nb1 (x := 0) y]; rfl) _ _ _
      have z65 : ∀ (b : Bool), b = decide (T (p + 7) = 45) → ∀ (o6 o7 o8 o9 o10 : Option Value), aX8_readRows G Q 65 [some (.ref 126), some (.ref 12), some (.int (nI p)), some (.int (nI k)), some (.int (oI none)), some (.int (nI (p + 7))), o6, o7, o8, o9, o10] [.int (zb b)] (zK0, I', J, zR0 past) := by
        intro b eb o6 o7 o8 o9 o10
        refine sgX8_readRows hs hG [81] 60 65 ?_
        refine And.intro (fun x => ?_) (fun x => ?_)
        · have x := (zb_eq0 _).mp x
          refine z81 b _ eb ?_ _ _ _ _
          rw [x] at eb
          unfold rwFst
          rw [if_neg (of_decide_eq_false eb.symm)]
        · have x := z_nb1 (x := 0) x
          refine z81 b _ eb ?_ _ _ _ _
          rw [x] at eb
          unfold rwFst
          rw [if_pos (of_decide_eq_true eb.symm), nI_1]
      rw [q]
      refine sgX8_readRows hs hG [49] 60 40 ?_
      refine j_length hs hG (by decide) (t := 0) (by decide) rfl ?_
      have e7 : nI p + nI (zLn.getD 0 0) = nI (p + 7) := nI_add _ _
      refine (show ∀ v5, v5 = nI (p + 7) → aX8_readRows G Q 49 [some (.ref 126), some (.ref 12), some (.int (nI p)), some (.int (nI k)), some (.int (oI none)), some (.int v5), o6, o7, o8, o9, o10] [] (zK0, I', J, zR0 past) from ?_) _ e7
      intro v5 e5
      subst e5
      refine sgX8_readRows hs hG [65] 60 49 ?_
      refine c_sat hG (by decide) ht' h80 (p := p + 7) (by omega) rfl ?_
      rw [← eT]
      refine And.intro (fun x => ?_) (fun x => ?_)
      · exact z65 false (decide_eq_false x).symm _ _ _ _ _
      · exact z65 true (decide_eq_true x).symm _ _ _ _ _
  refine rnX8_readRows hG hk 126 12 ?_
  refine sgX8_readRows hs hG [9] 60 0 ?_
  have c0 : cPl (z_upI I 12 0 0) J 12 (0, (fun _ => 0), 0, fun _ _ => 0) := ⟨uI_s, by rw [uI_k (by decide)]; exact h12, fun j hj => absurd hj (Nat.not_lt_zero j), fun i hi => absurd hi (Nat.not_lt_zero i)⟩
  rcases Nat.eq_zero_or_pos tn with z | z
  · have ht0 : z_upI I 12 0 0 126 0 = nI 0 := by rw [uI_p (by decide), ht.1, z]
    have e : rwP tn tf = .inr (0, fun _ => 0) := by unfold rwP; rw [if_pos z]
    refine sgX8_readRows hs hG [] 60 9 ?_
    refine And.intro (fun q => absurd q (by decide)) (fun _ => ?_)
    refine And.intro (fun _ => ?_) (fun q => absurd (by rw [ht0]; decide) q)
    have k := h _ (fun x x1 _ => z_upI_ne x1) c0.2.1
    rw [e] at k
    exact k (fun B hB => by cases hB; exact ⟨c0, by decide⟩)
  · refine loop 6 0 0 0 0 (0, fun _ => 0) _ _ _ _ _ _ _ _ z rfl rfl rfl (by omega) rfl (Or.inr rfl) ?_ (fun x x1 _ => z_upI_ne x1) c0
    unfold rwP
    rw [if_neg (by omega), eT]
