-- ===== the whole state, as a value =====
abbrev zS : Type := zPl × (Nat × (Nat → zPl)) × ((Nat → Bool) × (Nat → zPl)) × (Nat × (Nat → Int32)) × (Nat × (Nat → Int64))
def cSt (I : Nat → Nat → Int32) (J : Nat → Nat → Int64) (past : Nat → Nat) (S : zS) : Prop := cPl I J 1 S.1 ∧ cHis I J past S.2.1.1 S.2.1.2 ∧ cKep I J S.2.2.1.1 S.2.2.1.2 ∧ cTxt I S.2.2.2.1.1 S.2.2.2.1.2 ∧ cNum I J S.2.2.2.2.1 S.2.2.2.2.2
def vS (S : zS) : Prop := vPl S.1 ∧ (S.2.1.1 ≤ 8 ∧ ∀ i, i < S.2.1.1 → vPl (S.2.1.2 i)) ∧ (∀ i, i < 2 → S.2.2.1.1 i = true → vPl (S.2.2.1.2 i)) ∧ (S.2.2.2.1.1 ≤ 80 ∧ ∀ j, j < S.2.2.2.1.1 → ∃ n, n < 256 ∧ S.2.2.2.1.2 j = nI n) ∧ S.2.2.2.2.1 ≤ 40
def hPush (hn : Nat) (Hf : Nat → zPl) (π : zPl) : Nat × (Nat → zPl) := if hn < 8 then (hn + 1, va_up Hf hn π) else (8, fun i => if i < 7 then Hf (i + 1) else π)
/-- a change that may be refused: what was ahead of it is kept -/
def sChg (S : zS) (r : Int32 × zPl) : zS := if 0 ≤ r.1 then (r.2, hPush S.2.1.1 S.2.1.2 S.1, S.2.2) else S
/-- nothing of the model's changes -/
def cFr (I : Nat → Nat → Int32) (J : Nat → Nat → Int64) (I' : Nat → Nat → Int32) (J' : Nat → Nat → Int64) : Prop := ∀ x, 305 ≤ x → I' x = I x ∧ J' x = J x
theorem c_noted {G : zG} (hG : zGok G) {k' : Nat} (hk : 2 ≤ k') {I : Nat → Nat → Int32} {J : Nat → Nat → Int64} {past : Nat → Nat} {Q : zRt} {π : zPl} {hs : Nat} {Hf : Nat → zPl} (a : Int32) (hh : cHis I J past hs Hf) (hπ : cPl I J (past hs) π) (hv : ∀ i, i < hs → (Hf i).2.2.1 ≤ 8) (h8 : π.2.2.1 ≤ 8) (h1 : ¬ 0 ≤ a → Q (some (.int a)) (zK0, I, J, zR0 past)) (h2 : 0 ≤ a → ∀ I' past', (∀ x, x ≠ 25 → I' x = I x) → cHis I' J past' (hPush hs Hf π).1 (hPush hs Hf π).2 → Q (some (.int a)) (zK0, I', J, zR0 past')) : zCalls G k' yX11_noted [.ref 0, .int a] (zK0, I, J, zR0 past) Q := by
  obtain ⟨e0, hb, hc, hd, he⟩ := hh
  refine rnX11_noted hG hk 0 a ?_
  refine sgX11_noted hG [] 60 0 ?_
  refine And.intro (fun c => ?_) (fun c => ?_)
  · exact h1 (Int32.not_le.mpr c)
  · refine c_close hG (by decide) e0 hb hc (fun c8 => ?_) (fun c8 past' hp => ?_)
    · refine h2 (Int32.not_lt.mp c) _ past (fun x hx => z_upI_ne hx) ?_
      have e : hPush hs Hf π = (hs + 1, va_up Hf hs π) := if_pos c8
      rw [e]
      refine ⟨uI_s, c8, hc, hd, fun i hi => ?_⟩
      have hi : i < hs + 1 := hi
      have h27 := zS9_in (hc i (by omega))
      show cPl _ J (past i) (va_up Hf hs π i)
      by_cases x : i = hs
      · subst x
        rw [va_up_self]
        exact cPl_fr hπ (z_upI_ne (by omega)) (z_upI_ne (by omega)) (fun _ _ => rfl)
      · rw [va_up_ne2 x]
        exact cPl_fr (he i (by omega)) (z_upI_ne (by omega)) (z_upI_ne (by omega)) (fun _ _ => rfl)
    · refine h2 (Int32.not_lt.mp c) I past' (fun x hx => rfl) ?_
      have e : hPush hs Hf π = (8, fun i => if i < 7 then Hf (i + 1) else π) := if_neg (by omega)
      rw [e]
      subst c8
      have hz : ∀ i, i < 9 → past' i = past (if i = 8 then 0 else i + 1) := by
        intro i hi
        rw [hp i hi]
        unfold zRot
        by_cases x : i = 8
        · subst x; rfl
        · rw [if_pos (by omega), if_neg x]
      refine ⟨e0, Nat.le_refl 8, fun i hi => ?_, fun i j hi hj hij => ?_, fun i hi => ?_⟩
      · rw [hz i hi]
        exact hc _ (by split <;> omega)
      · rw [hz i hi, hz j hj] at hij
        have := hd _ _ (by split <;> omega) (by split <;> omega) hij
        split at this <;> split at this <;> omega
      · have hi : i < 8 := hi
        show cPl I J (past' i) (if i < 7 then Hf (i + 1) else π)
        rw [hz i (by omega), if_neg (by omega)]
        by_cases x : i < 7
        · rw [if_pos x]; exact he (i + 1) (by omega)
        · rw [if_neg x]
          have : i = 7 := by omega
          subst this
          exact hπ
/-- open, change, noted: the frame of the four simple changes -/
theorem cSt_open {I I1 : Nat → Nat → Int32} {J J1 : Nat → Nat → Int64} {past : Nat → Nat} {S : zS} (hS : cSt I J past S) (hv : vS S) (hf : ∀ x, x < past S.2.1.1 ∨ past S.2.1.1 + 11 ≤ x → I1 x = I x ∧ J1 x = J x) : cSt I1 J1 past S ∧ cFr I J I1 J1 := by
  obtain ⟨h1, h2, h3, h4, h5⟩ := hS
  obtain ⟨v1, v2, v3, v4, v5⟩ := hv
  have hi := zS9_in (h2.2.2.1 S.2.1.1 (by omega))
  refine ⟨⟨cPl_rg h1 v1.2.1 (fun x a b => hf x (by omega)), cHis_fr h2 (fun i hi => (v2.2 i hi).2.1) (fun x hx => hf x ?_), cKep_fr h3 (fun i hi c => (v3 i hi c).2.1) (fun x hx => hf x (by omega)), cTxt_fr h4 (hf 126 (by omega)).1 (hf 127 (by omega)).1, cNum_fr h5 (hf 128 (by omega)).1 (hf 129 (by omega)).2 (hf 12 (by omega)).1⟩, fun x hx => hf x (by omega)⟩
  rcases hx with rfl | ⟨i, h6, h7, h8⟩
  · omega
  · have ap := zS9_apart _ (h2.2.2.1 i (by omega)) _ (h2.2.2.1 S.2.1.1 (by omega)) (fun q => by have := h2.2.2.2.1 i S.2.1.1 (by omega) (by omega) q; omega)
    omega
theorem cSt_chg {I I1 : Nat → Nat → Int32} {J : Nat → Nat → Int64} {past : Nat → Nat} {S : zS} {π' : zPl} (hS : cSt I J past S) (hv : vS S) (hf : ∀ x, x ≠ 1 → x ≠ 2 → I1 x = I x) (hq : cPl I1 J 1 π') : cSt I1 J past (π', S.2) := by
  obtain ⟨h1, h2, h3, h4, h5⟩ := hS
  obtain ⟨v1, v2, v3, v4, v5⟩ := hv
  refine ⟨hq, cHis_fr h2 (fun i hi => (v2.2 i hi).2.1) (fun x hx => ⟨hf x ?_ ?_, rfl⟩), cKep_fr h3 (fun i hi c => (v3 i hi c).2.1) (fun x hx => ⟨hf x (by omega) (by omega), rfl⟩), cTxt_fr h4 (hf 126 (by omega) (by omega)) (hf 127 (by omega) (by omega)), cNum_fr h5 (hf 128 (by omega) (by omega)) rfl (hf 12 (by omega) (by omega))⟩
  all_goals
    rcases hx with rfl | ⟨i, h6, h7, h8⟩
    · omega
    · have h6 : i < S.2.1.1 := h6
      have := zS9_in (h2.2.2.1 i (by omega)); omega
theorem cSt_noted {I I1 : Nat → Nat → Int32} {J : Nat → Nat → Int64} {past past' : Nat → Nat} {S : zS} {hn : Nat × (Nat → zPl)} (hS : cSt I J past S) (hv : vPl S.1 ∧ ∀ i, i < 2 → S.2.2.1.1 i = true → vPl (S.2.2.1.2 i)) (hf : ∀ x, x ≠ 25 → I1 x = I x) (hq : cHis I1 J past' hn.1 hn.2) : cSt I1 J past' (S.1, hn, S.2.2) := by
  obtain ⟨h1, h2, h3, h4, h5⟩ := hS
  exact ⟨cPl_rg h1 hv.1.2.1 (fun x a b => ⟨hf x (by omega), rfl⟩), hq, cKep_fr h3 (fun i hi c => (hv.2 i hi c).2.1) (fun x hx => ⟨hf x (by omega), rfl⟩), cTxt_fr h4 (hf 126 (by omega)) (hf 127 (by omega)), cNum_fr h5 (hf 128 (by omega)) rfl (hf 12 (by omega))⟩
theorem sBec_no {π : zPl} {k c : Int32} (hv : vPl π) (h : ¬ 0 ≤ (sBec π k c).1) : (sBec π k c).2 = π := by
  unfold sBec at h ⊢
  split
  · rename_i t
    rw [if_pos t] at h
    split
    · rfl
    · rename_i u
      rw [if_neg u] at h
      exfalso
      apply h
      rw [Bool.and_eq_true] at t
      obtain ⟨n, hn, rfl⟩ := bTl_in t.1 hv.1.1
      have r := (hv.1.2 n hn).2.2.1
      rw [nI_clamp (by have := hv.1.1; omega)]
      have r1 := Int32.le_iff_toInt_le.mp r.1
      have r2 := Int32.le_iff_toInt_le.mp r.2
      have q1 : (-50 : Int32).toInt = -50 := by decide
      have q2 : (50 : Int32).toInt = 50 := by decide
      have q3 : (100 : Int32).toInt = 100 := by decide
      rw [q1] at r1
      rw [q2] at r2
      rw [Int32.le_iff_toInt_le, z_iadd (by rw [q3]; omega) (by rw [q3]; omega), q3, Int32.toInt_zero]
      omega
  · rfl
theorem sBec_v {π : zPl} {k c : Int32} (hv : vPl π) : vPl (sBec π k c).2 := by
  unfold sBec
  split
  · rename_i t
    split
    · exact hv
    · rw [Bool.and_eq_true] at t
      obtain ⟨n, hn, rfl⟩ := bTl_in t.1 hv.1.1
      rw [nI_clamp (by have := hv.1.1; omega)]
      refine ⟨⟨hv.1.1, fun j hj => ?_⟩, hv.2⟩
      have r := hv.1.2 j hj
      show okRow (upd π.2.1 (3 * n + 2) c (3 * j)) (upd π.2.1 (3 * n + 2) c (3 * j + 1)) (upd π.2.1 (3 * n + 2) c (3 * j + 2))
      rw [pk_un (by omega), pk_un (by omega)]
      by_cases x : j = n
      · subst x
        rw [pk_us]
        have b := t.2
        simp only [bBd, Bool.and_eq_true, decide_eq_true_eq] at b
        exact ⟨r.1, r.2.1, b, r.2.2.2⟩
      · rw [pk_un (by omega)]; exact r
  · exact hv
theorem sAdd_no {π : zPl} {a b c : Int32} (hv : vPl π) (h : ¬ 0 ≤ (sAdd π a b c).1) : (sAdd π a b c).2 = π := by
  unfold sAdd at h ⊢
  split
  · rename_i t
    rw [if_pos t] at h
    split
    · rfl
    · rename_i u
      rw [if_neg u] at h
      exact absurd (nI_pos' (by have := hv.1.1; omega)) h
  · rfl
theorem bRw_ok {a b c : Int32} (h : bRw a b c = true) : okRow a b c := by
  simp only [bRw, bBd, Bool.and_eq_true, Bool.or_eq_true, decide_eq_true_eq] at h
  exact ⟨h.1, h.2.1, h.2.2.1, h.2.2.2⟩
theorem sAdd_v {π : zPl} {a b c : Int32} (hv : vPl π) : vPl (sAdd π a b c).2 := by
  unfold sAdd
  split
  · rename_i t
    split
    · exact hv
    · rename_i u
      have h6 := hv.1.1
      refine ⟨⟨by show π.1 + 1 ≤ 6; omega, fun j hj => ?_⟩, hv.2⟩
      have hj : j < π.1 + 1 := hj
      show okRow (upd (upd (upd π.2.1 (3 * π.1) a) (3 * π.1 + 1) b) (3 * π.1 + 2) c (3 * j)) (upd (upd (upd π.2.1 (3 * π.1) a) (3 * π.1 + 1) b) (3 * π.1 + 2) c (3 * j + 1)) (upd (upd (upd π.2.1 (3 * π.1) a) (3 * π.1 + 1) b) (3 * π.1 + 2) c (3 * j + 2))
      by_cases x : j = π.1
      · subst x
        rw [pk_un (by omega), pk_un (by omega), pk_us, pk_un (by omega), pk_us, pk_us]
        exact bRw_ok t
      · rw [pk_un (by omega), pk_un (by omega), pk_un (by omega), pk_un (by omega), pk_un (by omega), pk_un (by omega), pk_un (by omega), pk_un (by omega), pk_un (by omega)]
        exact hv.1.2 j (by omega)
  · exact hv
theorem sDrp_no {π : zPl} {k : Int32} (hv : vPl π) (h : ¬ 0 ≤ (sDrp π k).1) : (sDrp π k).2 = π := by
  unfold sDrp at h ⊢
  split
  · rename_i t
    rw [if_pos t] at h
    exact absurd (nI_pos' (by have := hv.1.1; omega)) h
  · rfl
theorem sDrp_v {π : zPl} {k : Int32} (hv : vPl π) : vPl (sDrp π k).2 := by
  unfold sDrp
  split
  · rename_i t
    obtain ⟨n, hn, rfl⟩ := bTl_in t hv.1.1
    have h6 := hv.1.1
    rw [nI_clamp (by omega)]
    refine ⟨⟨by show π.1 - 1 ≤ 6; omega, fun j hj => ?_⟩, hv.2⟩
    have hj : j < π.1 - 1 := hj
    show okRow (if 3 * j < 3 * n then π.2.1 (3 * j) else π.2.1 (3 * j + 3)) (if 3 * j + 1 < 3 * n then π.2.1 (3 * j + 1) else π.2.1 (3 * j + 1 + 3)) (if 3 * j + 2 < 3 * n then π.2.1 (3 * j + 2) else π.2.1 (3 * j + 2 + 3))
    by_cases x : j < n
    · rw [if_pos (by omega), if_pos (by omega), if_pos (by omega)]; exact hv.1.2 j (by omega)
    · rw [if_neg (by omega), if_neg (by omega), if_neg (by omega)]; exact hv.1.2 (j + 1) (by omega)
  · exact hv
theorem sClr_v {π : zPl} (hv : vPl π) : vPl (sClr π).2 := ⟨hv.1, Nat.zero_le 8, fun i hi => absurd hi (Nat.not_lt_zero i)⟩
theorem sClr_pos {π : zPl} (hv : vPl π) : 0 ≤ (sClr π).1 := nI_pos' (by have := hv.2.1; omega)
theorem c_becomes {G : zG} (hG : zGok G) {k' : Nat} (hk : 5 ≤ k') {I : Nat → Nat → Int32} {J : Nat → Nat → Int64} {past : Nat → Nat} {Q : zRt} {S : zS} (hS : cSt I J past S) (hv : vS S) (k c : Int32) (h : ∀ I' J' past', cSt I' J' past' (sChg S (sBec S.1 k c)) → cFr I J I' J' → Q (some (.int (sBec S.1 k c).1)) (zK0, I', J', zR0 past')) : zCalls G k' yX11_becomes [.ref 0, .int k, .int c] (zK0, I, J, zR0 past) Q := by
  refine rnX11_becomes hG hk 0 k c ?_
  refine sgX11_becomes hG [] 60 0 ?_
  refine c_open hG (by decide) hS.1 hv.1.1.1 hv.1.2.1 hS.2.1 (fun I1 J1 hf1 hq1 => ?_)
  obtain ⟨hS1, fr1⟩ := cSt_open hS hv hf1
  refine c_changeBound hG (by decide) (Or.inl rfl) hS1.1 hv.1.1.1 k c (fun I2 hf2 hq2 => ?_)
  have hf2' : ∀ x, x ≠ 1 → x ≠ 2 → I2 x = I1 x := fun x a b => hf2 x b
  have hS2 := cSt_chg hS1 hv hf2' hq2
  have hi := zS9_in (hS.2.1.2.2.1 S.2.1.1 (by have := hv.2.1.1; omega))
  have hπ : cPl I2 J1 (past S.2.1.1) S.1 := cPl_fr hq1 (hf2' _ (by omega) (by omega)) (hf2' _ (by omega) (by omega)) (fun _ _ => rfl)
  refine c_noted hG (by decide) _ hS2.2.1 hπ (fun i hi => (hv.2.1.2 i hi).2.1) hv.1.2.1 (fun cc => ?_) (fun cc I3 past' hf3 hq3 => ?_)
  · have e : sChg S (sBec S.1 k c) = S := if_neg cc
    have e2 : (sBec S.1 k c).2 = S.1 := sBec_no hv.1 cc
    rw [e] at h
    rw [e2] at hS2
    exact h I2 J1 past hS2 (fun x hx => ⟨(hf2' x (by omega) (by omega)).trans (fr1 x hx).1, (fr1 x hx).2⟩)
  · have e : sChg S (sBec S.1 k c) = ((sBec S.1 k c).2, hPush S.2.1.1 S.2.1.2 S.1, S.2.2) := if_pos cc
    rw [e] at h
    refine h I3 J1 past' (cSt_noted hS2 ⟨sBec_v hv.1, hv.2.2.1⟩ hf3 hq3) (fun x hx => ⟨(hf3 x (by omega)).trans ((hf2' x (by omega) (by omega)).trans (fr1 x hx).1), (fr1 x hx).2⟩)
theorem c_adds {G : zG} (hG : zGok G) {k' : Nat} (hk : 5 ≤ k') {I : Nat → Nat → Int32} {J : Nat → Nat → Int64} {past : Nat → Nat} {Q : zRt} {S : zS} (hS : cSt I J past S) (hv : vS S) (a b c : Int32) (h : ∀ I' J' past', cSt I' J' past' (sChg S (sAdd S.1 a b c)) → cFr I J I' J' → Q (some (.int (sAdd S.1 a b c).1)) (zK0, I', J', zR0 past')) : zCalls G k' yX11_adds [.ref 0, .int a, .int b, .int c] (zK0, I, J, zR0 past) Q := by
  refine rnX11_adds hG hk 0 a b c ?_
  refine sgX11_adds hG [] 60 0 ?_
  refine c_open hG (by decide) hS.1 hv.1.1.1 hv.1.2.1 hS.2.1 (fun I1 J1 hf1 hq1 => ?_)
  obtain ⟨hS1, fr1⟩ := cSt_open hS hv hf1
  refine c_addRow hG (by decide) (Or.inl rfl) hS1.1 hv.1.1.1 a b c (fun I2 hf2 hq2 => ?_)
  have hf2' : ∀ x, x ≠ 1 → x ≠ 2 → I2 x = I1 x := fun x a b => hf2 x a b
  have hS2 := cSt_chg hS1 hv hf2' hq2
  have hi := zS9_in (hS.2.1.2.2.1 S.2.1.1 (by have := hv.2.1.1; omega))
  have hπ : cPl I2 J1 (past S.2.1.1) S.1 := cPl_fr hq1 (hf2' _ (by omega) (by omega)) (hf2' _ (by omega) (by omega)) (fun _ _ => rfl)
  refine c_noted hG (by decide) _ hS2.2.1 hπ (fun i hi => (hv.2.1.2 i hi).2.1) hv.1.2.1 (fun cc => ?_) (fun cc I3 past' hf3 hq3 => ?_)
  · have e : sChg S (sAdd S.1 a b c) = S := if_neg cc
    have e2 : (sAdd S.1 a b c).2 = S.1 := sAdd_no hv.1 cc
    rw [e] at h
    rw [e2] at hS2
    exact h I2 J1 past hS2 (fun x hx => ⟨(hf2' x (by omega) (by omega)).trans (fr1 x hx).1, (fr1 x hx).2⟩)
  · have e : sChg S (sAdd S.1 a b c) = ((sAdd S.1 a b c).2, hPush S.2.1.1 S.2.1.2 S.1, S.2.2) := if_pos cc
    rw [e] at h
    refine h I3 J1 past' (cSt_noted hS2 ⟨sAdd_v hv.1, hv.2.2.1⟩ hf3 hq3) (fun x hx => ⟨(hf3 x (by omega)).trans ((hf2' x (by omega) (by omega)).trans (fr1 x hx).1), (fr1 x hx).2⟩)
theorem c_drops {G : zG} (hG : zGok G) {k' : Nat} (hk : 5 ≤ k') {I : Nat → Nat → Int32} {J : Nat → Nat → Int64} {past : Nat → Nat} {Q : zRt} {S : zS} (hS : cSt I J past S) (hv : vS S) (k : Int32) (h : ∀ I' J' past', cSt I' J' past' (sChg S (sDrp S.1 k)) → cFr I J I' J' → Q (some (.int (sDrp S.1 k).1)) (zK0, I', J', zR0 past')) : zCalls G k' yX11_drops [.ref 0, .int k] (zK0, I, J, zR0 past) Q := by
  refine rnX11_drops hG hk 0 k ?_
  refine sgX11_drops hG [] 60 0 ?_
  refine c_open hG (by decide) hS.1 hv.1.1.1 hv.1.2.1 hS.2.1 (fun I1 J1 hf1 hq1 => ?_)
  obtain ⟨hS1, fr1⟩ := cSt_open hS hv hf1
  refine c_dropRow hG (by decide) (Or.inl rfl) hS1.1 hv.1.1.1 k (fun I2 hf2 hq2 => ?_)
  have hf2' : ∀ x, x ≠ 1 → x ≠ 2 → I2 x = I1 x := fun x a b => hf2 x a b
  have hS2 := cSt_chg hS1 hv hf2' hq2
  have hi := zS9_in (hS.2.1.2.2.1 S.2.1.1 (by have := hv.2.1.1; omega))
  have hπ : cPl I2 J1 (past S.2.1.1) S.1 := cPl_fr hq1 (hf2' _ (by omega) (by omega)) (hf2' _ (by omega) (by omega)) (fun _ _ => rfl)
  refine c_noted hG (by decide) _ hS2.2.1 hπ (fun i hi => (hv.2.1.2 i hi).2.1) hv.1.2.1 (fun c => ?_) (fun c I3 past' hf3 hq3 => ?_)
  · have e : sChg S (sDrp S.1 k) = S := if_neg c
    have e2 : (sDrp S.1 k).2 = S.1 := sDrp_no hv.1 c
    rw [e] at h
    rw [e2] at hS2
    exact h I2 J1 past hS2 (fun x hx => ⟨(hf2' x (by omega) (by omega)).trans (fr1 x hx).1, (fr1 x hx).2⟩)
  · have e : sChg S (sDrp S.1 k) = ((sDrp S.1 k).2, hPush S.2.1.1 S.2.1.2 S.1, S.2.2) := if_pos c
    rw [e] at h
    refine h I3 J1 past' (cSt_noted hS2 ⟨sDrp_v hv.1, hv.2.2.1⟩ hf3 hq3) (fun x hx => ⟨(hf3 x (by omega)).trans ((hf2' x (by omega) (by omega)).trans (fr1 x hx).1), (fr1 x hx).2⟩)
theorem c_clears {G : zG} (hG : zGok G) {k' : Nat} (hk : 5 ≤ k') {I : Nat → Nat → Int32} {J : Nat → Nat → Int64} {past : Nat → Nat} {Q : zRt} {S : zS} (hS : cSt I J past S) (hv : vS S) (h : ∀ I' J' past', cSt I' J' past' (sChg S (sClr S.1)) → cFr I J I' J' → Q (some (.int (sClr S.1).1)) (zK0, I', J', zR0 past')) : zCalls G k' yX11_clears [.ref 0] (zK0, I, J, zR0 past) Q := by
  refine rnX11_clears hG hk 0 ?_
  refine sgX11_clears hG [] 60 0 ?_
  refine c_open hG (by decide) hS.1 hv.1.1.1 hv.1.2.1 hS.2.1 (fun I1 J1 hf1 hq1 => ?_)
  obtain ⟨hS1, fr1⟩ := cSt_open hS hv hf1
  refine c_dropCuts hG (by decide) hS1.1 (fun I2 hf2 hq2 => ?_)
  have hf2' : ∀ x, x ≠ 1 → x ≠ 2 → I2 x = I1 x := fun x a b => hf2 x a
  have hS2 := cSt_chg hS1 hv hf2' hq2
  have hi := zS9_in (hS.2.1.2.2.1 S.2.1.1 (by have := hv.2.1.1; omega))
  have hπ : cPl I2 J1 (past S.2.1.1) S.1 := cPl_fr hq1 (hf2' _ (by omega) (by omega)) (hf2' _ (by omega) (by omega)) (fun _ _ => rfl)
  refine c_noted hG (by decide) _ hS2.2.1 hπ (fun i hi => (hv.2.1.2 i hi).2.1) hv.1.2.1 (fun c => ?_) (fun c I3 past' hf3 hq3 => ?_)
  · have e : sChg S (sClr S.1) = S := if_neg c
    have e2 : (sClr S.1).2 = S.1 := absurd (sClr_pos hv.1) c
    rw [e] at h
    rw [e2] at hS2
    exact h I2 J1 past hS2 (fun x hx => ⟨(hf2' x (by omega) (by omega)).trans (fr1 x hx).1, (fr1 x hx).2⟩)
  · have e : sChg S (sClr S.1) = ((sClr S.1).2, hPush S.2.1.1 S.2.1.2 S.1, S.2.2) := if_pos c
    rw [e] at h
    refine h I3 J1 past' (cSt_noted hS2 ⟨sClr_v hv.1, hv.2.2.1⟩ hf3 hq3) (fun x hx => ⟨(hf3 x (by omega)).trans ((hf2' x (by omega) (by omega)).trans (fr1 x hx).1), (fr1 x hx).2⟩)
