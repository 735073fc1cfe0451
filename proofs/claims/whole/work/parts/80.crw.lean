-- ===== rows (class) =====
def fwF (c : Nat → Bool) : Nat → Nat → Option Nat
  | _, 0 => none
  | k, r + 1 => if c k then fwF c (k + 1) r else some k
def rwB (A : zRws) (k : Nat) : Bool := bRw (A.2 (3 * k)) (A.2 (3 * k + 1)) (A.2 (3 * k + 2))
def sTx0 (S : zS) : zS := (S.1, S.2.1, S.2.2.1, (0, S.2.2.2.1.2), S.2.2.2.2)
def rwPl (S : zS) (A : zRws) : zPl := (A.1, A.2, S.1.2.2)
def sRws (S : zS) : Int32 × zS := match rwP S.2.2.2.1.1 S.2.2.2.1.2 with
  | .inl e => (-1 - nI e, sTx0 S)
  | .inr A => match fwF (rwB A) 0 A.1 with
    | some k => (-100 - nI k, sTx0 S)
    | none => (nI A.1, (rwPl S A, hPush S.2.1.1 S.2.1.2 S.1, (sTx0 S).2.2))
theorem fwF_n {c : Nat → Bool} : ∀ r k, fwF c k r = none → ∀ m, k ≤ m → m < k + r → c m = true
  | 0, k, _, m, a, b => by omega
  | r + 1, k, h, m, a, b => by
    have h : (if c k then fwF c (k + 1) r else some k) = none := h
    split at h
    · rename_i q
      rcases (show m = k ∨ k + 1 ≤ m by omega) with z | z
      · rw [z]; exact q
      · exact fwF_n r (k + 1) h m z (by omega)
    · cases h
theorem fwF_s {c : Nat → Bool} : ∀ r k e, fwF c k r = some e → k ≤ e ∧ e < k + r
  | 0, k, e, h => by cases h
  | r + 1, k, e, h => by
    have h : (if c k then fwF c (k + 1) r else some k) = some e := h
    split at h
    · have := fwF_s r (k + 1) e h; omega
    · cases h; omega
theorem rwPl_v {S : zS} (hv : vPl S.1) {A : zRws} (h6 : A.1 ≤ 6) (h : fwF (rwB A) 0 A.1 = none) : vPl (rwPl S A) := ⟨⟨h6, fun k hk => bRw_ok (fwF_n A.1 0 h k (Nat.zero_le k) (by have hk : k < A.1 := hk; omega))⟩, hv.2⟩
theorem rwGo_6 {T : Nat → Int32} {tn : Nat} : ∀ (r p : Nat) (A B : zRws), rwGo T tn r p A = .inr B → B.1 ≤ A.1 + r
  | 0, p, A, B, h => by
    have h : (.inr A : Nat ⊕ zRws) = .inr B := h
    cases h; omega
  | r + 1, p, A, B, h => by
    have h : (match rwE T p with | some e => .inl e | none => if rwAft T p = tn then .inr (rwAdd T p A) else if T (rwAft T p) = 59 ∧ r ≠ 0 then rwGo T tn r (rwAft T p + 1) (rwAdd T p A) else .inl (rwAft T p) : Nat ⊕ zRws) = .inr B := h
    have e1 : (rwAdd T p A).1 = A.1 + 1 := rfl
    split at h
    · cases h
    · split at h
      · cases h; omega
      · split at h
        · have := rwGo_6 r _ _ _ h; omega
        · cases h
theorem rwP_6 {tn : Nat} {tf : Nat → Int32} {B : zRws} (h : rwP tn tf = .inr B) : B.1 ≤ 6 := by
  unfold rwP at h
  split at h
  · cases h; decide
  · have := rwGo_6 _ _ _ _ h
    have e : ((0, fun _ => 0) : zRws).1 = 0 := rfl
    omega
theorem rwE_b {T : Nat → Int32} {p e : Nat} (h : rwE T p = some e) : e < p + 10 := by
  have := rwFst_b T p
  unfold rwE at h
  split at h
  · rename_i x hx
    cases h
    have := mis_bd _ _ _ hx
    have l7 : wRow.length = 7 := rfl
    omega
  · split at h
    · cases h
    · cases h; omega
theorem rwGo_b {tf : Nat → Int32} {tn : Nat} (h80 : tn ≤ 80) : ∀ (r p : Nat) (A : zRws) (e : Nat), p ≤ 80 → rwGo (tAt tn tf) tn r p A = .inl e → e < 100
  | 0, p, A, e, _, h => by
    have h : (.inr A : Nat ⊕ zRws) = .inl e := h
    cases h
  | r + 1, p, A, e, hp, h => by
    have h : (match rwE (tAt tn tf) p with | some e => .inl e | none => if rwAft (tAt tn tf) p = tn then .inr (rwAdd (tAt tn tf) p A) else if tAt tn tf (rwAft (tAt tn tf) p) = 59 ∧ r ≠ 0 then rwGo (tAt tn tf) tn r (rwAft (tAt tn tf) p + 1) (rwAdd (tAt tn tf) p A) else .inl (rwAft (tAt tn tf) p) : Nat ⊕ zRws) = .inl e := h
    have := rwAft_b (tAt tn tf) p
    split at h
    · rename_i x hx
      cases h
      have := rwE_b hx
      omega
    · split at h
      · cases h
      · split at h
        · rename_i q
          have lt := tAt_lt (c := 59) (by decide) q.1
          exact rwGo_b h80 r _ _ e (by omega) h
        · cases h; omega
theorem rwP_b {tn : Nat} {tf : Nat → Int32} (h80 : tn ≤ 80) {e : Nat} (h : rwP tn tf = .inl e) : e < 100 := by
  unfold rwP at h
  split at h
  · cases h
  · exact rwGo_b h80 _ _ _ e (by omega) h
theorem c_firstWrongRow {G : zG} (hG : zGok G) {k' : Nat} (hk : 3 ≤ k') {I : Nat → Nat → Int32} {J : Nat → Nat → Int64} {past : Nat → Nat} {Q : zRt} {π : zPl} (hc : cPl I J 12 π) (h6 : π.1 ≤ 6) (h : Q (some (.int (oI (fwF (rwB (π.1, π.2.1)) 0 π.1)))) (zK0, I, J, zR0 past)) : zCalls G k' yX5_firstWrongRow [.ref 12] (zK0, I, J, zR0 past) Q := by
  have loop : ∀ (r k : Nat) (v : Int32), v = nI k → k + r = π.1 → Q (some (.int (oI (fwF (rwB (π.1, π.2.1)) k r)))) (zK0, I, J, zR0 past) → aX5_firstWrongRow G Q 2 [some (.ref 12), some (.int v)] [] (zK0, I, J, zR0 past) := by
    intro r
    induction r with
    | zero =>
      intro k v ev hk h
      subst ev
      refine sgX5_firstWrongRow hG [2] 60 2 ?_
      refine And.intro (fun _ => ?_) (fun q => absurd (by rw [hc.1, nI_leI (by omega) (by omega)]; omega) q)
      exact h
    | succ r ih =>
      intro k v ev hk h
      subst ev
      have ef : fwF (rwB (π.1, π.2.1)) k (r + 1) = if rwB (π.1, π.2.1) k then fwF (rwB (π.1, π.2.1)) (k + 1) r else some k := rfl
      have e0 : pR π k 0 = π.2.1 (3 * k) := by unfold pR; rw [if_pos (by omega)]; rfl
      have e1 : pR π k 1 = π.2.1 (3 * k + 1) := by unfold pR; rw [if_pos (by omega)]
      have e2 : pR π k 2 = π.2.1 (3 * k + 2) := by unfold pR; rw [if_pos (by omega)]
      have eb : bRw (pR π k 0) (pR π k 1) (pR π k 2) = rwB (π.1, π.2.1) k := by rw [e0, e1, e2]; rfl
      refine sgX5_firstWrongRow hG [2] 60 2 ?_
      refine And.intro (fun q => absurd q (by rw [hc.1, nI_leI (by omega) (by omega)]; omega)) (fun _ => ?_)
      refine c_part hG (by decide) (Or.inr rfl) hc h6 k 0 (by omega) (by decide) ?_
      refine c_part hG (by decide) (Or.inr rfl) hc h6 k 1 (by omega) (by decide) ?_
      refine c_part hG (by decide) (Or.inr rfl) hc h6 k 2 (by omega) (by decide) ?_
      refine c_isRow hG (by decide) _ _ _ ?_
      rw [eb]
      refine And.intro (fun q => ?_) (fun q => ?_)
      · rw [z_nb1 (x := 0) q, if_pos rfl] at ef
        rw [ef] at h
        exact ih (k + 1) _ (by rw [nI_1]) (by omega) h
      · rw [(zb_eq0 _).mp q, if_neg (by decide)] at ef
        rw [ef] at h
        exact h
  refine rnX5_firstWrongRow hG hk 12 ?_
  refine sgX5_firstWrongRow hG [2] 60 0 ?_
  exact loop π.1 0 0 rfl (by omega) h
theorem cSt_12 {I I1 : Nat → Nat → Int32} {J : Nat → Nat → Int64} {past : Nat → Nat} {S : zS} (hS : cSt I J past S) (hv : vS S) (hf : ∀ x, x ≠ 12 → x ≠ 13 → I1 x = I x) (h12 : I1 12 1 = 0) : cSt I1 J past S := by
  obtain ⟨h1, h2, h3, h4, h5⟩ := hS
  obtain ⟨v1, v2, v3, v4, v5⟩ := hv
  refine ⟨cPl_rg h1 v1.2.1 (fun x a b => ⟨hf x (by omega) (by omega), rfl⟩), cHis_fr h2 (fun i hi => (v2.2 i hi).2.1) (fun x hx => ⟨hf x ?_ ?_, rfl⟩), cKep_fr h3 (fun i hi c => (v3 i hi c).2.1) (fun x hx => ⟨hf x (by omega) (by omega), rfl⟩), cTxt_fr h4 (hf 126 (by omega) (by omega)) (hf 127 (by omega) (by omega)), ⟨by rw [hf 128 (by decide) (by decide)]; exact h5.1, h5.2.1, h12⟩⟩
  all_goals
    rcases hx with rfl | ⟨i, h6, h7, h8⟩
    · omega
    · have h6 : i < S.2.1.1 := h6
      have := zS9_in (h2.2.2.1 i (by omega)); omega
theorem cSt_tx {I I1 : Nat → Nat → Int32} {J : Nat → Nat → Int64} {past : Nat → Nat} {S : zS} (hS : cSt I J past S) (hv : vS S) (hf : ∀ x, x ≠ 126 → I1 x = I x) (h0 : I1 126 0 = 0) : cSt I1 J past (sTx0 S) := by
  obtain ⟨h1, h2, h3, h4, h5⟩ := hS
  obtain ⟨v1, v2, v3, v4, v5⟩ := hv
  refine ⟨cPl_rg h1 v1.2.1 (fun x a b => ⟨hf x (by omega), rfl⟩), cHis_fr h2 (fun i hi => (v2.2 i hi).2.1) (fun x hx => ⟨hf x ?_, rfl⟩), cKep_fr h3 (fun i hi c => (v3 i hi c).2.1) (fun x hx => ⟨hf x (by omega), rfl⟩), ⟨h0, fun j hj => absurd hj (Nat.not_lt_zero j)⟩, cNum_fr h5 (hf 128 (by omega)) rfl (hf 12 (by omega))⟩
  rcases hx with rfl | ⟨i, h6, h7, h8⟩
  · omega
  · have h6 : i < S.2.1.1 := h6
    have := zS9_in (h2.2.2.1 i (by omega)); omega
theorem vS_tx {S : zS} (hv : vS S) : vS (sTx0 S) := ⟨hv.1, hv.2.1, hv.2.2.1, ⟨Nat.zero_le _, fun j hj => absurd hj (Nat.not_lt_zero j)⟩, hv.2.2.2.2⟩
theorem c_rows {G : zG} (hs : zSok G) (hG : zGok G) {k' : Nat} (hk : 9 ≤ k') {I : Nat → Nat → Int32} {J : Nat → Nat → Int64} {past : Nat → Nat} {Q : zRt} {S : zS} (hS : cSt I J past S) (hv : vS S) (h : ∀ I' J' past', cSt I' J' past' (sRws S).2 → cFr I J I' J' → Q (some (.int (sRws S).1)) (zK0, I', J', zR0 past')) : zCalls G k' yX11_rows [.ref 0] (zK0, I, J, zR0 past) Q := by
  refine rnX11_rows hG hk 0 ?_
  refine sgX11_rows hG [] 60 0 ?_
  refine c_readRows hs hG (by decide) hS.2.2.2.1 hv.2.2.2.1.1 hS.2.2.2.2.2.2 (fun I1 f1 g1 w1 => ?_)
  have hS1 := cSt_12 hS hv f1 g1
  refine c_shorten hG (by decide) 0 (fun q => ?_) (fun _ _ => ?_)
  · exfalso
    rcases q with q | q
    · exact absurd q (by decide)
    · rw [hS1.2.2.2.1.1] at q
      exact absurd q (nI_pos (by have := hv.2.2.2.1.1; omega))
  have hS2 : cSt (z_upI I1 126 0 0) J past (sTx0 S) := cSt_tx hS1 hv (fun x hx => z_upI_ne hx) uI_s
  have hv2 := vS_tx hv
  have fr2 : cFr I J (z_upI I1 126 0 0) J := fun x hx => ⟨by rw [z_upI_ne (by omega), f1 x (by omega) (by omega)], rfl⟩
  unfold sRws at h
  cases e : rwP S.2.2.2.1.1 S.2.2.2.1.2 with
  | inl x =>
    rw [e] at h
    have xb := rwP_b hv.2.2.2.1.1 e
    refine And.intro (fun q => absurd q (nI_m1 xb)) (fun _ => ?_)
    exact h _ J past hS2 fr2
  | inr A =>
    rw [e] at h w1
    obtain ⟨c1, a6⟩ := w1 A rfl
    have c2 : cPl (z_upI I1 126 0 0) J 12 (A.1, A.2, 0, fun _ _ => 0) := cPl_fr c1 (z_upI_ne (by decide)) (z_upI_ne (by decide)) (fun _ _ => rfl)
    refine And.intro (fun _ => ?_) (fun q => absurd rfl q)
    refine c_firstWrongRow hG (by decide) c2 a6 ?_
    have h : ∀ I' J' past', cSt I' J' past' (match fwF (rwB A) 0 A.1 with | some k => (-100 - nI k, sTx0 S) | none => (nI A.1, (rwPl S A, hPush S.2.1.1 S.2.1.2 S.1, (sTx0 S).2.2))).2 → cFr I J I' J' → Q (some (.int (match fwF (rwB A) 0 A.1 with | some k => (-100 - nI k, sTx0 S) | none => (nI A.1, (rwPl S A, hPush S.2.1.1 S.2.1.2 S.1, (sTx0 S).2.2))).1)) (zK0, I', J', zR0 past') := h
    cases ef : fwF (rwB A) 0 A.1 with
    | some x =>
      rw [ef] at h
      have xb := fwF_s _ _ _ ef
      refine And.intro (fun q => absurd q (nI_m1 (by omega))) (fun _ => ?_)
      exact h _ J past hS2 fr2
    | none =>
      rw [ef] at h
      refine And.intro (fun _ => ?_) (fun q => absurd rfl q)
      refine c_open hG (by decide) hS2.1 hv2.1.1.1 hv2.1.2.1 hS2.2.1 (fun I3 J3 hf3 hq3 => ?_)
      obtain ⟨hS3, fr3⟩ := cSt_open hS2 hv2 hf3
      have hi := zS9_in (hS2.2.1.2.2.1 S.2.1.1 (by have := hv.2.1.1; show S.2.1.1 < 9; omega))
      have hi : 27 ≤ past S.2.1.1 ∧ past S.2.1.1 ≤ 115 := by omega
      have c3 : cPl I3 J3 12 (A.1, A.2, 0, fun _ _ => 0) := cPl_fr c2 (hf3 12 (by show 12 < past S.2.1.1 ∨ _; omega)).1 (hf3 13 (by show 13 < past S.2.1.1 ∨ _; omega)).1 (fun i hi => absurd hi (Nat.not_lt_zero i))
      refine c_copyRows hG (by decide) 1 12 (by decide) (by decide) ?_
      obtain ⟨I4, e4⟩ : ∃ I4, I4 = va_up (z_upI I3 1 0 (I3 12 0)) 2 (va_cpy (z_upI I3 1 0 (I3 12 0) 13) (z_upI I3 1 0 (I3 12 0) 2) 0 0 18) := ⟨_, rfl⟩
      have f4 : ∀ x, x ≠ 1 → x ≠ 2 → I4 x = I3 x := fun x x1 x2 => by rw [e4, va_up_ne2 x2, z_upI_ne x1]
      have r10 : I4 1 0 = nI A.1 := by rw [e4, va_up_ne2 (by decide), uI_s]; exact c3.1
      have c4 : cPl I4 J3 1 (rwPl S A) := by
        refine ⟨r10, ?_, fun j hj => ?_, fun i hi j hj => hS3.1.2.2.2 i hi j hj⟩
        · rw [e4, va_up_ne2 (by decide), uI_k (by decide)]; exact hS3.1.2.1
        · have hj : j < 3 * A.1 := hj
          show I4 2 j = A.2 j
          rw [e4, va_up_self, cpy18 (by omega), z_upI_ne (by decide)]
          exact c3.2.2.1 j hj
      have hS4 : cSt I4 J3 past (rwPl S A, (sTx0 S).2) := cSt_chg hS3 hv2 f4 c4
      have hπ : cPl I4 J3 (past S.2.1.1) S.1 := cPl_fr hq3 (f4 _ (by show past S.2.1.1 ≠ 1; omega) (by show past S.2.1.1 ≠ 2; omega)) (f4 _ (by show past S.2.1.1 + 1 ≠ 1; omega) (by show past S.2.1.1 + 1 ≠ 2; omega)) (fun _ _ => rfl)
      refine (show zCalls G 8 yX11_noted [.ref 0, .int (I4 1 0)] (zK0, I4, J3, zR0 past) _ → _ from fun z => by rw [e4] at z; exact z) ?_
      rw [r10]
      refine c_noted hG (by decide) _ hS4.2.1 hπ (fun i hi => (hv.2.1.2 i hi).2.1) hv.1.2.1 (fun cc => absurd (nI_pos' (by omega)) cc) (fun _ I5 past' hf5 hq5 => ?_)
      refine h I5 J3 past' (cSt_noted hS4 ⟨rwPl_v hv.1 a6 ef, hv.2.2.1⟩ hf5 hq5) (fun x hx => ⟨?_, ?_⟩)
      · rw [hf5 x (by omega), f4 x (by omega) (by omega), (fr3 x hx).1]; exact (fr2 x hx).1
      · exact (fr3 x hx).2
