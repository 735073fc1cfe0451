-- ===== the row of numbers =====
def cNm (I : Nat → Nat → Int32) (J : Nat → Nat → Int64) (L : List Int64) : Prop := I 128 0 = nI L.length ∧ ∀ (j : Nat) (q : Int64), L[j]? = some q → J 129 j = q
def mNm (I : Nat → Nat → Int32) (J : Nat → Nat → Int64) (L : List Int64) : Prop := I 305 4 = nI L.length ∧ ∀ (j : Nat) (q : Int64), L[j]? = some q → J 308 j = q
def sTel (S : zS) (L : List Int64) : zS := (S.1, S.2.1, S.2.2.1, S.2.2.2.1, (L.length, fun j => L.getD j 0))
def sOut (S : zS) (r : Int32 × Option (List Int64)) : zS := match r.2 with
  | none => S
  | some L => sTel S L
theorem z_push {f : Nat → Int64} {L : List Int64} {v : Int64} {g : Nat → Int64} (h : ∀ (j : Nat) (q : Int64), L[j]? = some q → f j = q) (h1 : g L.length = v) (h2 : ∀ j, j ≠ L.length → g j = f j) : ∀ (j : Nat) (q : Int64), (L ++ [v])[j]? = some q → g j = q := by
  intro j q hq
  rcases Nat.lt_or_ge j L.length with c | c
  · rw [List.getElem?_append_left c] at hq
    rw [h2 j (by omega)]; exact h j q hq
  · rw [List.getElem?_append_right c] at hq
    have e : j = L.length := by
      rcases Nat.lt_or_ge (j - L.length) 1 with z | z
      · omega
      · rw [List.getElem?_eq_none (by simpa using z)] at hq; cases hq
    subst e
    rw [Nat.sub_self] at hq
    cases hq
    exact h1
theorem c_clear {G : zG} (hG : zGok G) {k' : Nat} (hk : 1 ≤ k') {I : Nat → Nat → Int32} {J : Nat → Nat → Int64} {past : Nat → Nat} {Q : zRt} (h : ∀ I', (∀ x, x ≠ 128 → I' x = I x) → cNm I' J [] → Q none (zK0, I', J, zR0 past)) : zCalls G k' yX4_clear [.ref 128] (zK0, I, J, zR0 past) Q := by
  refine rnX4_clear hG hk 128 ?_
  refine sgX4_clear hG [] 60 0 ?_
  exact h _ (fun x hx => z_upI_ne hx) ⟨uI_s, fun j q hq => by simp at hq⟩
theorem c_tell {G : zG} (hG : zGok G) {k' : Nat} (hk : 1 ≤ k') {I : Nat → Nat → Int32} {J : Nat → Nat → Int64} {past : Nat → Nat} {Q : zRt} {L : List Int64} (hL : cNm I J L) (h98 : L.length < 98) (v : Int64) (h : ∀ I' J', (∀ x, x ≠ 128 → I' x = I x) → (∀ x, x ≠ 129 → J' x = J x) → cNm I' J' (L ++ [v]) → Q none (zK0, I', J', zR0 past)) : zCalls G k' yX4_tell [.ref 128, .long v] (zK0, I, J, zR0 past) Q := by
  have e0 := hL.1
  have e1 : (I 128 0).toNatClampNeg = L.length := by rw [e0, nI_clamp (by omega)]
  refine rnX4_tell hG hk 128 v ?_
  refine sgX4_tell hG [] 60 0 ?_
  refine And.intro (fun c => absurd c (by rw [e0]; exact nI_pos (by omega))) (fun _ => ?_)
  refine And.intro (fun c => absurd c (by rw [e0, show Int32.ofNat 98 = nI 98 from rfl, nI_leI (by omega) (by omega)]; omega)) (fun _ => ?_)
  refine And.intro (by rw [e0]; exact vp_in_nI (by omega) (by omega)) ?_
  refine h _ _ (fun x hx => z_upI_ne hx) (fun x hx => z_upJ_ne hx) ⟨by rw [uI_s, e0, nI_1, List.length_append]; rfl, ?_⟩
  rw [e1]
  exact z_push (f := J 129) hL.2 uJ_s (fun j hj => uJ_k hj)
theorem c_tellRatio {G : zG} (hG : zGok G) {k' : Nat} (hk : 2 ≤ k') {I : Nat → Nat → Int32} {J : Nat → Nat → Int64} {past : Nat → Nat} {Q : zRt} {L : List Int64} (hL : cNm I J L) (h98 : L.length + 1 < 98) (p : Nat) (hp : Nat.beq (zKd zK0 p).1 6 = true) (hp2 : p ≠ 129) (h : ∀ I' J', (∀ x, x ≠ 128 → I' x = I x) → (∀ x, x ≠ 129 → J' x = J x) → cNm I' J' (L ++ [J p 0, J p 1]) → Q none (zK0, I', J', zR0 past)) : zCalls G k' yX4_tellRatio [.ref 128, .ref p] (zK0, I, J, zR0 past) Q := by
  refine rnX4_tellRatio hG hk 128 p ?_
  refine sgX4_tellRatio hG [] 60 0 ?_
  refine zB_in hp ?_
  refine c_tell hG (by decide) hL (by omega) _ (fun I1 J1 f1 g1 q1 => ?_)
  refine zB_in hp ?_
  refine c_tell hG (by decide) q1 (by rw [List.length_append, List.length_singleton]; omega) _ (fun I2 J2 f2 g2 q2 => ?_)
  rw [g1 p hp2, List.append_assoc] at q2
  exact h I2 J2 (fun x hx => (f2 x hx).trans (f1 x hx)) (fun x hx => (g2 x hx).trans (g1 x hx)) q2
theorem m_tellL {G : zG} (hG : zGok G) {k' : Nat} (hk : 1 ≤ k') {I : Nat → Nat → Int32} {J : Nat → Nat → Int64} {past : Nat → Nat} {Q : zRt} {L : List Int64} (hL : mNm I J L) (h40 : L.length < 40) (v : Int64) (h : ∀ I' J', (∀ x, x ≠ 305 → I' x = I x) → (∀ j, j ≠ 4 → I' 305 j = I 305 j) → (∀ x, x ≠ 308 → J' x = J x) → mNm I' J' (L ++ [v]) → Q none (zK0, I', J', zR0 past)) : zCalls G k' yX12_tell [.ref 305, .long v] (zK0, I, J, zR0 past) Q := by
  have e0 := hL.1
  have e1 : (I 305 4).toNatClampNeg = L.length := by rw [e0, nI_clamp (by omega)]
  refine m_tell hG hk v (by rw [e0]; exact vp_in_nI (by omega) (by omega)) ?_
  refine h _ _ (fun x hx => z_upI_ne hx) (fun j hj => uI_k hj) (fun x hx => z_upJ_ne hx) ⟨by rw [uI_s, e0, nI_1, List.length_append]; rfl, ?_⟩
  rw [e1]
  exact z_push (f := J 308) hL.2 uJ_s (fun j hj => uJ_k hj)
theorem m_tellFraction {G : zG} (hG : zGok G) {k' : Nat} (hk : 3 ≤ k') {I : Nat → Nat → Int32} {J : Nat → Nat → Int64} {past : Nat → Nat} {Q : zRt} {L : List Int64} (hL : mNm I J L) (h40 : L.length + 1 < 40) (a b : Int64) (ha : -9223372036854775808 < a.toInt) (hb : -9223372036854775808 < b.toInt) (h0 : ¬ b = 0) (h : ∀ I' J', (∀ x, x ≠ 305 → I' x = I x) → (∀ j, j ≠ 4 → I' 305 j = I 305 j) → (∀ x, x ≠ 305 → x ≠ 308 → J' x = J x) → (∀ j, j ≠ 6 → j ≠ 7 → J' 305 j = J 305 j) → mNm I' J' (L ++ [(zred a b).1, (zred a b).2]) → Q none (zK0, I', J', zR0 past)) : zCalls G k' yX12_tellFraction [.ref 305, .long a, .long b] (zK0, I, J, zR0 past) Q := by
  refine rnX12_tellFraction hG hk 305 a b ?_
  refine sgX12_tellFraction hG [] 60 0 ?_
  refine m_set hG (by decide) a b ha hb h0 ?_
  have hL1 : mNm I (z_upJ (z_upJ J 305 6 (zred a b).1) 305 7 (zred a b).2) L := ⟨hL.1, fun j q hq => by rw [z_upJ_ne (by decide), z_upJ_ne (by decide)]; exact hL.2 j q hq⟩
  refine m_tellL hG (by decide) hL1 (by omega) _ (fun I1 J1 f1 f2 g1 q1 => ?_)
  refine m_tellL hG (by decide) q1 (by rw [List.length_append, List.length_singleton]; omega) _ (fun I2 J2 f3 f4 g2 q2 => ?_)
  have e6 : z_upJ (z_upJ J 305 6 (zred a b).1) 305 7 (zred a b).2 305 6 = (zred a b).1 := by rw [uJ_k (by decide), uJ_s]
  have e7 : J1 305 7 = (zred a b).2 := by rw [g1 305 (by decide), uJ_s]
  rw [e6, e7, List.append_assoc] at q2
  exact h I2 J2 (fun x hx => (f3 x hx).trans (f1 x hx)) (fun j hj => (f4 j hj).trans (f2 j hj)) (fun x a b => by rw [g2 x b, g1 x b, z_upJ_ne a, z_upJ_ne a]) (fun j a b => by rw [g2 305 (by decide), g1 305 (by decide), uJ_k b, uJ_k a]) q2
-- ===== what a call that only asks may touch =====
def cQ (I : Nat → Nat → Int32) (J : Nat → Nat → Int64) (I' : Nat → Nat → Int32) (J' : Nat → Nat → Int64) : Prop := ∀ x, x < 128 ∨ (271 ≤ x ∧ x < 293) ∨ 305 ≤ x → I' x = I x ∧ J' x = J x
/-- the same, where the trial's rows may change too -/
def cQ2 (I : Nat → Nat → Int32) (J : Nat → Nat → Int64) (I' : Nat → Nat → Int32) (J' : Nat → Nat → Int64) : Prop := (∀ x, x < 12 ∨ (14 ≤ x ∧ x < 128) ∨ (271 ≤ x ∧ x < 293) ∨ 305 ≤ x → I' x = I x ∧ J' x = J x) ∧ I' 12 1 = I 12 1
theorem cQ_2 {I I1 : Nat → Nat → Int32} {J J1 : Nat → Nat → Int64} (h : cQ I J I1 J1) : cQ2 I J I1 J1 := ⟨fun x hx => h x (by omega), by rw [(h 12 (by omega)).1]⟩
theorem cQ2_fr {I I1 : Nat → Nat → Int32} {J J1 : Nat → Nat → Int64} (h : cQ2 I J I1 J1) : cFr I J I1 J1 := fun x hx => h.1 x (by omega)
def mQ (I : Nat → Nat → Int32) (J : Nat → Nat → Int64) (I' : Nat → Nat → Int32) (J' : Nat → Nat → Int64) : Prop := (∀ x, x < 305 ∨ x = 306 ∨ x = 307 ∨ x = 310 ∨ x = 318 ∨ x = 319 ∨ 320 ≤ x → I' x = I x ∧ J' x = J x) ∧ I' 305 2 = I 305 2 ∧ I' 305 13 = I 305 13
theorem cQ_rfl {I : Nat → Nat → Int32} {J : Nat → Nat → Int64} : cQ I J I J := fun _ _ => ⟨rfl, rfl⟩
theorem cQ_tr {I I1 I2 : Nat → Nat → Int32} {J J1 J2 : Nat → Nat → Int64} (h1 : cQ I J I1 J1) (h2 : cQ I1 J1 I2 J2) : cQ I J I2 J2 := fun x hx => ⟨(h2 x hx).1.trans (h1 x hx).1, (h2 x hx).2.trans (h1 x hx).2⟩
theorem cQ_fr {I I1 : Nat → Nat → Int32} {J J1 : Nat → Nat → Int64} (h : cQ I J I1 J1) : cFr I J I1 J1 := fun x hx => h x (by omega)
theorem mQ_tr {I I1 I2 : Nat → Nat → Int32} {J J1 J2 : Nat → Nat → Int64} (h1 : mQ I J I1 J1) (h2 : mQ I1 J1 I2 J2) : mQ I J I2 J2 := ⟨fun x hx => ⟨(h2.1 x hx).1.trans (h1.1 x hx).1, (h2.1 x hx).2.trans (h1.1 x hx).2⟩, h2.2.1.trans h1.2.1, h2.2.2.trans h1.2.2⟩
theorem mQ_rfl {I : Nat → Nat → Int32} {J : Nat → Nat → Int64} : mQ I J I J := ⟨fun _ _ => ⟨rfl, rfl⟩, rfl, rfl⟩
theorem mQ_fr {I I1 : Nat → Nat → Int32} {J J1 : Nat → Nat → Int64} (h : mQ I J I1 J1) : mFr I J I1 J1 := fun x hx => h.1 x (by omega)
theorem cQ_pl {I I1 : Nat → Nat → Int32} {J J1 : Nat → Nat → Int64} {π : zPl} (h : cQ I J I1 J1) (h8 : π.2.2.1 ≤ 8) (hc : cPl I J 1 π) : cPl I1 J1 1 π := cPl_rg hc h8 (fun x a b => h x (by omega))
theorem mQ_pl {I I1 : Nat → Nat → Int32} {J J1 : Nat → Nat → Int64} {π : zPl} (h : mQ I J I1 J1) (hc : mPl I 306 0 π) : mPl I1 306 0 π := mPl_fr hc (h.1 306 (by omega)).1
/-- only numbers of 305, and other places of the model that hold no state -/
theorem mQ_n {I I1 : Nat → Nat → Int32} {J : Nat → Nat → Int64} (h1 : ∀ x, x ≠ 305 → I1 x = I x) (h2 : ∀ j, j = 2 ∨ j = 13 → I1 305 j = I 305 j) : mQ I J I1 J := ⟨fun x hx => ⟨h1 x (by omega), rfl⟩, h2 2 (by omega), h2 13 (by omega)⟩
theorem mQ_u {I : Nat → Nat → Int32} {J : Nat → Nat → Int64} {p k : Nat} {v : Int32} (h : p = 309 ∨ (311 ≤ p ∧ p < 318) ∨ (p = 305 ∧ k ≠ 2 ∧ k ≠ 13)) : mQ I J (z_upI I p k v) J := by
  refine ⟨fun x hx => ⟨z_upI_ne (by omega), rfl⟩, ?_, ?_⟩
  · by_cases c : p = 305
    · subst c; exact uI_k (by omega)
    · rw [z_upI_ne (by omega)]
  · by_cases c : p = 305
    · subst c; exact uI_k (by omega)
    · rw [z_upI_ne (by omega)]
theorem mQ_uJ {I : Nat → Nat → Int32} {J : Nat → Nat → Int64} {p k : Nat} {v : Int64} (h : 308 ≤ p ∧ p < 318 ∧ p ≠ 310 ∨ p = 305) : mQ I J I (z_upJ J p k v) := ⟨fun x hx => ⟨rfl, z_upJ_ne (by omega)⟩, rfl, rfl⟩
theorem cQ_u {I : Nat → Nat → Int32} {J : Nat → Nat → Int64} {p k : Nat} {v : Int32} (h : (128 ≤ p ∧ p < 271) ∨ (293 ≤ p ∧ p < 305)) : cQ I J (z_upI I p k v) J := fun x hx => ⟨z_upI_ne (by omega), rfl⟩
theorem cQ_uJ {I : Nat → Nat → Int32} {J : Nat → Nat → Int64} {p k : Nat} {v : Int64} (h : (128 ≤ p ∧ p < 271) ∨ (293 ≤ p ∧ p < 305)) : cQ I J I (z_upJ J p k v) := fun x hx => ⟨rfl, z_upJ_ne (by omega)⟩
theorem cSt_tel2 {I I1 : Nat → Nat → Int32} {J J1 : Nat → Nat → Int64} {past : Nat → Nat} {S : zS} {L : List Int64} (hS : cSt I J past S) (hv : vS S) (h : cQ2 I J I1 J1) (hL : cNm I1 J1 L) : cSt I1 J1 past (sTel S L) := by
  obtain ⟨h1, h2, h3, h4, h5⟩ := hS
  obtain ⟨v1, v2, v3, v4, v5⟩ := hv
  refine ⟨cPl_rg h1 v1.2.1 (fun x a b => h.1 x (by omega)), cHis_fr h2 (fun i hi => (v2.2 i hi).2.1) (fun x hx => h.1 x ?_), cKep_fr h3 (fun i hi c => (v3 i hi c).2.1) (fun x hx => h.1 x (by omega)), cTxt_fr h4 (h.1 126 (by omega)).1 (h.1 127 (by omega)).1, ⟨hL.1, fun j hj => ?_, by rw [h.2]; exact h5.2.2⟩⟩
  · rcases hx with rfl | ⟨i, h6, h7, h8⟩
    · omega
    · have h6 : i < S.2.1.1 := h6
      have := zS9_in (h2.2.2.1 i (by omega)); omega
  · have hj : j < L.length := hj
    refine hL.2 j (L.getD j 0) ?_
    rw [List.getD_eq_getElem?_getD, List.getElem?_eq_getElem hj]; rfl
theorem cSt_tel {I I1 : Nat → Nat → Int32} {J J1 : Nat → Nat → Int64} {past : Nat → Nat} {S : zS} {L : List Int64} (hS : cSt I J past S) (hv : vS S) (h : cQ I J I1 J1) (hL : cNm I1 J1 L) : cSt I1 J1 past (sTel S L) := cSt_tel2 hS hv (cQ_2 h) hL
theorem cSt_same {I I1 : Nat → Nat → Int32} {J J1 : Nat → Nat → Int64} {past : Nat → Nat} {S : zS} (hS : cSt I J past S) (hv : vS S) (h : cQ I J I1 J1) (ha : I1 128 = I 128) (hb : J1 129 = J 129) : cSt I1 J1 past S := by
  obtain ⟨h1, h2, h3, h4, h5⟩ := hS
  obtain ⟨v1, v2, v3, v4, v5⟩ := hv
  refine ⟨cQ_pl h v1.2.1 h1, cHis_fr h2 (fun i hi => (v2.2 i hi).2.1) (fun x hx => h x ?_), cKep_fr h3 (fun i hi c => (v3 i hi c).2.1) (fun x hx => h x (by omega)), cTxt_fr h4 (h 126 (by omega)).1 (h 127 (by omega)).1, cNum_fr h5 ha hb (h 12 (by omega)).1⟩
  rcases hx with rfl | ⟨i, h6, h7, h8⟩
  · omega
  · have h6 : i < S.2.1.1 := h6
    have := zS9_in (h2.2.2.1 i (by omega)); omega
theorem mSt_tel {I I1 : Nat → Nat → Int32} {J J1 : Nat → Nat → Int64} {S : zS} {L : List Int64} (hS : mSt I J S) (h : mQ I J I1 J1) (hL : mNm I1 J1 L) : mSt I1 J1 (sTel S L) := by
  obtain ⟨h1, h2, h3, h4, h5⟩ := hS
  refine ⟨mQ_pl h h1, mHis_fr h2 h.2.2 (h.1 310 (by omega)).1, mKep_fr h3 (h.1 319 (by omega)).1 (h.1 318 (by omega)).1, mTxt_fr h4 h.2.1 (h.1 307 (by omega)).1, ⟨hL.1, fun j hj => ?_⟩⟩
  have hj : j < L.length := hj
  refine hL.2 j (L.getD j 0) ?_
  rw [List.getD_eq_getElem?_getD, List.getElem?_eq_getElem hj]; rfl
theorem mSt_same {I I1 : Nat → Nat → Int32} {J J1 : Nat → Nat → Int64} {S : zS} (hS : mSt I J S) (h : mQ I J I1 J1) (ha : I1 305 4 = I 305 4) (hb : J1 308 = J 308) : mSt I1 J1 S := by
  obtain ⟨h1, h2, h3, h4, h5⟩ := hS
  exact ⟨mQ_pl h h1, mHis_fr h2 h.2.2 (h.1 310 (by omega)).1, mKep_fr h3 (h.1 319 (by omega)).1 (h.1 318 (by omega)).1, mTxt_fr h4 h.2.1 (h.1 307 (by omega)).1, mNum_fr h5 ha hb⟩
theorem cNm_fr {I I1 : Nat → Nat → Int32} {J J1 : Nat → Nat → Int64} {L : List Int64} (h : cNm I J L) (ha : I1 128 = I 128) (hb : J1 129 = J 129) : cNm I1 J1 L := ⟨by rw [ha]; exact h.1, fun j q hq => by rw [hb]; exact h.2 j q hq⟩
theorem mNm_fr {I I1 : Nat → Nat → Int32} {J J1 : Nat → Nat → Int64} {L : List Int64} (h : mNm I J L) (ha : I1 305 4 = I 305 4) (hb : J1 308 = J 308) : mNm I1 J1 L := ⟨by rw [ha]; exact h.1, fun j q hq => by rw [hb]; exact h.2 j q hq⟩
/-- rowMany = 0 -/
theorem mNm_0 {I : Nat → Nat → Int32} {J : Nat → Nat → Int64} : mNm (z_upI I 305 4 0) J [] := ⟨uI_s, fun j q hq => by simp at hq⟩
