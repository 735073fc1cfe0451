-- ===== what the model holds, as a value =====
def mHis (I : Nat → Nat → Int32) (hs : Nat) (Hf : Nat → zPl) : Prop := I 305 13 = nI hs ∧ ∀ i, i < hs → mPl I 310 (140 * i) (Hf i)
def mKep (I : Nat → Nat → Int32) (kf : Nat → Bool) (kp : Nat → zPl) : Prop := ∀ i, i < 2 → I 319 i = zb (kf i) ∧ (kf i = true → mPl I 318 (140 * i) (kp i))
def mTxt (I : Nat → Nat → Int32) (tn : Nat) (tf : Nat → Int32) : Prop := I 305 2 = nI tn ∧ ∀ j, j < tn → I 307 j = (tf j).toInt8.toInt32
def mNum (I : Nat → Nat → Int32) (J : Nat → Nat → Int64) (rn : Nat) (rf : Nat → Int64) : Prop := I 305 4 = nI rn ∧ ∀ j, j < rn → J 308 j = rf j
def mSt (I : Nat → Nat → Int32) (J : Nat → Nat → Int64) (S : zS) : Prop := mPl I 306 0 S.1 ∧ mHis I S.2.1.1 S.2.1.2 ∧ mKep I S.2.2.1.1 S.2.2.1.2 ∧ mTxt I S.2.2.2.1.1 S.2.2.2.1.2 ∧ mNum I J S.2.2.2.2.1 S.2.2.2.2.2
/-- nothing of the class's changes -/
def mFr (I : Nat → Nat → Int32) (J : Nat → Nat → Int64) (I' : Nat → Nat → Int32) (J' : Nat → Nat → Int64) : Prop := ∀ x, x < 305 ∨ 320 ≤ x → I' x = I x ∧ J' x = J x
theorem mPl_seg {I I' : Nat → Nat → Int32} {a o a' o' : Nat} {π : zPl} (h : mPl I a o π) (h6 : π.1 ≤ 6) (h8 : π.2.2.1 ≤ 8) (hf : ∀ k, k < 140 → I' a' (o' + k) = I a (o + k)) : mPl I' a' o' π := by
  obtain ⟨x, b, c, d⟩ := h
  refine ⟨(hf 0 (by omega)).trans x, (hf 19 (by omega)).trans b, fun j hj => ?_, fun i hi j hj => ?_⟩
  · have := hf (1 + j) (by omega)
    rw [← Nat.add_assoc, ← Nat.add_assoc] at this
    rw [this]; exact c j hj
  · have := hf (20 + 15 * i + j) (by omega)
    rw [← Nat.add_assoc, ← Nat.add_assoc, ← Nat.add_assoc, ← Nat.add_assoc] at this
    rw [this]; exact d i hi j hj
theorem mHis_fr {I I' : Nat → Nat → Int32} {hs : Nat} {Hf : Nat → zPl} (h : mHis I hs Hf) (h1 : I' 305 13 = I 305 13) (h2 : I' 310 = I 310) : mHis I' hs Hf := ⟨by rw [h1]; exact h.1, fun i hi => mPl_fr (h.2 i hi) h2⟩
theorem mKep_fr {I I' : Nat → Nat → Int32} {kf : Nat → Bool} {kp : Nat → zPl} (h : mKep I kf kp) (h1 : I' 319 = I 319) (h2 : I' 318 = I 318) : mKep I' kf kp := fun i hi => ⟨by rw [h1]; exact (h i hi).1, fun c => mPl_fr ((h i hi).2 c) h2⟩
theorem mTxt_fr {I I' : Nat → Nat → Int32} {tn : Nat} {tf : Nat → Int32} (h : mTxt I tn tf) (h1 : I' 305 2 = I 305 2) (h2 : I' 307 = I 307) : mTxt I' tn tf := ⟨by rw [h1]; exact h.1, fun j hj => by rw [h2]; exact h.2 j hj⟩
theorem mNum_fr {I I' : Nat → Nat → Int32} {J J' : Nat → Nat → Int64} {rn : Nat} {rf : Nat → Int64} (h : mNum I J rn rf) (h1 : I' 305 4 = I 305 4) (h2 : J' 308 = J 308) : mNum I' J' rn rf := ⟨by rw [h1]; exact h.1, fun j hj => by rw [h2]; exact h.2 j hj⟩
/-- how a history grows, by its numbers -/
def zPu (hn i : Nat) : Nat := if hn < 8 then i else i + 1
def zPn (hn : Nat) : Nat := if hn < 8 then hn + 1 else 8
theorem m_note {G : zG} (hG : zGok G) {k' : Nat} (hk : 1 ≤ k') {I : Nat → Nat → Int32} {J : Nat → Nat → Int64} {past : Nat → Nat} {Q : zRt} {hn : Nat} (hh : I 305 13 = nI hn) (h8 : hn ≤ 8) (h : ∀ I', (∀ x, x ≠ 305 → x ≠ 310 → I' x = I x) → (∀ j, j ≠ 13 → I' 305 j = I 305 j) → I' 305 13 = nI (zPn hn) → (∀ i, i + 1 < zPn hn → ∀ k, k < 140 → I' 310 (140 * i + k) = I 310 (140 * zPu hn i + k)) → (∀ k, k < 140 → I' 310 (140 * (zPn hn - 1) + k) = I 311 k) → Q none (zK0, I', J, zR0 past)) : zCalls G k' yX12_note [.ref 305] (zK0, I, J, zR0 past) Q := by
  -- the second loop
  have two : ∀ (b : Nat), b < 8 → ∀ (r i : Nat) (v : Int32) (I1 I' : Nat → Nat → Int32), v = nI i → i + r = 140 → (∀ x, x ≠ 305 → x ≠ 310 → I1 x = I x) → (∀ j, j ≠ 13 → I1 305 j = I 305 j) → I1 305 13 = nI b → (∀ x, x ≠ 310 → I' x = I1 x) → (∀ j, j < 1120 → I' 310 j = if 140 * b ≤ j ∧ j < 140 * b + i then I 311 (j - 140 * b) else I1 310 j) → (∀ I2, (∀ x, x ≠ 305 → x ≠ 310 → I2 x = I x) → (∀ j, j ≠ 13 → I2 305 j = I 305 j) → I2 305 13 = nI (b + 1) → (∀ j, j < 1120 → I2 310 j = if 140 * b ≤ j ∧ j < 140 * b + 140 then I 311 (j - 140 * b) else I1 310 j) → Q none (zK0, I2, J, zR0 past)) → aX12_note G Q 52 [some (.ref 305), some (.int v)] [] (zK0, I', J, zR0 past) := by
    intro b hb r
    induction r with
    | zero =>
      intro i v I1 I' ev hir f1 f2 f3 g1 g2 fin
      subst ev
      have e : i = 140 := by omega
      subst e
      refine sgX12_note hG [11, 52] 60 52 ?_
      refine And.intro (fun _ => ?_) (fun c => absurd (by decide) c)
      have e13 : I' 305 13 + 1 = nI (b + 1) := by rw [g1 305 (by decide), f3, nI_1]
      refine fin _ (fun x a c => by rw [z_upI_ne a, g1 x c]; exact f1 x a c) (fun j hj => by rw [uI_k hj, g1 305 (by decide)]; exact f2 j hj) (by rw [uI_s, e13]) (fun j hj => by rw [uI_p (by decide)]; exact g2 j hj)
    | succ r ih =>
      intro i v I1 I' ev hir f1 f2 f3 g1 g2 fin
      subst ev
      have e13 : I' 305 13 = nI b := by rw [g1 305 (by decide), f3]
      have ei : (140 : Int32) * I' 305 13 + nI i = nI (140 * b + i) := by rw [e13, show (140 : Int32) = nI 140 from rfl, pk_mul, nI_add]
      have ec : ((140 : Int32) * I' 305 13 + nI i).toNatClampNeg = 140 * b + i := by rw [ei, nI_clamp (by omega)]
      have en : (nI i).toNatClampNeg = i := nI_clamp (by omega)
      have k := ih (i + 1) (nI i + 1) I1 (z_upI I' 310 (140 * b + i) (I' 311 i)) (by rw [nI_1]) (by omega) f1 f2 f3 (fun x hx => by rw [z_upI_ne hx]; exact g1 x hx) (fun j hj => by
        by_cases x : j = 140 * b + i
        · subst x
          rw [uI_s, if_pos (by omega), g1 311 (by decide), f1 311 (by decide) (by decide)]
          congr 1; omega
        · rw [uI_k x, g2 j hj]
          by_cases y : 140 * b ≤ j ∧ j < 140 * b + i
          · rw [if_pos y, if_pos (by omega)]
          · rw [if_neg y, if_neg (by omega)]) fin
      rw [← ec] at k
      refine sgX12_note hG [11, 52] 60 52 ?_
      refine And.intro (fun c => absurd c (by rw [show (140 : Int32) = nI 140 from rfl, nI_leI (by omega) (by omega)]; omega)) (fun _ => ?_)
      refine And.intro (vp_in_nI (by omega) (by omega)) ?_
      refine And.intro (by rw [ei]; exact vp_in_nI (by omega) (by omega)) ?_
      rw [en]
      exact k
  have one : hn = 8 → ∀ (r i : Nat) (v : Int32) (I' : Nat → Nat → Int32), v = nI i → i + r = 980 → (∀ x, x ≠ 310 → I' x = I x) → (∀ j, j < 1120 → I' 310 j = if j < i then I 310 (j + 140) else I 310 j) → aX12_note G Q 11 [some (.ref 305), some (.int v)] [] (zK0, I', J, zR0 past) := by
    intro h8' r
    induction r with
    | zero =>
      intro i v I' ev hir g1 g2
      subst ev
      have e : i = 980 := by omega
      subst e
      have e13 : I' 305 13 - 1 = nI 7 := by rw [g1 305 (by decide), hh, h8', show (1 : Int32) = nI 1 from rfl, pk_sub (by omega)]
      refine sgX12_note hG [11, 52] 60 11 ?_
      refine And.intro (fun _ => ?_) (fun c => absurd (by decide) c)
      refine two 7 (by omega) 140 0 0 (z_upI I' 305 13 (I' 305 13 - 1)) _ rfl (by omega) (fun x a c => by rw [z_upI_ne a]; exact g1 x c) (fun j hj => by rw [uI_k hj, g1 305 (by decide)]) (by rw [uI_s, e13]) (fun x hx => rfl) (fun j hj => by rw [if_neg (by omega)]) (fun I2 a1 a2 a3 a4 => ?_)
      have zn : zPn hn = 8 := by unfold zPn; rw [if_neg (by omega)]
      rw [zn] at h
      refine h I2 a1 a2 a3 (fun i hi k hk => ?_) (fun k hk => ?_)
      · unfold zPu
        rw [a4 _ (by omega), if_neg (by omega), uI_p (by decide), g2 _ (by omega), if_pos (by omega), if_neg (by omega), show 140 * i + k + 140 = 140 * (i + 1) + k by omega]
      · rw [a4 _ (by omega), if_pos (by omega), show 140 * (8 - 1) + k - 140 * 7 = k by omega]
    | succ r ih =>
      intro i v I' ev hir g1 g2
      subst ev
      have en : (nI i).toNatClampNeg = i := nI_clamp (by omega)
      have ei : nI i + 140 = nI (i + 140) := by rw [show (140 : Int32) = nI 140 from rfl, nI_add]
      have en2 : (nI i + 140).toNatClampNeg = i + 140 := by rw [ei, nI_clamp (by omega)]
      have k := ih (i + 1) (nI i + 1) (z_upI I' 310 i (I' 310 (i + 140))) (by rw [nI_1]) (by omega) (fun x hx => by rw [z_upI_ne hx]; exact g1 x hx) (fun j hj => by
        by_cases x : j = i
        · subst x
          rw [uI_s, if_pos (by omega), g2 _ (by omega), if_neg (by omega)]
        · rw [uI_k x, g2 j hj]
          by_cases y : j < i
          · rw [if_pos y, if_pos (by omega)]
          · rw [if_neg y, if_neg (by omega)])
      refine sgX12_note hG [11, 52] 60 11 ?_
      refine And.intro (fun c => absurd c (by rw [show (980 : Int32) = nI 980 from rfl, nI_leI (by omega) (by omega)]; omega)) (fun _ => ?_)
      refine And.intro (by rw [ei]; exact vp_in_nI (by omega) (by omega)) ?_
      refine And.intro (vp_in_nI (by omega) (by omega)) ?_
      rw [en, en2]
      exact k
  refine rnX12_note hG hk 305 ?_
  refine sgX12_note hG [11, 52] 60 0 ?_
  refine And.intro (fun c => ?_) (fun c => ?_)
  · rw [hh, show (8 : Int32) = nI 8 from rfl, nI_eq (by omega) (by omega)] at c
    refine two hn (by omega) 140 0 0 I I rfl (by omega) (fun _ _ _ => rfl) (fun _ _ => rfl) hh (fun _ _ => rfl) (fun j hj => by rw [if_neg (by omega)]) (fun I2 a1 a2 a3 a4 => ?_)
    have zn : zPn hn = hn + 1 := by unfold zPn; rw [if_pos (by omega)]
    rw [zn] at h
    refine h I2 a1 a2 a3 (fun i hi k hk => ?_) (fun k hk => ?_)
    · unfold zPu
      rw [a4 _ (by omega), if_neg (by omega), if_pos (by omega)]
    · rw [a4 _ (by omega), if_pos (by omega), show 140 * (hn + 1 - 1) + k - 140 * hn = k by omega]
  · rw [hh, show (8 : Int32) = nI 8 from rfl, nI_eq (by omega) (by omega)] at c
    exact one c 980 0 0 I rfl (by omega) (fun _ _ => rfl) (fun j hj => by rw [if_neg (Nat.not_lt_zero j)])
/-- the history of the model, when the plan of 306 has come behind it -/
theorem mHis_push {I I' : Nat → Nat → Int32} {hn : Nat} {Hf : Nat → zPl} {π : zPl} (hh : mHis I hn Hf) (hm : mPl I 306 0 π) (h8 : hn ≤ 8) (hv : ∀ i, i < hn → (Hf i).1 ≤ 6 ∧ (Hf i).2.2.1 ≤ 8) (hπ : π.1 ≤ 6 ∧ π.2.2.1 ≤ 8) (g0 : I' 305 13 = nI (zPn hn)) (g1 : ∀ i, i + 1 < zPn hn → ∀ k, k < 140 → I' 310 (140 * i + k) = I 310 (140 * zPu hn i + k)) (g2 : ∀ k, k < 140 → I' 310 (140 * (zPn hn - 1) + k) = I 306 k) : mHis I' (hPush hn Hf π).1 (hPush hn Hf π).2 := by
  by_cases c : hn < 8
  · have e : hPush hn Hf π = (hn + 1, va_up Hf hn π) := if_pos c
    have zn : zPn hn = hn + 1 := by unfold zPn; rw [if_pos c]
    rw [e]
    rw [zn] at g0 g1 g2
    refine ⟨g0, fun i hi => ?_⟩
    have hi : i < hn + 1 := hi
    show mPl I' 310 (140 * i) (va_up Hf hn π i)
    by_cases x : i = hn
    · subst x
      rw [va_up_self]
      exact mPl_seg hm hπ.1 hπ.2 (fun k hk => by rw [Nat.zero_add]; exact g2 k hk)
    · rw [va_up_ne2 x]
      exact mPl_seg (hh.2 i (by omega)) (hv i (by omega)).1 (hv i (by omega)).2 (fun k hk => by have := g1 i (by omega) k hk; unfold zPu at this; rw [if_pos c] at this; exact this)
  · have e : hPush hn Hf π = (8, fun i => if i < 7 then Hf (i + 1) else π) := if_neg c
    have zn : zPn hn = 8 := by unfold zPn; rw [if_neg c]
    rw [e]
    rw [zn] at g0 g1 g2
    refine ⟨g0, fun i hi => ?_⟩
    have hi : i < 8 := hi
    show mPl I' 310 (140 * i) (if i < 7 then Hf (i + 1) else π)
    by_cases x : i < 7
    · rw [if_pos x]
      exact mPl_seg (hh.2 (i + 1) (by omega)) (hv (i + 1) (by omega)).1 (hv (i + 1) (by omega)).2 (fun k hk => by have := g1 i (by omega) k hk; unfold zPu at this; rw [if_neg c] at this; exact this)
    · rw [if_neg x]
      have : i = 7 := by omega
      subst this
      exact mPl_seg hm hπ.1 hπ.2 (fun k hk => by rw [Nat.zero_add]; exact g2 k hk)
theorem m_change {G : zG} (hG : zGok G) {k' : Nat} (hk : 2 ≤ k') {I : Nat → Nat → Int32} {J : Nat → Nat → Int64} {past : Nat → Nat} {Q : zRt} {π : zPl} {hn : Nat} {Hf : Nat → zPl} (hm : mPl I 306 0 π) (hh : mHis I hn Hf) (h8 : hn ≤ 8) (hv : ∀ i, i < hn → (Hf i).1 ≤ 6 ∧ (Hf i).2.2.1 ≤ 8) (hπ : π.1 ≤ 6 ∧ π.2.2.1 ≤ 8) (h : ∀ I', (∀ x, x ≠ 305 → x ≠ 310 → x ≠ 311 → I' x = I x) → (∀ j, j ≠ 13 → I' 305 j = I 305 j) → mHis I' (hPush hn Hf π).1 (hPush hn Hf π).2 → Q none (zK0, I', J, zR0 past)) : zCalls G k' yX12_change [.ref 305] (zK0, I, J, zR0 past) Q := by
  have loop : ∀ (r i : Nat) (v : Int32) (I' : Nat → Nat → Int32), v = nI i → i + r = 140 → (∀ x, x ≠ 311 → I' x = I x) → (∀ j, j < i → I' 311 j = I 306 j) → aX12_change G Q 2 [some (.ref 305), some (.int v)] [] (zK0, I', J, zR0 past) := by
    intro r
    induction r with
    | zero =>
      intro i v I' ev hir g1 g2
      subst ev
      have e : i = 140 := by omega
      subst e
      refine sgX12_change hG [2] 60 2 ?_
      refine And.intro (fun _ => ?_) (fun c => absurd (by decide) c)
      refine m_note hG (by decide) (by rw [g1 305 (by decide)]; exact hh.1) h8 (fun I2 a1 a2 a3 a4 a5 => ?_)
      refine h I2 (fun x b1 b2 b3 => by rw [a1 x b1 b2]; exact g1 x b3) (fun j hj => by rw [a2 j hj, g1 305 (by decide)]) (mHis_push hh hm h8 hv hπ a3 (fun i hi k hk => by rw [a4 i hi k hk, g1 310 (by decide)]) (fun k hk => by rw [a5 k hk]; exact g2 k hk))
    | succ r ih =>
      intro i v I' ev hir g1 g2
      subst ev
      have en : (nI i).toNatClampNeg = i := nI_clamp (by omega)
      have k := ih (i + 1) (nI i + 1) (z_upI I' 311 i (I' 306 i)) (by rw [nI_1]) (by omega) (fun x hx => by rw [z_upI_ne hx]; exact g1 x hx) (fun j hj => by
        by_cases x : j = i
        · subst x; rw [uI_s, g1 306 (by decide)]
        · rw [uI_k x]; exact g2 j (by omega))
      refine sgX12_change hG [2] 60 2 ?_
      refine And.intro (fun c => absurd c (by rw [show (140 : Int32) = nI 140 from rfl, nI_leI (by omega) (by omega)]; omega)) (fun _ => ?_)
      refine And.intro (vp_in_nI (by omega) (by omega)) ?_
      refine And.intro (vp_in_nI (by omega) (by omega)) ?_
      rw [en]
      exact k
  refine rnX12_change hG hk 305 ?_
  refine sgX12_change hG [2] 60 0 ?_
  exact loop 140 0 0 I rfl (by omega) (fun _ _ => rfl) (fun j hj => absurd hj (Nat.not_lt_zero j))
