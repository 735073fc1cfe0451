-- ===== undo, keep, again, sign, end of the class =====
def sUnd (S : zS) : Int32 × zS := if S.2.1.1 = 0 then (-1, S) else (nI (S.2.1.1 - 1), (S.2.1.2 (S.2.1.1 - 1), (S.2.1.1 - 1, S.2.1.2), S.2.2))
def bTwo (i : Int32) : Bool := decide (0 ≤ i) && decide (i < 2)
def sKee (S : zS) (i : Int32) : Int32 × zS := if bTwo i then (1, (S.1, S.2.1, ((fun j => if j = i.toNatClampNeg then true else S.2.2.1.1 j), va_up S.2.2.1.2 i.toNatClampNeg S.1), S.2.2.2)) else (0, S)
def sAga (S : zS) (i : Int32) : Int32 × zS := if bTwo i && S.2.2.1.1 i.toNatClampNeg then (1, (S.2.2.1.2 i.toNatClampNeg, (0, S.2.1.2), S.2.2)) else (0, S)
def zByt (v : Int32) (k : Nat) : Int32 := (v.toUInt32 >>> ((nI (24 - 8 * k)).toUInt32 &&& Int32.toUInt32 31)).toInt32 &&& 255
def sSgn (S : zS) (v : Int32) : Int32 × zS := if 80 < S.2.2.2.1.1 + 4 then (-1, S) else (nI (S.2.2.2.1.1 + 4), (S.1, S.2.1, S.2.2.1, (S.2.2.2.1.1 + 4, fun j => if j < S.2.2.2.1.1 then S.2.2.2.1.2 j else zByt v (j - S.2.2.2.1.1)), S.2.2.2.2))
def sEnd (S : zS) (n : Int32) : Int32 × zS := if n < 0 ∨ nI S.2.2.2.1.1 < n then (0, S) else (1, (S.1, S.2.1, S.2.2.1, (n.toNatClampNeg, S.2.2.2.1.2), S.2.2.2.2))
theorem bTwo_in {i : Int32} (h : bTwo i = true) : ∃ n, n < 2 ∧ i = nI n := by
  unfold bTwo at h
  rw [Bool.and_eq_true, decide_eq_true_eq, decide_eq_true_eq] at h
  obtain ⟨j, h1, h2⟩ := nI_of (x := i) (Int32.not_lt.mpr h.1)
  refine ⟨j, ?_, h2⟩
  rw [h2, show (2 : Int32) = nI 2 from rfl, nI_ltI h1 (by omega)] at h
  exact h.2
theorem c_undo {G : zG} (hG : zGok G) {k' : Nat} (hk : 5 ≤ k') {I : Nat → Nat → Int32} {J : Nat → Nat → Int64} {past : Nat → Nat} {Q : zRt} {S : zS} (hS : cSt I J past S) (hv : vS S) (h : ∀ I' J', cSt I' J' past (sUnd S).2 → cFr I J I' J' → Q (some (.int (sUnd S).1)) (zK0, I', J', zR0 past)) : zCalls G k' yX11_undo [.ref 0] (zK0, I, J, zR0 past) Q := by
  have hb : ∀ {k' : Nat}, 4 ≤ k' → ∀ {Q2 : zRt}, (S.2.1.1 = 0 → Q2 (some (.int 0)) (zK0, I, J, zR0 past)) → (0 < S.2.1.1 → ∀ I' J', cSt I' J' past (sUnd S).2 → cFr I J I' J' → Q2 (some (.int 1)) (zK0, I', J', zR0 past)) → zCalls G k' yX2_back [.ref 25, .ref 1] (zK0, I, J, zR0 past) Q2 := by
    intro k' hk Q2 q0 q1
    obtain ⟨h1, h2, h3, h4, h5⟩ := hS
    obtain ⟨v1, v2, v3, v4, v5⟩ := hv
    have a := h2.1
    refine rnX2_back hG hk 25 1 ?_
    refine sgX2_back hG [] 60 0 ?_
    refine And.intro (fun c => ?_) (fun c => ?_)
    rotate_left
    · have c1 : ¬ I 25 0 < 1 := c
      have hn : ¬ S.2.1.1 = 0 := fun q => c1 (by rw [a, q]; decide)
      have l9 : I 25 0 ≤ Int32.ofNat 9 := by rw [a, show Int32.ofNat 9 = nI 9 from rfl, nI_leI (by omega) (by omega)]; omega
      refine And.intro (fun _ => ?_) (fun q => absurd l9 q)
      have em : I 25 0 - 1 = nI (S.2.1.1 - 1) := by rw [a, show (1 : Int32) = nI 1 from rfl, pk_sub (by omega)]
      have ez : z_upI I 25 0 (I 25 0 - 1) 25 0 = nI (S.2.1.1 - 1) := by rw [uI_s, em]
      have en : (z_upI I 25 0 (I 25 0 - 1) 25 0).toNatClampNeg = S.2.1.1 - 1 := by rw [ez, nI_clamp (by omega)]
      have hi := zS9_in (h2.2.2.1 (S.2.1.1 - 1) (by omega))
      refine And.intro (by rw [ez]; exact vp_in_nI (by omega) (by omega)) ⟨past (S.2.1.1 - 1), by rw [en]; rfl, ?_⟩
      have vq := v2.2 (S.2.1.1 - 1) (by omega)
      have hq := h2.2.2.2.2 (S.2.1.1 - 1) (by omega)
      have hq' : cPl (z_upI I 25 0 (I 25 0 - 1)) J (past (S.2.1.1 - 1)) (S.2.1.2 (S.2.1.1 - 1)) := cPl_fr hq (z_upI_ne (by omega)) (z_upI_ne (by omega)) (fun _ _ => rfl)
      refine c_copy hG (by decide) 1 (past (S.2.1.1 - 1)) (by decide) hi.1 (by omega) hq' vq.1.1 vq.2.1 (fun I' J' hf hq2 => ?_)
      refine And.intro (Or.inr rfl) ?_
      have e : (sUnd S).2 = (S.2.1.2 (S.2.1.1 - 1), (S.2.1.1 - 1, S.2.1.2), S.2.2) := by unfold sUnd; rw [if_neg hn]
      have fr : ∀ x, 12 ≤ x → x ≠ 25 → I' x = I x ∧ J' x = J x := fun x h1 h2 => ⟨(hf x (by omega)).1.trans (z_upI_ne h2), (hf x (by omega)).2⟩
      refine q1 (by omega) I' J' ?_ (fun x hx => fr x (by omega) (by omega))
      rw [e]
      refine ⟨hq2, ⟨by rw [(hf 25 (by omega)).1]; exact ez, by show S.2.1.1 - 1 ≤ 8; omega, h2.2.2.1, h2.2.2.2.1, fun i hi => ?_⟩, cKep_fr h3 (fun i hi c => (v3 i hi c).2.1) (fun x hx => fr x (by omega) (by omega)), cTxt_fr h4 (fr 126 (by omega) (by omega)).1 (fr 127 (by omega) (by omega)).1, cNum_fr h5 (fr 128 (by omega) (by omega)).1 (fr 129 (by omega) (by omega)).2 (fr 12 (by omega) (by omega)).1⟩
      have hi : i < S.2.1.1 - 1 := hi
      have h27 := zS9_in (h2.2.2.1 i (by omega))
      exact cPl_rg (h2.2.2.2.2 i (by omega)) (v2.2 i (by omega)).2.1 (fun x a b => fr x (by omega) (by omega))
    · refine And.intro (Or.inl rfl) ?_
      have c : nI S.2.1.1 < nI 1 := by rw [← a]; exact c
      rw [nI_ltI (by omega) (by omega)] at c
      exact q0 (by omega)
  refine rnX11_undo hG hk 0 ?_
  refine sgX11_undo hG [] 60 0 ?_
  refine hb (by decide) (fun c => ?_) (fun c I' J' hS' fr => ?_)
  · refine And.intro (fun _ => ?_) (fun q => absurd rfl q)
    have e : sUnd S = (-1, S) := if_pos c
    rw [e] at h
    exact h I J hS (fun _ _ => ⟨rfl, rfl⟩)
  · refine And.intro (fun q => absurd q (by decide)) (fun _ => ?_)
    have e : sUnd S = (nI (S.2.1.1 - 1), (S.2.1.2 (S.2.1.1 - 1), (S.2.1.1 - 1, S.2.1.2), S.2.2)) := if_neg (by omega)
    have k := h I' J' hS' fr
    have e2 : (sUnd S).1 = I' 25 0 := by
      have := hS'.2.1.1
      rw [e] at this ⊢
      exact this.symm
    rw [e2] at k
    exact k
