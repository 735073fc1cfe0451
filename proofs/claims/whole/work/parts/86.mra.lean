-- ===== acts are read (model) =====
def mAf (I I' : Nat → Nat → Int32) (n : Nat) : Prop := (∀ x, x ≠ 305 → x ≠ 317 → I' x = I x) ∧ (∀ j, j ≠ 9 → j ≠ 10 → I' 305 j = I 305 j) ∧ ∀ j, j < 4 * n → I' 317 j = I 317 j
theorem mAf_rfl {I : Nat → Nat → Int32} {n : Nat} : mAf I I n := ⟨fun _ _ _ => rfl, fun _ _ _ => rfl, fun _ _ => rfl⟩
theorem mAf_tr {I I1 I2 : Nat → Nat → Int32} {n : Nat} (h1 : mAf I I1 n) (h2 : mAf I1 I2 n) : mAf I I2 n := ⟨fun x a b => (h2.1 x a b).trans (h1.1 x a b), fun j a b => (h2.2.1 j a b).trans (h1.2.1 j a b), fun j a => (h2.2.2 j a).trans (h1.2.2 j a)⟩
theorem mPf_Af {I I1 : Nat → Nat → Int32} {n : Nat} (h : mPf I I1) : mAf I I1 n := ⟨fun x a _ => h.1 x a, h.2, fun j _ => by rw [h.1 317 (by decide)]⟩
theorem mAf_u {I : Nat → Nat → Int32} {n k : Nat} {v : Int32} (h : 4 * n ≤ k) : mAf I (z_upI I 317 k v) n := ⟨fun x _ b => z_upI_ne b, fun j _ _ => uI_p (by decide), fun j hj => uI_k (by omega)⟩
theorem mTx_a {I : Nat → Nat → Int32} {tn k : Nat} {tf : Nat → Int32} {v : Int32} (h : mTx I tn tf) : mTx (z_upI I 317 k v) tn tf := ⟨by rw [uI_p (by decide)]; exact h.1, fun j hj => by rw [uI_p (by decide)]; exact h.2 j hj⟩
theorem mAt_a {I : Nat → Nat → Int32} {k : Nat} {s : Nat × Option Nat} {v : Int32} (h : mAt I s) : mAt (z_upI I 317 k v) s := ⟨by rw [uI_p (by decide)]; exact h.1, by rw [uI_p (by decide)]; exact h.2.1, h.2.2⟩
/-- act n of the array is the one at p of the text -/
def acV (T : Nat → Int32) (p n : Nat) (I : Nat → Nat → Int32) : Prop := I 317 (4 * n) = T p ∧ (T p = 98 → I 317 (4 * n + 1) = T (p + 1) - 48 ∧ I 317 (4 * n + 2) = sgn (T (p + 2)) ((T (p + 3) - 48) * 10 + T (p + 4) - 48)) ∧ (T p = 100 → I 317 (4 * n + 1) = T (p + 1) - 48) ∧ (T p = 115 → I 317 (4 * n + 1) = T (p + 1) - 48 ∧ I 317 (4 * n + 2) = T (p + 2) - 48 ∧ I 317 (4 * n + 3) = T (p + 3) - 48)
theorem acV_fr {T : Nat → Int32} {p n : Nat} {I I1 : Nat → Nat → Int32} (h : acV T p n I) (f : ∀ j, j < 4 * (n + 1) → I1 317 j = I 317 j) : acV T p n I1 := by
  obtain ⟨a, b, c, d⟩ := h
  refine ⟨by rw [f _ (by omega)]; exact a, fun q => ?_, fun q => ?_, fun q => ?_⟩
  · rw [f _ (by omega), f _ (by omega)]; exact b q
  · rw [f _ (by omega)]; exact c q
  · rw [f _ (by omega), f _ (by omega), f _ (by omega)]; exact d q
def acPo (T : Nat → Int32) (p n : Nat) (I' : Nat → Nat → Int32) (s : Nat × Option Nat) : Prop := match mis T p (zBy.getD (aF (T p)) []) with
  | some e => s.2 = some e
  | none => s = (p + aLn (T p), none) ∧ acV T p n I'
theorem acPo_of {T : Nat → Int32} {p n : Nat} {I' : Nat → Nat → Int32} {s : Nat × Option Nat} (hs : s = pW T (zBy.getD (aF (T p)) []) (p, none)) (hv : mis T p (zBy.getD (aF (T p)) []) = none → acV T p n I') : acPo T p n I' s := by
  have l := zBy_l (aF (T p)) (aF_5 (T p)).1
  rw [pW_mis] at hs
  unfold acPo
  cases W : mis T p (zBy.getD (aF (T p)) []) with
  | some e => rw [W] at hs; rw [hs]
  | none =>
    rw [W] at hs
    refine ⟨?_, hv W⟩
    rw [hs]
    show (p + (zBy.getD (aF (T p)) []).length, none) = _
    rw [l]; rfl
theorem m_readAct {G : zG} (hG : zGok G) {k' : Nat} (hk : 5 ≤ k') {I : Nat → Nat → Int32} {J : Nat → Nat → Int64} {past : Nat → Nat} {Q : zRt} {tn : Nat} {tf : Nat → Int32} (ok : tOk tn tf) (ht : mTx I tn tf) {p n : Nat} (ha : mAt I (p, none)) (hp : p < tn) (hn : n < 80) {K : Int32} (eK : K = nI (4 * n)) (h : ∀ I' s, mAf I I' n → mTx I' tn tf → mAt I' s → acPo (tAt tn tf) p n I' s → Q none (zK0, I', J, zR0 past)) : zCalls G k' yX12_readAct [.ref 305, .int K] (zK0, I, J, zR0 past) Q := by
  subst eK
  obtain ⟨T, eT⟩ : ∃ T, T = tAt tn tf := ⟨_, rfl⟩
  have h80 := ok.1
  have c0 : (nI (4 * n)).toNatClampNeg = 4 * n := nI_clamp (by omega)
  have i1 : nI (4 * n) + 1 = nI (4 * n + 1) := nI_1 _
  have i2 : nI (4 * n) + 2 = nI (4 * n + 2) := by rw [show (2 : Int32) = nI 2 from rfl, nI_add]
  have i3 : nI (4 * n) + 3 = nI (4 * n + 3) := by rw [show (3 : Int32) = nI 3 from rfl, nI_add]
  have c1 : (nI (4 * n) + 1).toNatClampNeg = 4 * n + 1 := by rw [i1, nI_clamp (by omega)]
  have c2 : (nI (4 * n) + 2).toNatClampNeg = 4 * n + 2 := by rw [i2, nI_clamp (by omega)]
  have c3 : (nI (4 * n) + 3).toNatClampNeg = 4 * n + 3 := by rw [i3, nI_clamp (by omega)]
  rw [← eT] at h
  have z38 : ∀ (w : Int32) (o3 o4 : Option Value), w = T p → (w = 98 ∨ w = 100 ∨ w = 115 ∨ w = 99) → aX12_readAct G Q 38 [some (.ref 305), some (.int (nI (4 * n))), some (.int w), o3, o4] [] (zK0, I, J, zR0 past) := by
    intro w o3 o4 ew hw
    have a1 : mAt (z_upI I 305 9 (I 305 9 + 1)) (p + 1, none) := ⟨by rw [uI_s, ha.1, nI_1], by rw [uI_k (by decide)]; exact ha.2.1, by show p + 1 < 100; omega, fun e he => by cases he⟩
    have f1 : mPf I (z_upI I 305 9 (I 305 9 + 1)) := ⟨fun x hx => z_upI_ne hx, fun j a _ => uI_k a⟩
    have t1 := mTx_fr ht f1
    obtain ⟨I1, e1⟩ : ∃ I1, I1 = z_upI (z_upI I 305 9 (I 305 9 + 1)) 317 (4 * n) w := ⟨_, rfl⟩
    have a2 : mAt I1 (p + 1, none) := by rw [e1]; exact mAt_a a1
    have t2 : mTx I1 tn tf := by rw [e1]; exact mTx_a t1
    have g2 : mAf I I1 n := by rw [e1]; exact mAf_tr (mPf_Af f1) (mAf_u (by omega))
    have w0 : I1 317 (4 * n) = w := by rw [e1]; exact uI_s
    refine sgX12_readAct hG [62] 60 38 ?_
    refine And.intro (by exact vp_in_nI (by omega) (by omega)) ?_
    rw [c0, ← e1]
    refine And.intro (fun d => ?_) (fun d => ?_)
    rotate_left
    · -- c
      have ef : aF (T p) = 4 := by unfold aF; rw [← ew, d]; decide
      refine h I1 _ g2 t2 a2 (acPo_of ?_ (fun _ => ⟨by rw [w0, ew], fun q => absurd (q.symm.trans (ew.symm.trans d)) (by decide), fun q => absurd (q.symm.trans (ew.symm.trans d)) (by decide), fun q => absurd (q.symm.trans (ew.symm.trans d)) (by decide)⟩))
      rw [ef]
      have f0 : fit (T p) 99 = true := by rw [← ew, d]; decide
      show _ = pSt T 99 (p, none)
      rw [pSt_ok f0]
    refine sgX12_readAct hG [] 90 62 ?_
    refine m_digit hG (by decide) ok t2 a2 57 10 (Or.inr ⟨rfl, rfl⟩) (fun I3 v3 f3 a3 k3 => ?_)
    rw [← eT] at a3 k3
    have t3 := mTx_fr t2 f3
    refine And.intro (by rw [i1]; exact vp_in_nI (by omega) (by omega)) ?_
    rw [c1]
    have w3 : I3 317 (4 * n) = w := by rw [f3.1 317 (by decide)]; exact w0
    have g3 : mAf I (z_upI I3 317 (4 * n + 1) v3) n := mAf_tr g2 (mAf_tr (mPf_Af f3) (mAf_u (by omega)))
    refine And.intro (fun d2 => ?_) (fun d2 => ?_)
    rotate_left
    · -- d
      have ef : aF (T p) = 2 := by unfold aF; rw [← ew, d2]; decide
      have f0 : fit (T p) 100 = true := by rw [← ew, d2]; decide
      refine h _ _ g3 (mTx_a t3) (mAt_a a3) (acPo_of ?_ (fun W => ⟨by rw [uI_k (by omega), w3, ew], fun q => absurd (q.symm.trans (ew.symm.trans d2)) (by decide), fun _ => ?_, fun q => absurd (q.symm.trans (ew.symm.trans d2)) (by decide)⟩))
      · rw [ef]
        show _ = pSt T 57 (pSt T 100 (p, none))
        rw [pSt_ok f0]
      · rw [ef] at W
        obtain ⟨_, W1⟩ := mis_c W
        obtain ⟨m1, _⟩ := mis_c W1
        rw [uI_s]; exact k3 rfl m1
    refine And.intro (fun d3 => ?_) (fun d3 => ?_)
    · -- b
      have hb : w = 98 := by
        rcases hw with z | z | z | z
        · exact z
        · exact absurd z d2
        · exact absurd z d3
        · exact absurd z d
      have ef : aF (T p) = 1 := by unfold aF; rw [← ew, hb]; decide
      have f0 : fit (T p) 98 = true := by rw [← ew, hb]; decide
      refine m_sided hG (by decide) ok (mTx_a t3) (mAt_a a3) (fun I4 v4 f4 a4 k4 => ?_)
      have t4 := mTx_fr (mTx_a t3) f4
      refine m_digit hG (by decide) ok t4 a4 57 10 (Or.inr ⟨rfl, rfl⟩) (fun I5 v5 f5 a5 k5 => ?_)
      have t5 := mTx_fr t4 f5
      refine m_digit hG (by decide) ok t5 a5 57 10 (Or.inr ⟨rfl, rfl⟩) (fun I6 v6 f6 a6 k6 => ?_)
      have t6 := mTx_fr t5 f6
      rw [← eT] at a6 k4 k5 k6
      refine And.intro (by rw [i2]; exact vp_in_nI (by omega) (by omega)) ?_
      rw [c2]
      have r1 : I6 317 (4 * n + 1) = v3 := by rw [f6.1 317 (by decide), f5.1 317 (by decide), f4.1 317 (by decide), uI_s]
      have r0 : I6 317 (4 * n) = w := by rw [f6.1 317 (by decide), f5.1 317 (by decide), f4.1 317 (by decide), uI_k (by omega), w3]
      refine h _ _ (mAf_tr g3 (mAf_tr (mPf_Af f4) (mAf_tr (mPf_Af f5) (mAf_tr (mPf_Af f6) (mAf_u (by omega)))))) (mTx_a t6) (mAt_a a6) (acPo_of ?_ (fun W => ⟨by rw [uI_k (by omega), r0, ew], fun _ => ?_, fun q => absurd (q.symm.trans (ew.symm.trans hb)) (by decide), fun q => absurd (q.symm.trans (ew.symm.trans hb)) (by decide)⟩))
      · rw [ef]
        show _ = pSt T 57 (pSt T 57 (pSt T 43 (pSt T 57 (pSt T 98 (p, none)))))
        rw [pSt_ok f0]
      · rw [ef] at W
        obtain ⟨_, W1⟩ := mis_c W
        obtain ⟨m1, W2⟩ := mis_c W1
        obtain ⟨m2, W3⟩ := mis_c W2
        obtain ⟨m3, W4⟩ := mis_c W3
        obtain ⟨m4, _⟩ := mis_c W4
        have s1 : pSt T 57 (p + 1, none) = (p + 2, none) := pSt_ok m1
        have s2 : pSt T 43 (p + 2, none) = (p + 3, none) := pSt_ok m2
        have s3 : pSt T 57 (p + 3, none) = (p + 4, none) := pSt_ok m3
        have x3 : v3 = T (p + 1) - 48 := k3 rfl m1
        rw [s1] at k4
        have x4 : v4 = if T (p + 2) = 45 then -1 else 1 := k4 rfl m2
        rw [s1, s2] at k5
        have x5 : v5 = T (p + 3) - 48 := k5 rfl m3
        rw [s1, s2, s3] at k6
        have x6 : v6 = T (p + 4) - 48 := k6 rfl m4
        refine ⟨by rw [uI_k (by omega), r1, x3], ?_⟩
        rw [uI_s, x4, x5, x6, sgn_m, Int32.mul_comm, Int32.sub_eq_add_neg (T (p + 4)), ← Int32.add_assoc, ← Int32.sub_eq_add_neg]
    · -- s
      have ef : aF (T p) = 3 := by unfold aF; rw [← ew, d3]; decide
      have f0 : fit (T p) 115 = true := by rw [← ew, d3]; decide
      refine m_digit hG (by decide) ok (mTx_a t3) (mAt_a a3) 57 10 (Or.inr ⟨rfl, rfl⟩) (fun I4 v4 f4 a4 k4 => ?_)
      have t4 := mTx_fr (mTx_a t3) f4
      refine And.intro (by rw [i2]; exact vp_in_nI (by omega) (by omega)) ?_
      rw [c2]
      refine m_digit hG (by decide) ok (mTx_a t4) (mAt_a a4) 57 10 (Or.inr ⟨rfl, rfl⟩) (fun I5 v5 f5 a5 k5 => ?_)
      have t5 := mTx_fr (mTx_a t4) f5
      rw [← eT] at a5 k4 k5
      refine And.intro (by rw [i3]; exact vp_in_nI (by omega) (by omega)) ?_
      rw [c3]
      have r2 : I5 317 (4 * n + 2) = v4 := by rw [f5.1 317 (by decide), uI_s]
      have r1 : I5 317 (4 * n + 1) = v3 := by rw [f5.1 317 (by decide), uI_k (by omega), f4.1 317 (by decide), uI_s]
      have r0 : I5 317 (4 * n) = w := by rw [f5.1 317 (by decide), uI_k (by omega), f4.1 317 (by decide), uI_k (by omega), w3]
      refine h _ _ (mAf_tr g3 (mAf_tr (mPf_Af f4) (mAf_tr (mAf_u (by omega)) (mAf_tr (mPf_Af f5) (mAf_u (by omega)))))) (mTx_a t5) (mAt_a a5) (acPo_of ?_ (fun W => ⟨by rw [uI_k (by omega), r0, ew], fun q => absurd (q.symm.trans (ew.symm.trans d3)) (by decide), fun q => absurd (q.symm.trans (ew.symm.trans d3)) (by decide), fun _ => ?_⟩))
      · rw [ef]
        show _ = pSt T 57 (pSt T 57 (pSt T 57 (pSt T 115 (p, none))))
        rw [pSt_ok f0]
      · rw [ef] at W
        obtain ⟨_, W1⟩ := mis_c W
        obtain ⟨m1, W2⟩ := mis_c W1
        obtain ⟨m2, W3⟩ := mis_c W2
        obtain ⟨m3, _⟩ := mis_c W3
        have s1 : pSt T 57 (p + 1, none) = (p + 2, none) := pSt_ok m1
        have s2 : pSt T 57 (p + 2, none) = (p + 3, none) := pSt_ok m2
        have x3 : v3 = T (p + 1) - 48 := k3 rfl m1
        rw [s1] at k4
        have x4 : v4 = T (p + 2) - 48 := k4 rfl m2
        rw [s1, s2] at k5
        have x5 : v5 = T (p + 3) - 48 := k5 rfl m3
        exact ⟨by rw [uI_k (by omega), r1, x3], by rw [uI_k (by omega), r2, x4], by rw [uI_s, x5]⟩
  refine rnX12_readAct hG hk 305 _ ?_
  refine sgX12_readAct hG [38] 60 0 ?_
  refine m_here hG (by decide) ok ht ha ?_
  rw [← eT]
  refine And.intro (fun c => z38 _ _ _ rfl (Or.inl c)) (fun n1 => ?_)
  refine And.intro (fun c => z38 _ _ _ rfl (Or.inr (Or.inl c))) (fun n2 => ?_)
  refine And.intro (fun c => z38 _ _ _ rfl (Or.inr (Or.inr (Or.inl c)))) (fun n3 => ?_)
  refine And.intro (fun c => z38 _ _ _ rfl (Or.inr (Or.inr (Or.inr c)))) (fun n4 => ?_)
  refine m_fault hG (by decide) ha (x := p) (by omega) ha.1 (fun I1 f1 a1 => ?_)
  refine h I1 _ (mPf_Af f1) (mTx_fr ht f1) a1 ?_
  have ef : aF (T p) = 4 := by unfold aF; rw [if_neg n1, if_neg n2, if_neg n3]
  refine acPo_of ?_ (fun W => ?_)
  · rw [ef]
    show _ = pSt T 99 (p, none)
    have f0 : ¬ fit (T p) 99 = true := by
      rw [fit_o (by decide) (by decide) (by decide)]
      exact fun q => n4 (of_decide_eq_true q)
    have e : pSt T 99 (p, none) = (p, some p) := if_neg f0
    rw [e]; rfl
  · exfalso
    rw [ef] at W
    obtain ⟨m0, _⟩ := mis_c W
    rw [fit_o (by decide) (by decide) (by decide)] at m0
    exact n4 (of_decide_eq_true m0)
