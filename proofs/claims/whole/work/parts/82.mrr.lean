-- ===== a row is read (model) =====
theorem fit_o {c w : Int32} (h1 : ¬ w = 43) (h2 : ¬ w = 53) (h3 : ¬ w = 57) : fit c w = decide (c = w) := by unfold fit; rw [if_neg h1, if_neg h2, if_neg h3]
def pW (T : Nat → Int32) (ws : List Int32) (s : Nat × Option Nat) : Nat × Option Nat := ws.foldl (fun s w => pSt T w s) s
theorem pW_some {T : Nat → Int32} {a e : Nat} : ∀ ws, pW T ws (a, some e) = (a, some e)
  | [] => rfl
  | w :: ws => pW_some (T := T) (a := a) (e := e) ws
theorem pW_mis {T : Nat → Int32} : ∀ ws p, pW T ws (p, none) = match mis T p ws with | none => (p + ws.length, none) | some e => (e, some e)
  | [], p => rfl
  | w :: ws, p => by
    show pW T ws (if fit (T p) w then (p + 1, none) else (p, some p)) = match (if fit (T p) w then mis T (p + 1) ws else some p) with | none => (p + (ws.length + 1), none) | some e => (e, some e)
    split
    · rw [pW_mis ws (p + 1), show p + 1 + ws.length = p + (ws.length + 1) by omega]
    · rw [pW_some]
theorem mis_c {T : Nat → Int32} {p : Nat} {w : Int32} {ws : List Int32} (h : mis T p (w :: ws) = none) : fit (T p) w = true ∧ mis T (p + 1) ws = none := by
  have h : (if fit (T p) w then mis T (p + 1) ws else some p) = none := h
  split at h
  · exact ⟨by assumption, h⟩
  · cases h
theorem pSt_ok {T : Nat → Int32} {p : Nat} {w : Int32} (h : fit (T p) w = true) : pSt T w (p, none) = (p + 1, none) := if_pos h
theorem fit_lt {tn : Nat} {tf : Nat → Int32} {p : Nat} {w : Int32} (hw : ¬ w = -1) (h : fit (tAt tn tf p) w = true) : p < tn := by
  rcases Nat.lt_or_ge p tn with z | z
  · exact z
  · exfalso
    have e : tAt tn tf p = -1 := by unfold tAt; rw [if_neg (by omega)]
    rw [e] at h
    unfold fit at h
    split at h
    · exact absurd h (by decide)
    · split at h
      · exact absurd h (by decide)
      · split at h
        · exact absurd h (by decide)
        · exact hw (of_decide_eq_true h).symm
theorem dgt_lt {tn : Nat} {tf : Nat → Int32} {p : Nat} (h : dgt (tAt tn tf p) = true) : p < tn := fit_lt (w := 57) (by decide) (by unfold fit; rw [if_neg (by decide), if_neg (by decide), if_pos rfl]; exact h)
theorem fit_57 (c : Int32) : fit c 57 = dgt c := by unfold fit; rw [if_neg (by decide), if_neg (by decide), if_pos rfl]
theorem rwE_n {tn : Nat} {tf : Nat → Int32} {p : Nat} (h : rwE (tAt tn tf) p = none) : mis (tAt tn tf) p wRow = none ∧ dgt (tAt tn tf (rwFst (tAt tn tf) p)) = true ∧ rwAft (tAt tn tf) p ≤ tn := by
  unfold rwE at h
  split at h
  · cases h
  · rename_i q
    split at h
    · rename_i d
      refine ⟨q, d, ?_⟩
      have := dgt_lt d
      unfold rwAft
      split
      · rename_i t
        have := dgt_lt (show dgt (tAt tn tf (rwFst (tAt tn tf) p + 1)) = true from t)
        omega
      · omega
    · cases h
theorem sgn_m (c v : Int32) : (if c = 45 then -1 else 1) * v = sgn c v := by
  unfold sgn
  split
  · rw [Int32.neg_mul, Int32.one_mul]
  · rw [Int32.one_mul]
def mRf (I I' : Nat → Nat → Int32) (n : Nat) : Prop := (∀ x, x ≠ 305 → x ≠ 309 → I' x = I x) ∧ (∀ j, j ≠ 9 → j ≠ 10 → I' 305 j = I 305 j) ∧ ∀ j, j < 3 * n → I' 309 j = I 309 j
theorem mRf_rfl {I : Nat → Nat → Int32} {n : Nat} : mRf I I n := ⟨fun _ _ _ => rfl, fun _ _ _ => rfl, fun _ _ => rfl⟩
theorem mRf_tr {I I1 I2 : Nat → Nat → Int32} {n : Nat} (h1 : mRf I I1 n) (h2 : mRf I1 I2 n) : mRf I I2 n := ⟨fun x a b => (h2.1 x a b).trans (h1.1 x a b), fun j a b => (h2.2.1 j a b).trans (h1.2.1 j a b), fun j a => (h2.2.2 j a).trans (h1.2.2 j a)⟩
theorem mPf_Rf {I I1 : Nat → Nat → Int32} {n : Nat} (h : mPf I I1) : mRf I I1 n := ⟨fun x a _ => h.1 x a, h.2, fun j _ => by rw [h.1 309 (by decide)]⟩
theorem mRf_u {I : Nat → Nat → Int32} {n k : Nat} {v : Int32} (h : 3 * n ≤ k) : mRf I (z_upI I 309 k v) n := ⟨fun x _ b => z_upI_ne b, fun j _ _ => uI_p (by decide), fun j hj => uI_k (by omega)⟩
theorem mTx_u {I : Nat → Nat → Int32} {tn k : Nat} {tf : Nat → Int32} {v : Int32} (h : mTx I tn tf) : mTx (z_upI I 309 k v) tn tf := ⟨by rw [uI_p (by decide)]; exact h.1, fun j hj => by rw [uI_p (by decide)]; exact h.2 j hj⟩
theorem mAt_u {I : Nat → Nat → Int32} {k : Nat} {s : Nat × Option Nat} {v : Int32} (h : mAt I s) : mAt (z_upI I 309 k v) s := ⟨by rw [uI_p (by decide)]; exact h.1, by rw [uI_p (by decide)]; exact h.2.1, h.2.2⟩
def rwPo (T : Nat → Int32) (p n : Nat) (I' : Nat → Nat → Int32) (s : Nat × Option Nat) : Prop := match rwE T p with
  | some e => s.2 = some e
  | none => s = (rwAft T p, none) ∧ I' 309 (3 * n) = sgn (T p) (T (p + 1) - 48) ∧ I' 309 (3 * n + 1) = sgn (T (p + 3)) (T (p + 4) - 48) ∧ I' 309 (3 * n + 2) = sgn (T (p + 7)) (rwVal T p)
theorem m_readRow {G : zG} (hG : zGok G) {k' : Nat} (hk : 5 ≤ k') {I : Nat → Nat → Int32} {J : Nat → Nat → Int64} {past : Nat → Nat} {Q : zRt} {tn : Nat} {tf : Nat → Int32} (ok : tOk tn tf) (ht : mTx I tn tf) {p n : Nat} (ha : mAt I (p, none)) (hn : n < 7) {K : Int32} (eK : K = nI (3 * n)) (h : ∀ I' s, mRf I I' n → mTx I' tn tf → mAt I' s → rwPo (tAt tn tf) p n I' s → Q none (zK0, I', J, zR0 past)) : zCalls G k' yX12_readRow [.ref 305, .int K] (zK0, I, J, zR0 past) Q := by
  subst eK
  obtain ⟨T, eT⟩ : ∃ T, T = tAt tn tf := ⟨_, rfl⟩
  have h80 := ok.1
  have c0 : (nI (3 * n)).toNatClampNeg = 3 * n := nI_clamp (by omega)
  have i1 : nI (3 * n) + 1 = nI (3 * n + 1) := nI_1 _
  have i2 : nI (3 * n) + 2 = nI (3 * n + 2) := by rw [show (2 : Int32) = nI 2 from rfl, nI_add]
  have c1 : (nI (3 * n) + 1).toNatClampNeg = 3 * n + 1 := by rw [i1, nI_clamp (by omega)]
  have c2 : (nI (3 * n) + 2).toNatClampNeg = 3 * n + 2 := by rw [i2, nI_clamp (by omega)]
  refine rnX12_readRow hG hk 305 _ ?_
  refine sgX12_readRow hG [72] 60 0 ?_
  refine m_sided hG (by decide) ok ht ha (fun I1 v1 f1 a1 k1 => ?_)
  have t1 := mTx_fr ht f1
  refine m_digit hG (by decide) ok t1 a1 53 6 (Or.inl ⟨rfl, rfl⟩) (fun I2 v2 f2 a2 k2 => ?_)
  have t2 := mTx_fr t1 f2
  refine And.intro (by exact vp_in_nI (by omega) (by omega)) ?_
  rw [c0]
  refine m_need hG (by decide) ok (mTx_u t2) (mAt_u a2) 120 (by decide) (fun _ => fit_o (by decide) (by decide) (by decide)) (fun I3 f3 a3 => ?_)
  have t3 := mTx_fr (mTx_u t2) f3
  refine m_sided hG (by decide) ok t3 a3 (fun I4 v4 f4 a4 k4 => ?_)
  have t4 := mTx_fr t3 f4
  refine m_digit hG (by decide) ok t4 a4 53 6 (Or.inl ⟨rfl, rfl⟩) (fun I5 v5 f5 a5 k5 => ?_)
  have t5 := mTx_fr t4 f5
  refine And.intro (by rw [i1]; exact vp_in_nI (by omega) (by omega)) ?_
  rw [c1]
  refine m_need hG (by decide) ok (mTx_u t5) (mAt_u a5) 121 (by decide) (fun _ => fit_o (by decide) (by decide) (by decide)) (fun I6 f6 a6 => ?_)
  have t6 := mTx_fr (mTx_u t5) f6
  refine m_need hG (by decide) ok t6 a6 60 (by decide) (fun _ => fit_o (by decide) (by decide) (by decide)) (fun I7 f7 a7 => ?_)
  have t7 := mTx_fr t6 f7
  rw [← eT] at a7 k1 k2 k4 k5 h
  have g7 : mRf I I7 n := mRf_tr (mPf_Rf f1) (mRf_tr (mPf_Rf f2) (mRf_tr (mRf_u (by omega)) (mRf_tr (mPf_Rf f3) (mRf_tr (mPf_Rf f4) (mRf_tr (mPf_Rf f5) (mRf_tr (mRf_u (by omega)) (mRf_tr (mPf_Rf f6) (mPf_Rf f7))))))))
  have b7 : I7 309 (3 * n) = v1 * v2 ∧ I7 309 (3 * n + 1) = v4 * v5 := by
    refine ⟨?_, ?_⟩
    · rw [f7.1 309 (by decide), f6.1 309 (by decide), uI_k (by omega), f5.1 309 (by decide), f4.1 309 (by decide), f3.1 309 (by decide), uI_s]
    · rw [f7.1 309 (by decide), f6.1 309 (by decide), uI_s]
  have e7 : mAt I7 (pW T wRow (p, none)) := a7
  rw [pW_mis] at e7
  -- the end of it
  have z113 : ∀ (side v : Int32) (s : Nat × Option Nat) (I' : Nat → Nat → Int32), mPf I7 I' → mAt I' s → (match rwE T p with | some e => s.2 = some e | none => s = (rwAft T p, none) ∧ v1 * v2 = sgn (T p) (T (p + 1) - 48) ∧ v4 * v5 = sgn (T (p + 3)) (T (p + 4) - 48) ∧ side * v = sgn (T (p + 7)) (rwVal T p)) → aX12_readRow G Q 113 [some (.ref 305), some (.int (nI (3 * n))), some (.int side), some (.int v)] [] (zK0, I', J, zR0 past) := by
    intro side v s I' f a po
    refine sgX12_readRow hG [] 60 113 ?_
    refine And.intro (by rw [i2]; exact vp_in_nI (by omega) (by omega)) ?_
    rw [c2]
    refine h _ s (mRf_tr g7 (mRf_tr (mPf_Rf f) (mRf_u (by omega)))) (mTx_u (mTx_fr t7 f)) (mAt_u a) ?_
    unfold rwPo
    split at po
    · exact po
    · obtain ⟨p1, p2, p3, p4⟩ := po
      refine ⟨p1, ?_, ?_, ?_⟩
      · rw [uI_k (by omega), f.1 309 (by decide), b7.1, p2]
      · rw [uI_k (by omega), f.1 309 (by decide), b7.2, p3]
      · rw [uI_s, p4]
  cases W : mis T p wRow with
  | some e =>
    rw [W] at e7
    have e7 : mAt I7 (e, some e) := e7
    have eE : rwE T p = some e := by unfold rwE; rw [W]
    have z72 : ∀ (side : Int32) (o2 o3 : Option Value), aX12_readRow G Q 72 [some (.ref 305), some (.int (nI (3 * n))), o2, o3] [.int side] (zK0, I7, J, zR0 past) := by
      intro side o2 o3
      refine sgX12_readRow hG [113] 60 72 ?_
      refine m_digit hG (by decide) ok t7 e7 57 10 (Or.inr ⟨rfl, rfl⟩) (fun I8 v8 f8 a8 _ => ?_)
      refine m_fine hG (by decide) a8 ?_
      refine And.intro (fun _ => ?_) (fun c => absurd rfl c)
      exact z113 _ _ _ I8 f8 a8 (by rw [eE]; rfl)
    refine m_passes hG (by decide) ok t7 e7 45 (by decide) (fun _ => ?_) (fun q => by cases q)
    refine And.intro (fun _ => z72 _ _ _) (fun c => absurd rfl c)
  | none =>
    rw [W] at e7
    have e7 : mAt I7 (p + 7, none) := e7
    obtain ⟨m0, W1⟩ := mis_c W
    obtain ⟨m1, W2⟩ := mis_c W1
    obtain ⟨m2, W3⟩ := mis_c W2
    obtain ⟨m3, W4⟩ := mis_c W3
    obtain ⟨m4, W5⟩ := mis_c W4
    have s1 : pSt T 43 (p, none) = (p + 1, none) := pSt_ok m0
    have s2 : pSt T 53 (p + 1, none) = (p + 2, none) := pSt_ok m1
    have s3 : pSt T 120 (p + 2, none) = (p + 3, none) := pSt_ok m2
    have s4 : pSt T 43 (p + 3, none) = (p + 4, none) := pSt_ok m3
    have x1 := k1 rfl m0
    rw [s1] at k2
    have x2 := k2 rfl m1
    rw [s1, s2, s3] at k4
    have x4 := k4 rfl m3
    rw [s1, s2, s3, s4] at k5
    have x5 := k5 rfl m4
    have x1 : v1 = if T p = 45 then -1 else 1 := x1
    have x2 : v2 = T (p + 1) - 48 := x2
    have x4 : v4 = if T (p + 3) = 45 then -1 else 1 := x4
    have x5 : v5 = T (p + 4) - 48 := x5
    have y1 : v1 * v2 = sgn (T p) (T (p + 1) - 48) := by rw [x1, x2, sgn_m]
    have y2 : v4 * v5 = sgn (T (p + 3)) (T (p + 4) - 48) := by rw [x4, x5, sgn_m]
    have eE : rwE T p = if dgt (T (rwFst T p)) then none else some (rwFst T p) := by unfold rwE; rw [W]
    have z72 : ∀ (I8 : Nat → Nat → Int32) (side : Int32) (o2 o3 : Option Value), mPf I7 I8 → mAt I8 (rwFst T p, none) → side = (if T (p + 7) = 45 then -1 else 1) → aX12_readRow G Q 72 [some (.ref 305), some (.int (nI (3 * n))), o2, o3] [.int side] (zK0, I8, J, zR0 past) := by
      intro I8 side o2 o3 f8 a8 es
      have t8 := mTx_fr t7 f8
      refine sgX12_readRow hG [113] 60 72 ?_
      refine m_digit hG (by decide) ok t8 a8 57 10 (Or.inr ⟨rfl, rfl⟩) (fun I9 v9 f9 a9 k9 => ?_)
      rw [← eT] at a9 k9
      have t9 := mTx_fr t8 f9
      refine m_fine hG (by decide) a9 ?_
      cases d : dgt (T (rwFst T p)) with
      | false =>
        rw [d, if_neg (by decide)] at eE
        have sx : pSt T 57 (rwFst T p, none) = (rwFst T p, some (rwFst T p)) := if_neg (by rw [fit_57, d]; decide)
        rw [sx] at a9 ⊢
        refine And.intro (fun _ => ?_) (fun c => absurd rfl c)
        exact z113 _ _ _ I9 (mPf_tr f8 f9) a9 (by rw [eE])
      | true =>
        rw [d, if_pos rfl] at eE
        have sx : pSt T 57 (rwFst T p, none) = (rwFst T p + 1, none) := pSt_ok (by rw [fit_57, d])
        have x9 := k9 rfl (by rw [fit_57]; exact d)
        have x9 : v9 = T (rwFst T p) - 48 := x9
        rw [sx] at a9 ⊢
        refine And.intro (fun c => absurd c (show ¬ zb true = 0 by decide)) (fun _ => ?_)
        refine m_here hG (by decide) ok t9 a9 ?_
        rw [← eT]
        refine m_in hG (by decide) _ _ _ ?_
        rw [z_ifb]
        have ed : (decide ((48 : Int32) ≤ T (rwFst T p + 1)) && decide (T (rwFst T p + 1) ≤ 57)) = rwTwo T p := rfl
        refine And.intro (fun c => ?_) (fun c => ?_)
        · have c : rwTwo T p = false := (zb_eq0 _).mp c
          refine z113 _ _ _ I9 (mPf_tr f8 f9) a9 ?_
          rw [eE]
          refine ⟨?_, y1, y2, ?_⟩
          · unfold rwAft; rw [c]; rfl
          · rw [es, x9, sgn_m]; unfold rwVal; rw [c]; rfl
        · have c : rwTwo T p = true := z_nb1 (x := 0) c
          refine m_digit hG (by decide) ok t9 a9 57 10 (Or.inr ⟨rfl, rfl⟩) (fun I10 v10 f10 a10 k10 => ?_)
          rw [← eT] at a10 k10
          have sy : pSt T 57 (rwFst T p + 1, none) = (rwFst T p + 2, none) := pSt_ok (by rw [fit_57]; exact c)
          have x10 := k10 rfl (by rw [fit_57]; exact c)
          have x10 : v10 = T (rwFst T p + 1) - 48 := x10
          rw [sy] at a10
          refine z113 _ _ _ I10 (mPf_tr f8 (mPf_tr f9 f10)) a10 ?_
          rw [eE]
          refine ⟨?_, y1, y2, ?_⟩
          · unfold rwAft; rw [c]; rfl
          · rw [es, x9, x10, sgn_m]; unfold rwVal; rw [c, if_pos rfl, Int32.mul_comm, Int32.sub_eq_add_neg (T (rwFst T p + 1)), ← Int32.add_assoc, ← Int32.sub_eq_add_neg]
    refine m_passes hG (by decide) ok t7 e7 45 (by decide) (fun q => ?_) (fun q I8 f8 a8 => ?_)
    · rw [← eT] at q
      have q : decide (T (p + 7) = 45) = false := q
      have q := of_decide_eq_false q
      refine And.intro (fun _ => ?_) (fun c => absurd rfl c)
      exact z72 I7 1 _ _ mPf_rfl (by unfold rwFst; rw [if_neg q]; exact e7) (by rw [if_neg q])
    · rw [← eT] at q
      have q : decide (T (p + 7) = 45) = true := q
      have q := of_decide_eq_true q
      refine And.intro (fun c => absurd c (by decide)) (fun _ => ?_)
      exact z72 I8 (-1) _ _ f8 (by unfold rwFst; rw [if_pos q]; exact a8) (by rw [if_pos q])
