-- ===== rows (model) =====
theorem mSt_rd {I I1 : Nat → Nat → Int32} {J : Nat → Nat → Int64} {S : zS} (hS : mSt I J S) (hf : ∀ x, x ≠ 305 → x ≠ 309 → x ≠ 317 → I1 x = I x) (h13 : I1 305 13 = I 305 13) (h4 : I1 305 4 = I 305 4) (h2 : I1 305 2 = 0) : mSt I1 J (sTx0 S) := by
  obtain ⟨a1, a2, a3, a4, a5⟩ := hS
  exact ⟨mPl_fr a1 (hf 306 (by decide) (by decide) (by decide)), mHis_fr a2 h13 (hf 310 (by decide) (by decide) (by decide)), mKep_fr a3 (hf 319 (by decide) (by decide) (by decide)) (hf 318 (by decide) (by decide) (by decide)), ⟨h2, fun j hj => absurd hj (Nat.not_lt_zero j)⟩, mNum_fr a5 h4 rfl⟩
theorem m_begin {G : zG} (hG : zGok G) {k' : Nat} (hk : 1 ≤ k') {I : Nat → Nat → Int32} {J : Nat → Nat → Int64} {past : Nat → Nat} {Q : zRt} {tn : Nat} (ht : I 305 2 = nI tn) (h : ∀ I', (∀ x, x ≠ 305 → I' x = I x) → (∀ j, j ≠ 2 → j ≠ 8 → j ≠ 9 → j ≠ 10 → I' 305 j = I 305 j) → I' 305 2 = 0 → I' 305 8 = nI tn → mAt I' (0, none) → Q none (zK0, I', J, zR0 past)) : zCalls G k' yX12_begin [.ref 305] (zK0, I, J, zR0 past) Q := by
  refine rnX12_begin hG hk 305 ?_
  refine sgX12_begin hG [] 60 0 ?_
  refine h _ (fun x hx => by rw [z_upI_ne hx, z_upI_ne hx, z_upI_ne hx, z_upI_ne hx]) (fun j a b c d => by rw [uI_k a, uI_k d, uI_k c, uI_k b]) uI_s ?_ ⟨?_, ?_, by decide, fun e he => by cases he⟩
  · rw [uI_k (by decide), uI_k (by decide), uI_k (by decide), uI_s, ht]
  · rw [uI_k (by decide), uI_k (by decide), uI_s]; rfl
  · rw [uI_k (by decide), uI_s]; rfl
def pWr (tn : Nat) (s : Nat × Option Nat) : Nat × Option Nat := if s.1 < tn then pFlt s s.1 else s
theorem m_wasRight {G : zG} (hG : zGok G) {k' : Nat} (hk : 3 ≤ k') {I : Nat → Nat → Int32} {J : Nat → Nat → Int64} {past : Nat → Nat} {Q : zRt} {tn : Nat} {tf : Nat → Int32} (ok : tOk tn tf) (ht : mTx I tn tf) {s : Nat × Option Nat} (ha : mAt I s) (h : ∀ I', mPf I I' → mAt I' (pWr tn s) → Q (some (.int (zb (pWr tn s).2.isNone))) (zK0, I', J, zR0 past)) : zCalls G k' yX12_wasRight [.ref 305] (zK0, I, J, zR0 past) Q := by
  have h80 := ok.1
  have hs := ha.2.2.1
  unfold pWr at h
  refine rnX12_wasRight hG hk 305 ?_
  refine sgX12_wasRight hG [] 60 0 ?_
  refine And.intro (fun c => ?_) (fun c => ?_)
  · rw [ht.1, ha.1, nI_leI (by omega) (by omega)] at c
    rw [if_neg (by omega)] at h
    refine m_fine hG (by decide) ha ?_
    exact And.intro (zb_z _) (h I mPf_rfl ha)
  · rw [ht.1, ha.1, nI_leI (by omega) (by omega)] at c
    rw [if_pos (by omega)] at h
    refine m_fault hG (by decide) ha (x := s.1) hs ha.1 (fun I1 f1 a1 => ?_)
    refine m_fine hG (by decide) a1 ?_
    exact And.intro (zb_z _) (h I1 f1 a1)
theorem rwAdd_get {T : Nat → Int32} {p : Nat} {A : zRws} {g : Nat → Int32} (h : ∀ j, j < 3 * A.1 → g j = A.2 j) (h0 : g (3 * A.1) = sgn (T p) (T (p + 1) - 48)) (h1 : g (3 * A.1 + 1) = sgn (T (p + 3)) (T (p + 4) - 48)) (h2 : g (3 * A.1 + 2) = sgn (T (p + 7)) (rwVal T p)) : ∀ j, j < 3 * (A.1 + 1) → g j = (rwAdd T p A).2 j := by
  intro j hj
  show g j = upd (upd (upd A.2 (3 * A.1) _) (3 * A.1 + 1) _) (3 * A.1 + 2) _ j
  rcases (show j < 3 * A.1 ∨ j = 3 * A.1 ∨ j = 3 * A.1 + 1 ∨ j = 3 * A.1 + 2 by omega) with z | z | z | z
  · rw [pk_un (by omega), pk_un (by omega), pk_un (by omega)]; exact h j z
  · rw [z, pk_un (by omega), pk_un (by omega), pk_us]; exact h0
  · rw [z, pk_un (by omega), pk_us]; exact h1
  · rw [z, pk_us]; exact h2
theorem m_rows {G : zG} (hG : zGok G) {k' : Nat} (hk : 6 ≤ k') {I : Nat → Nat → Int32} {J : Nat → Nat → Int64} {past : Nat → Nat} {Q : zRt} {S : zS} (hS : mSt I J S) (hv : vS S) (h : ∀ I' J', mSt I' J' (sRws S).2 → mFr I J I' J' → Q (some (.int (sRws S).1)) (zK0, I', J', zR0 past)) : zCalls G k' yX12_rows [.ref 305] (zK0, I, J, zR0 past) Q := by
  have hS0 := mSt_thr (v := 0) hS
  have hQ0 : mQ I J (z_upI I 305 5 0) J := mQ_u (by omega)
  obtain ⟨v6, v8, vh, vn⟩ := vS_6 hv
  obtain ⟨tn, etn⟩ : ∃ tn, tn = S.2.2.2.1.1 := ⟨_, rfl⟩
  obtain ⟨tf, etf⟩ : ∃ tf, tf = S.2.2.2.1.2 := ⟨_, rfl⟩
  obtain ⟨T, eT⟩ : ∃ T, T = tAt tn tf := ⟨_, rfl⟩
  have ok : tOk tn tf := by rw [etn, etf]; exact hv.2.2.2.1
  have h80 := ok.1
  refine rnX12_rows hG hk 305 ?_
  refine sgX12_rows hG [24] 60 0 ?_
  refine m_begin hG (by decide) (tn := tn) (by rw [etn]; exact hS0.2.2.2.1.1) (fun Ib fb gb b2 b8 ab => ?_)
  have tb : mTx Ib tn tf := ⟨b8, fun j hj => by rw [fb 307 (by decide), etf]; exact hS0.2.2.2.1.2 j (by rw [← etn]; exact hj)⟩
  -- the frame of all that reads
  have stB : ∀ I', (∀ x, x ≠ 305 → x ≠ 309 → I' x = Ib x) → (∀ j, j ≠ 9 → j ≠ 10 → I' 305 j = Ib 305 j) → mSt I' J (sTx0 S) ∧ mFr I J I' J := by
    intro I' f g
    refine ⟨mSt_rd hS0 (fun x a b _ => by rw [f x a b, fb x a]) (by rw [g 13 (by decide) (by decide), gb 13 (by decide) (by decide) (by decide) (by decide)]) (by rw [g 4 (by decide) (by decide), gb 4 (by decide) (by decide) (by decide) (by decide)]) (by rw [g 2 (by decide) (by decide), b2]), fun x hx => ⟨?_, rfl⟩⟩
    rw [f x (by omega) (by omega), fb x (by omega)]
    exact (mQ_fr hQ0 x hx).1
  unfold sRws at h
  rw [← etn, ← etf] at h
  -- all signs are read
  have z101 : ∀ (o : Nat ⊕ zRws) (n : Nat) (m2 : Int32) (o3 : Option Value) (s : Nat × Option Nat) (I' : Nat → Nat → Int32), rwP tn tf = o → (∀ x, x ≠ 305 → x ≠ 309 → I' x = Ib x) → (∀ j, j ≠ 9 → j ≠ 10 → I' 305 j = Ib 305 j) → mAt I' s → (match o with | .inl e => (pWr tn s).2 = some e | .inr A => (pWr tn s).2 = none ∧ A.1 = n ∧ ∀ j, j < 3 * n → I' 309 j = A.2 j) → aX12_rows G Q 101 [some (.ref 305), some (.int (nI n)), some (.int m2), o3] [] (zK0, I', J, zR0 past) := by
    intro o n m2 o3 s I' eo f g a po
    have t' : mTx I' tn tf := ⟨by rw [g 8 (by decide) (by decide)]; exact b8, fun j hj => by rw [f 307 (by decide) (by decide)]; exact tb.2 j hj⟩
    rw [eo] at h
    refine sgX12_rows hG [117] 60 101 ?_
    refine m_wasRight hG (by decide) ok t' a (fun I1 f1 a1 => ?_)
    have f2 : ∀ x, x ≠ 305 → x ≠ 309 → I1 x = Ib x := fun x x1 x2 => (f1.1 x x1).trans (f x x1 x2)
    have g2 : ∀ j, j ≠ 9 → j ≠ 10 → I1 305 j = Ib 305 j := fun j j1 j2 => (f1.2 j j1 j2).trans (g j j1 j2)
    cases o with
    | inl e =>
      have po : (pWr tn s).2 = some e := po
      have e10 := a1.2.1
      rw [po] at e10 ⊢
      refine And.intro (fun c => absurd rfl c) (fun _ => ?_)
      have e10 : I1 305 10 = nI e := e10
      have k : Q (some (.int (-1 - nI e))) (zK0, I1, J, zR0 past) := h I1 J (stB I1 f2 g2).1 (stB I1 f2 g2).2
      rw [← e10] at k
      exact k
    | inr A =>
      obtain ⟨p1, p2, p3⟩ := po
      subst p2
      have a6 := rwP_6 eo
      rw [p1]
      refine And.intro (fun _ => ?_) (fun c => absurd c (show ¬ zb true = 0 by decide))
      have h : ∀ I' J', mSt I' J' (match fwF (rwB A) 0 A.1 with | some k => (-100 - nI k, sTx0 S) | none => (nI A.1, (rwPl S A, hPush S.2.1.1 S.2.1.2 S.1, (sTx0 S).2.2))).2 → mFr I J I' J' → Q (some (.int (match fwF (rwB A) 0 A.1 with | some k => (-100 - nI k, sTx0 S) | none => (nI A.1, (rwPl S A, hPush S.2.1.1 S.2.1.2 S.1, (sTx0 S).2.2))).1)) (zK0, I', J', zR0 past) := h
      have r1 : ∀ j, j < 3 * A.1 → I1 309 j = A.2 j := fun j hj => by rw [f1.1 309 (by decide)]; exact p3 j hj
      have loop : ∀ (r k : Nat) (v : Int32), v = nI k → k + r = A.1 → fwF (rwB A) 0 A.1 = fwF (rwB A) k r → aX12_rows G Q 117 [some (.ref 305), some (.int (nI A.1)), some (.int m2), some (.int v)] [] (zK0, I1, J, zR0 past) := by
        intro r
        induction r with
        | succ r ih =>
          intro k v ev hk ef
          subst ev
          have e1 : fwF (rwB A) k (r + 1) = if rwB A k then fwF (rwB A) (k + 1) r else some k := rfl
          rw [e1] at ef
          have i0 : (3 : Int32) * nI k = nI (3 * k) := by rw [show (3 : Int32) = nI 3 from rfl, pk_mul]
          have i1 : (3 : Int32) * nI k + 1 = nI (3 * k + 1) := by rw [i0, nI_1]
          have i2 : (3 : Int32) * nI k + 2 = nI (3 * k + 2) := by rw [i0, show (2 : Int32) = nI 2 from rfl, nI_add]
          refine sgX12_rows hG [117] 60 117 ?_
          refine And.intro (fun q => absurd q (by rw [nI_leI (by omega) (by omega)]; omega)) (fun _ => ?_)
          refine And.intro (by rw [i0]; exact vp_in_nI (by omega) (by omega)) ?_
          refine And.intro (by rw [i1]; exact vp_in_nI (by omega) (by omega)) ?_
          refine And.intro (by rw [i2]; exact vp_in_nI (by omega) (by omega)) ?_
          refine m_canBe hG (by decide) _ _ _ ?_
          have eb : bRw (I1 309 ((3 : Int32) * nI k).toNatClampNeg) (I1 309 ((3 : Int32) * nI k + 1).toNatClampNeg) (I1 309 ((3 : Int32) * nI k + 2).toNatClampNeg) = rwB A k := by
            rw [i2, i1, i0, nI_clamp (by omega), nI_clamp (by omega), nI_clamp (by omega), r1 _ (by omega), r1 _ (by omega), r1 _ (by omega)]; rfl
          rw [eb]
          refine And.intro (fun q => ?_) (fun q => ?_)
          · rw [z_nb1 (x := 0) q, if_pos rfl] at ef
            exact ih (k + 1) _ (by rw [nI_1]) (by omega) ef
          · rw [(zb_eq0 _).mp q, if_neg (by decide)] at ef
            rw [ef] at h
            exact h I1 J (stB I1 f2 g2).1 (stB I1 f2 g2).2
        | zero =>
          intro k v ev hk ef
          subst ev
          have ef : fwF (rwB A) 0 A.1 = none := ef
          rw [ef] at h
          have st1 := stB I1 f2 g2
          refine sgX12_rows hG [180] 60 117 ?_
          refine And.intro (fun _ => ?_) (fun q => absurd (by rw [nI_leI (by omega) (by omega)]; omega) q)
          refine m_change hG (by decide) st1.1.1 st1.1.2.1 vn vh ⟨v6, v8⟩ (fun I3 f3 g3 k3 => ?_)
          have st3 := mSt_chg (hn := hPush S.2.1.1 S.2.1.2 S.1) st1.1 f3 g3 k3
          refine And.intro (by unfold vp_in; decide) ?_
          have r3 : ∀ j, j < 3 * A.1 → I3 309 j = A.2 j := fun j hj => by rw [f3 309 (by decide) (by decide) (by decide)]; exact r1 j hj
          have two : ∀ (q j : Nat) (v : Int32) (I' : Nat → Nat → Int32), v = nI j → j + q = 18 → (∀ x, x ≠ 306 → I' x = I3 x) → I' 306 0 = nI A.1 → (∀ i, i < j → i < 3 * A.1 → I' 306 (1 + i) = A.2 i) → (∀ i, 19 ≤ i → I' 306 i = I3 306 i) → aX12_rows G Q 180 [some (.ref 305), some (.int (nI A.1)), some (.int m2), some (.int v)] [] (zK0, I', J, zR0 past) := by
            intro q
            induction q with
            | zero =>
              intro j v I' ev hj f g r s
              subst ev
              have e : j = 18 := by omega
              subst e
              refine sgX12_rows hG [180] 60 180 ?_
              refine And.intro (fun _ => ?_) (fun z => absurd (by decide) z)
              have c5 : mPl I' 306 0 (rwPl S A) := by
                refine ⟨g, ?_, fun i hi => ?_, fun i hi j hj => ?_⟩
                · rw [s _ (by omega)]; exact st3.1.2.1
                · have hi : i < 3 * A.1 := hi
                  rw [Nat.zero_add]; exact r i (by omega) hi
                · rw [s _ (by omega)]; exact st3.1.2.2.2 i hi j hj
              refine h I' J ⟨c5, mHis_fr st3.2.1 (by rw [f 305 (by decide)]) (f 310 (by decide)), mKep_fr st3.2.2.1 (f 319 (by decide)) (f 318 (by decide)), mTxt_fr st3.2.2.2.1 (by rw [f 305 (by decide)]) (f 307 (by decide)), mNum_fr st3.2.2.2.2 (by rw [f 305 (by decide)]) rfl⟩ (fun x hx => ⟨?_, rfl⟩)
              rw [f x (by omega), f3 x (by omega) (by omega) (by omega)]
              exact (st1.2 x hx).1
            | succ q ihq =>
              intro j v I' ev hj f g r s
              subst ev
              have i1 : (1 : Int32) + nI j = nI (1 + j) := by rw [show (1 : Int32) = nI 1 from rfl, nI_add]
              have i3 : (3 : Int32) * nI A.1 = nI (3 * A.1) := by rw [show (3 : Int32) = nI 3 from rfl, pk_mul]
              have z210 : ∀ (val : Int32), (j < 3 * A.1 → val = A.2 j) → aX12_rows G Q 210 [some (.ref 305), some (.int (nI A.1)), some (.int m2), some (.int (nI j))] [.int val, .int ((1 : Int32) + nI j), .ref 306] (zK0, I', J, zR0 past) := by
                intro val hval
                refine sgX12_rows hG [180] 60 210 ?_
                refine And.intro (by rw [i1]; exact vp_in_nI (by omega) (by omega)) ?_
                rw [i1, nI_clamp (by omega)]
                refine ihq (j + 1) _ _ (by rw [nI_1]) (by omega) (fun x hx => by rw [z_upI_ne hx]; exact f x hx) (by rw [uI_k (by omega)]; exact g) (fun i hi hi2 => ?_) (fun i hi => by rw [uI_k (by omega)]; exact s i hi)
                rcases (show i < j ∨ i = j by omega) with z | z
                · rw [uI_k (by omega)]; exact r i z hi2
                · rw [z, uI_s]; exact hval (by omega)
              refine sgX12_rows hG [180, 210] 60 180 ?_
              refine And.intro (fun z => absurd z (by rw [show (18 : Int32) = nI 18 from rfl, nI_leI (by omega) (by omega)]; omega)) (fun _ => ?_)
              refine And.intro (fun z => ?_) (fun z => ?_)
              · rw [i3, nI_leI (by omega) (by omega)] at z
                exact z210 0 (fun q => by omega)
              · rw [i3, nI_leI (by omega) (by omega)] at z
                refine And.intro (by exact vp_in_nI (by omega) (by omega)) ?_
                exact z210 _ (fun q => by rw [nI_clamp (by omega), f 309 (by decide)]; exact r3 j q)
          exact two 18 0 0 _ rfl (by omega) (fun x hx => z_upI_ne hx) uI_s (fun i hi => absurd hi (Nat.not_lt_zero i)) (fun i hi => uI_k (by show i ≠ 0; omega))
      exact loop A.1 0 0 rfl (by omega) rfl
  -- the loop over rows
  have loop : ∀ (r n p : Nat) (vn : Int32) (A : zRws) (o3 : Option Value) (I' : Nat → Nat → Int32), vn = nI n → n + r = 6 → 0 < r → p ≤ 80 → A.1 = n → rwP tn tf = rwGo T tn r p A → (∀ x, x ≠ 305 → x ≠ 309 → I' x = Ib x) → (∀ j, j ≠ 9 → j ≠ 10 → I' 305 j = Ib 305 j) → mAt I' (p, none) → (∀ j, j < 3 * n → I' 309 j = A.2 j) → aX12_rows G Q 24 [some (.ref 305), some (.int vn), some (.int 1), o3] [] (zK0, I', J, zR0 past) := by
    intro r
    induction r with
    | zero => intro n p vn A o3 I' _ _ h0; omega
    | succ r ih =>
      intro n p vn A o3 I' en hn _ hp hA e f g a rd
      subst en
      subst hA
      have t' : mTx I' tn tf := ⟨by rw [g 8 (by decide) (by decide)]; exact b8, fun j hj => by rw [f 307 (by decide) (by decide)]; exact tb.2 j hj⟩
      have eg : rwGo T tn (r + 1) p A = match rwE T p with | some e => .inl e | none => if rwAft T p = tn then .inr (rwAdd T p A) else if T (rwAft T p) = 59 ∧ r ≠ 0 then rwGo T tn r (rwAft T p + 1) (rwAdd T p A) else .inl (rwAft T p) := rfl
      rw [eg] at e
      have ba := rwAft_b T p
      refine sgX12_rows hG [24, 66] 60 24 ?_
      refine And.intro (fun c => absurd c (by decide)) (fun _ => ?_)
      refine m_fine hG (by decide) a ?_
      refine And.intro (fun c => absurd c (show ¬ zb true = 0 by decide)) (fun _ => ?_)
      refine m_readRow hG (by decide) ok t' a (n := A.1) (by omega) (by rw [show (3 : Int32) = nI 3 from rfl, pk_mul]) (fun I1 s f1 t1 a1 po => ?_)
      rw [← eT] at po
      unfold rwPo at po
      have f2 : ∀ x, x ≠ 305 → x ≠ 309 → I1 x = Ib x := fun x x1 x2 => (f1.1 x x1 x2).trans (f x x1 x2)
      have g2 : ∀ j, j ≠ 9 → j ≠ 10 → I1 305 j = Ib 305 j := fun j j1 j2 => (f1.2.1 j j1 j2).trans (g j j1 j2)
      -- no more
      have z66n : (match rwP tn tf with | .inl e => (pWr tn s).2 = some e | .inr B => (pWr tn s).2 = none ∧ B.1 = A.1 + 1 ∧ ∀ j, j < 3 * (A.1 + 1) → I1 309 j = B.2 j) → ∀ o2 o3, aX12_rows G Q 66 [some (.ref 305), some (.int (nI A.1 + 1)), o2, o3] [.int 0] (zK0, I1, J, zR0 past) := by
        intro po o2 o3
        refine sgX12_rows hG [101] 60 66 ?_
        refine And.intro (fun c => absurd rfl c) (fun _ => ?_)
        refine And.intro (fun _ => ?_) (fun c => absurd rfl c)
        rw [nI_1]
        exact z101 (rwP tn tf) (A.1 + 1) _ _ s I1 rfl f2 g2 a1 po
      refine m_fine hG (by decide) a1 ?_
      cases E : rwE T p with
      | some x =>
        rw [E] at po e
        have po : s.2 = some x := po
        rw [po]
        refine And.intro (fun _ => ?_) (fun c => absurd rfl c)
        refine z66n ?_ _ _
        rw [e]
        show (pWr tn s).2 = some x
        unfold pWr pFlt
        split
        · rw [po]
        · exact po
      | none =>
        rw [E] at po e
        obtain ⟨q1, q2, q3, q4⟩ := po
        subst q1
        have e : rwP tn tf = if rwAft T p = tn then .inr (rwAdd T p A) else if T (rwAft T p) = 59 ∧ r ≠ 0 then rwGo T tn r (rwAft T p + 1) (rwAdd T p A) else .inl (rwAft T p) := e
        have en := rwE_n (tn := tn) (tf := tf) (p := p) (by rw [← eT]; exact E)
        rw [← eT] at en
        have le := en.2.2
        have rd2 : ∀ j, j < 3 * (A.1 + 1) → I1 309 j = (rwAdd T p A).2 j := rwAdd_get (fun j hj => by rw [f1.2.2 j hj]; exact rd j hj) q2 q3 q4
        refine And.intro (fun c => absurd c (show ¬ zb true = 0 by decide)) (fun _ => ?_)
        refine m_here hG (by decide) ok t1 a1 ?_
        rw [← eT]
        refine And.intro (fun c => ?_) (fun c => ?_)
        · have c : ¬ T (rwAft T p) = 59 := c
          refine z66n ?_ _ _
          rw [e]
          by_cases z : rwAft T p = tn
          · rw [if_pos z]
            refine ⟨?_, rfl, rd2⟩
            unfold pWr
            rw [if_neg (by show ¬ rwAft T p < tn; omega)]
          · rw [if_neg z, if_neg (fun q => c q.1)]
            show (pWr tn (rwAft T p, none)).2 = some (rwAft T p)
            unfold pWr
            rw [if_pos (by show rwAft T p < tn; omega)]
            rfl
        · have c : T (rwAft T p) = 59 := c
          have lt : rwAft T p < tn := tAt_lt (tf := tf) (c := 59) (by decide) (by rw [← eT]; exact c)
          rw [if_neg (show ¬ rwAft T p = tn by omega)] at e
          refine sgX12_rows hG [24] 60 66 ?_
          refine And.intro (fun _ => ?_) (fun c => absurd c (by decide))
          rw [nI_1]
          refine And.intro (fun d => ?_) (fun d => ?_)
          · rw [show (6 : Int32) = nI 6 from rfl, nI_eq (by omega) (by omega)] at d
            rw [if_pos ⟨c, by omega⟩] at e
            refine ih (A.1 + 1) (rwAft T p + 1) _ (rwAdd T p A) _ _ rfl (by omega) (by omega) (by omega) rfl e (fun x x1 x2 => by rw [z_upI_ne x1]; exact f2 x x1 x2) (fun j j1 j2 => by rw [uI_k j1]; exact g2 j j1 j2) ⟨by rw [uI_s, a1.1, nI_1], by rw [uI_k (by decide)]; exact a1.2.1, by show rwAft T p + 1 < 100; omega, fun e he => by cases he⟩ (fun j hj => by rw [uI_p (by decide)]; exact rd2 j hj)
          · rw [show (6 : Int32) = nI 6 from rfl, nI_eq (by omega) (by omega)] at d
            rw [if_neg (fun q => q.2 (by omega))] at e
            refine m_fault hG (by decide) a1 (x := rwAft T p) (by omega) a1.1 (fun I3 f3 a3 => ?_)
            have a3 : mAt I3 (rwAft T p, some (rwAft T p)) := a3
            have a4 : mAt (z_upI I3 305 9 (I3 305 9 + 1)) (rwAft T p + 1, some (rwAft T p)) := ⟨by rw [uI_s, a3.1, nI_1], by rw [uI_k (by decide)]; exact a3.2.1, by show rwAft T p + 1 < 100; omega, a3.2.2.2⟩
            refine sgX12_rows hG [101] 60 24 ?_
            refine And.intro (fun c => absurd c (by decide)) (fun _ => ?_)
            refine m_fine hG (by decide) a4 ?_
            refine And.intro (fun _ => ?_) (fun c => absurd rfl c)
            refine z101 (.inl (rwAft T p)) (A.1 + 1) _ _ _ _ e (fun x x1 x2 => by rw [z_upI_ne x1, f3.1 x x1]; exact f2 x x1 x2) (fun j j1 j2 => by rw [uI_k j1, f3.2 j j1 j2]; exact g2 j j1 j2) a4 ?_
            show (pWr tn (rwAft T p + 1, some (rwAft T p))).2 = some (rwAft T p)
            unfold pWr
            split <;> rfl
  rcases Nat.eq_zero_or_pos tn with z | z
  · have e8 : Ib 305 8 = 0 := by rw [b8, z]; rfl
    have eP : rwP tn tf = .inr (0, fun _ => 0) := by unfold rwP; rw [if_pos z]
    refine And.intro (fun _ => ?_) (fun c => absurd (by rw [e8]; decide) c)
    refine sgX12_rows hG [101] 60 24 ?_
    refine And.intro (fun _ => ?_) (fun c => absurd rfl c)
    refine z101 _ 0 _ _ (0, none) Ib eP (fun _ _ _ => rfl) (fun _ _ _ => rfl) ab ⟨?_, rfl, fun j hj => absurd hj (Nat.not_lt_zero j)⟩
    unfold pWr
    rw [if_neg (by show ¬ 0 < tn; omega)]
  · refine And.intro (fun c => absurd c (by rw [b8, show (0 : Int32) = nI 0 from rfl, nI_leI (by omega) (by omega)]; omega)) (fun _ => ?_)
    refine loop 6 0 0 _ (0, fun _ => 0) _ Ib rfl rfl (by decide) (by omega) rfl ?_ (fun _ _ _ => rfl) (fun _ _ _ => rfl) ab (fun j hj => absurd hj (Nat.not_lt_zero j))
    unfold rwP
    rw [if_neg (by omega), eT]
