-- ===== day (model) =====
def dyP (T : Nat → Int32) : Nat → Nat
  | 0 => 0
  | j + 1 => dyP T j + aLn (T (dyP T j))
theorem dyP_ge (T : Nat → Int32) : ∀ j, j ≤ dyP T j
  | 0 => Nat.le_refl _
  | j + 1 => by
    have := dyP_ge T j
    have := (aF_5 (T (dyP T j))).2.1
    show j + 1 ≤ dyP T j + aLn (T (dyP T j))
    omega
theorem mSt_ex {I I1 : Nat → Nat → Int32} {J J1 : Nat → Nat → Int64} {S : zS} {π : zPl} (hS : mSt I J S) (h : mEx I J I1 J1) (hc : mPl I1 306 0 π) : mSt I1 J1 (π, S.2) := by
  obtain ⟨a1, a2, a3, a4, a5⟩ := hS
  exact ⟨hc, mHis_fr a2 h.2.1.2.2 (h.1 310 (by omega)).1, mKep_fr a3 (h.1 319 (by omega)).1 (h.1 318 (by omega)).1, mTxt_fr a4 h.2.1.1 (h.1 307 (by omega)).1, mNum_fr a5 h.2.1.2.1 h.2.2⟩
theorem m_day {G : zG} (hG : zGok G) {k' : Nat} (hk : 9 ≤ k') {I : Nat → Nat → Int32} {J : Nat → Nat → Int64} {past : Nat → Nat} {Q : zRt} {S : zS} (hS : mSt I J S) (hv : vS S) (h : ∀ I' J', mSt I' J' (sDay S).2 → mFr I J I' J' → Q (some (.int (sDay S).1)) (zK0, I', J', zR0 past)) : zCalls G k' yX12_day [.ref 305] (zK0, I, J, zR0 past) Q := by
  have hS0 := mSt_thr (v := 0) hS
  have hQ0 : mQ I J (z_upI I 305 5 0) J := mQ_u (by omega)
  obtain ⟨v6, v8, vh, vn⟩ := vS_6 hv
  obtain ⟨tn, etn⟩ : ∃ tn, tn = S.2.2.2.1.1 := ⟨_, rfl⟩
  obtain ⟨tf, etf⟩ : ∃ tf, tf = S.2.2.2.1.2 := ⟨_, rfl⟩
  obtain ⟨T, eT⟩ : ∃ T, T = tAt tn tf := ⟨_, rfl⟩
  have ok : tOk tn tf := by rw [etn, etf]; exact hv.2.2.2.1
  have h80 := ok.1
  have eX : sDx S = dyX T tn 80 0 S.1 0 := by unfold sDx; rw [← etn, ← etf, ← eT]
  unfold sDay at h
  rw [← etn, ← etf, ← eT, eX] at h
  refine rnX12_day hG hk 305 ?_
  refine sgX12_day hG [11] 60 0 ?_
  refine m_begin hG (by decide) (tn := tn) (by rw [etn]; exact hS0.2.2.2.1.1) (fun Ib fb gb b2 b8 ab => ?_)
  have tb : mTx Ib tn tf := ⟨b8, fun j hj => by rw [fb 307 (by decide), etf]; exact hS0.2.2.2.1.2 j (by rw [← etn]; exact hj)⟩
  have stB : ∀ I', (∀ x, x ≠ 305 → x ≠ 317 → I' x = Ib x) → (∀ j, j ≠ 9 → j ≠ 10 → I' 305 j = Ib 305 j) → mSt I' J (sTx0 S) ∧ mFr I J I' J := by
    intro I' f g
    refine ⟨mSt_rd hS0 (fun x a _ b => by rw [f x a b, fb x a]) (by rw [g 13 (by decide) (by decide), gb 13 (by decide) (by decide) (by decide) (by decide)]) (by rw [g 4 (by decide) (by decide), gb 4 (by decide) (by decide) (by decide) (by decide)]) (by rw [g 2 (by decide) (by decide), b2]), fun x hx => ⟨?_, rfl⟩⟩
    rw [f x (by omega) (by omega), fb x (by omega)]
    exact (mQ_fr hQ0 x hx).1
  -- all signs are read
  have z42 : ∀ (n : Nat) (o2 : Option Value) (s : Nat × Option Nat) (I' : Nat → Nat → Int32), n ≤ 80 → (∀ x, x ≠ 305 → x ≠ 317 → I' x = Ib x) → (∀ j, j ≠ 9 → j ≠ 10 → I' 305 j = Ib 305 j) → mAt I' s → (match dyF T tn 80 0 with | some e => (pWr tn s).2 = some e | none => (pWr tn s).2 = none ∧ tn ≤ dyP T n ∧ (∀ j, j < n → dyP T j < tn ∧ acV T (dyP T j) j I')) → aX12_day G Q 42 [some (.ref 305), some (.int (nI n)), o2] [] (zK0, I', J, zR0 past) := by
    intro n o2 s I' h80n f g a po
    have t' : mTx I' tn tf := ⟨by rw [g 8 (by decide) (by decide)]; exact b8, fun j hj => by rw [f 307 (by decide) (by decide)]; exact tb.2 j hj⟩
    refine sgX12_day hG [58] 60 42 ?_
    refine m_wasRight hG (by decide) ok t' a (fun I1 f1 a1 => ?_)
    have f2 : ∀ x, x ≠ 305 → x ≠ 317 → I1 x = Ib x := fun x x1 x2 => (f1.1 x x1).trans (f x x1 x2)
    have g2 : ∀ j, j ≠ 9 → j ≠ 10 → I1 305 j = Ib 305 j := fun j j1 j2 => (f1.2 j j1 j2).trans (g j j1 j2)
    obtain ⟨st1, fr1⟩ := stB I1 f2 g2
    cases eF : dyF T tn 80 0 with
    | some e =>
      rw [eF] at po h
      have po : (pWr tn s).2 = some e := po
      have e10 := a1.2.1
      rw [po] at e10 ⊢
      refine And.intro (fun c => absurd rfl c) (fun _ => ?_)
      have e10 : I1 305 10 = nI e := e10
      have k : Q (some (.int (-1 - nI e))) (zK0, I1, J, zR0 past) := h I1 J st1 fr1
      rw [← e10] at k
      exact k
    | none =>
      rw [eF] at po h
      obtain ⟨p1, p2, p3⟩ := po
      rw [p1]
      refine And.intro (fun _ => ?_) (fun c => absurd c (show ¬ zb true = 0 by decide))
      have ac1 : ∀ j, j < n → dyP T j < tn ∧ acV T (dyP T j) j I1 := fun j hj => ⟨(p3 j hj).1, acV_fr (p3 j hj).2 (fun i _ => by rw [f1.1 317 (by decide)])⟩
      -- what was is kept
      have one : ∀ (r k : Nat) (v : Int32) (I' : Nat → Nat → Int32), v = nI k → k + r = 140 → (∀ x, x ≠ 311 → I' x = I1 x) → (∀ j, j < k → I' 311 j = I1 306 j) → aX12_day G Q 58 [some (.ref 305), some (.int (nI n)), some (.int v)] [] (zK0, I', J, zR0 past) := by
        intro r
        induction r with
        | succ r ih =>
          intro k v I' ev hk g1 g2
          subst ev
          have en : (nI k).toNatClampNeg = k := nI_clamp (by omega)
          refine sgX12_day hG [58] 60 58 ?_
          refine And.intro (fun c => absurd c (by rw [show (140 : Int32) = nI 140 from rfl, nI_leI (by omega) (by omega)]; omega)) (fun _ => ?_)
          refine And.intro (by exact vp_in_nI (by omega) (by omega)) ?_
          refine And.intro (by exact vp_in_nI (by omega) (by omega)) ?_
          rw [en]
          refine ih (k + 1) _ _ (by rw [nI_1]) (by omega) (fun x hx => by rw [z_upI_ne hx]; exact g1 x hx) (fun j hj => ?_)
          by_cases x : j = k
          · subst x; rw [uI_s, g1 306 (by decide)]
          · rw [uI_k x]; exact g2 j (by omega)
        | zero =>
          intro k v I2 ev hk g1 g2
          subst ev
          have e : k = 140 := by omega
          subst e
          have st2 : mSt I2 J (sTx0 S) := ⟨mPl_fr st1.1 (g1 306 (by decide)), mHis_fr st1.2.1 (by rw [g1 305 (by decide)]) (g1 310 (by decide)), mKep_fr st1.2.2.1 (g1 319 (by decide)) (g1 318 (by decide)), mTxt_fr st1.2.2.2.1 (by rw [g1 305 (by decide)]) (g1 307 (by decide)), mNum_fr st1.2.2.2.2 (by rw [g1 305 (by decide)]) rfl⟩
          have fr2 : mFr I J I2 J := fun x hx => ⟨by rw [g1 x (by omega)]; exact (fr1 x hx).1, rfl⟩
          have ac2 : ∀ j, j < n → dyP T j < tn ∧ acV T (dyP T j) j I2 := fun j hj => ⟨(ac1 j hj).1, acV_fr (ac1 j hj).2 (fun i _ => by rw [g1 317 (by decide)])⟩
          -- the end
          have z106 : ∀ (π : zPl) (d : Nat) (I3 : Nat → Nat → Int32) (J3 : Nat → Nat → Int64), dyX T tn 80 0 S.1 0 = (π, d, dyP T d) → d ≤ n → (d < n ↔ dyP T d < tn) → mEx I2 J I3 J3 → mPl I3 306 0 π → aX12_day G Q 106 [some (.ref 305), some (.int (nI n)), some (.int (nI d))] [] (zK0, I3, J3, zR0 past) := by
            intro π d I3 J3 ex hd hdn f3 c3
            rw [ex] at h
            have st3 : mSt I3 J3 (π, (sTx0 S).2) := mSt_ex st2 f3 c3
            have fr3 : mFr I J I3 J3 := fun x hx => ⟨(f3.1 x (by omega)).1.trans (fr2 x hx).1, (f3.1 x (by omega)).2.trans (fr2 x hx).2⟩
            have z114 : ∀ (I4 : Nat → Nat → Int32) (hn : Nat × (Nat → zPl)), hn = (if 0 < d then hPush S.2.1.1 S.2.1.2 S.1 else S.2.1) → mSt I4 J3 (π, hn, (sTx0 S).2.2) → mFr I J I4 J3 → aX12_day G Q 114 [some (.ref 305), some (.int (nI n)), some (.int (nI d))] [] (zK0, I4, J3, zR0 past) := by
              intro I4 hn ehn st4 fr4
              rw [← ehn] at h
              have z130 : ∀ (x : Int64), x = lN (if dyP T d < tn then 1 else 0) → aX12_day G Q 130 [some (.ref 305), some (.int (nI n)), some (.int (nI d))] [.long x, .ref 305] (zK0, z_upI I4 305 4 0, J3, zR0 past) := by
                intro x ex
                subst ex
                refine sgX12_day hG [] 60 130 ?_
                refine m_tellL hG (by decide) mNm_0 (by decide) _ (fun I5 J5 f5 g5 k5 n5 => ?_)
                have q5 : mQ I4 J3 I5 J5 := mQ_tr (J1 := J3) (I1 := z_upI I4 305 4 0) (mQ_u (by omega)) ⟨fun x hx => ⟨f5 x (by omega), k5 x (by omega)⟩, g5 2 (by decide), g5 13 (by decide)⟩
                have st5 := mSt_tel st4 q5 n5
                refine h I5 J5 st5 (fun x hx => ⟨?_, ?_⟩)
                · rw [f5 x (by omega), z_upI_ne (by omega)]; exact (fr4 x hx).1
                · rw [k5 x (by omega)]; exact (fr4 x hx).2
              refine sgX12_day hG [130] 60 114 ?_
              refine And.intro (fun c => ?_) (fun c => ?_)
              · rw [nI_leI (by omega) (by omega)] at c
                exact z130 0 (by rw [if_neg (fun q => by have := hdn.mpr q; omega)]; rfl)
              · rw [nI_leI (by omega) (by omega)] at c
                exact z130 1 (by rw [if_pos (hdn.mp (by omega))]; rfl)
            refine sgX12_day hG [114] 60 106 ?_
            refine And.intro (fun c => ?_) (fun c => ?_)
            · rw [show (0 : Int32) = nI 0 from rfl, nI_leI (by omega) (by omega)] at c
              exact z114 I3 S.2.1 (by rw [if_neg (by omega)]) st3 fr3
            · rw [show (0 : Int32) = nI 0 from rfl, nI_leI (by omega) (by omega)] at c
              refine m_note hG (by decide) (hn := S.2.1.1) st3.2.1.1 vn (fun I4 n1 n2 n3 n4 n5 => ?_)
              have hp := mHis_push (I := I2) (I' := I4) (hn := S.2.1.1) (Hf := S.2.1.2) (π := S.1) st2.2.1 st2.1 vn vh ⟨v6, v8⟩ n3 (fun i hi k hk => by rw [n4 i hi k hk, (f3.1 310 (by omega)).1]) (fun k hk => by rw [n5 k hk, (f3.1 311 (by omega)).1, g2 k hk, g1 306 (by decide)])
              refine z114 I4 (hPush S.2.1.1 S.2.1.2 S.1) (by rw [if_pos (by omega)]) ⟨mPl_fr st3.1 (n1 306 (by decide) (by decide)), hp, mKep_fr st3.2.2.1 (n1 319 (by decide) (by decide)) (n1 318 (by decide) (by decide)), mTxt_fr st3.2.2.2.1 (n2 2 (by decide)) (n1 307 (by decide) (by decide)), mNum_fr st3.2.2.2.2 (n2 4 (by decide)) rfl⟩ (fun x hx => ⟨by rw [n1 x (by omega) (by omega)]; exact (fr3 x hx).1, (fr3 x hx).2⟩)
          have two : ∀ (r d : Nat) (v : Int32) (π : zPl) (I3 : Nat → Nat → Int32) (J3 : Nat → Nat → Int64), v = nI d → d + r = n → vPl π → dyX T tn 80 0 S.1 0 = dyX T tn (80 - d) (dyP T d) π d → mEx I2 J I3 J3 → mPl I3 306 0 π → aX12_day G Q 85 [some (.ref 305), some (.int (nI n)), some (.int v)] [] (zK0, I3, J3, zR0 past) := by
            intro r
            induction r with
            | zero =>
              intro d v π I3 J3 ev hd vπ ex f3 c3
              subst ev
              have e : d = n := by omega
              subst e
              refine sgX12_day hG [85, 106] 60 85 ?_
              refine And.intro (fun _ => ?_) (fun c => absurd (Int32.le_refl _) c)
              refine z106 π d I3 J3 ?_ (Nat.le_refl _) ⟨fun q => by omega, fun q => by omega⟩ f3 c3
              rw [ex]
              cases 80 - d with
              | zero => rfl
              | succ q =>
                show (if dyP T d < tn then _ else (π, d, dyP T d)) = _
                rw [if_neg (by omega)]
            | succ r ih =>
              intro d v π I3 J3 ev hd vπ ex f3 c3
              subst ev
              obtain ⟨pt, av⟩ := ac2 d (by omega)
              have ge := dyP_ge T d
              obtain ⟨q, eq⟩ : ∃ q, 80 - d = q + 1 := ⟨79 - d, by omega⟩
              rw [eq] at ex
              have e1 : dyX T tn (q + 1) (dyP T d) π d = if dyP T d < tn then (if 0 ≤ (dyA T (dyP T d) π).1 then dyX T tn q (dyP T d + aLn (T (dyP T d))) (dyA T (dyP T d) π).2 (d + 1) else (π, d, dyP T d)) else (π, d, dyP T d) := rfl
              rw [e1, if_pos pt] at ex
              refine sgX12_day hG [85, 106] 60 85 ?_
              refine And.intro (fun c => absurd c (by rw [nI_leI (by omega) (by omega)]; omega)) (fun _ => ?_)
              refine m_act hG (by decide) c3 vπ (p := dyP T d) (n := d) (by omega) (acV_fr av (fun i _ => by rw [(f3.1 317 (by omega)).1])) (by rw [show (4 : Int32) = nI 4 from rfl, pk_mul]) (fun c I4 J4 f4 c4 => ?_) (fun c I4 J4 f4 c4 => ?_)
              · rw [if_neg c] at ex
                refine And.intro (fun _ => ?_) (fun z => absurd rfl z)
                exact z106 π d I4 J4 ex (by omega) ⟨fun _ => pt, fun _ => by omega⟩ (mEx_tr f3 f4) c4
              · rw [if_pos c] at ex
                refine And.intro (fun z => absurd z (by decide)) (fun _ => ?_)
                exact ih (d + 1) _ _ I4 J4 (by rw [nI_1]) (by omega) (dyA_v vπ) (by rw [ex, show 80 - (d + 1) = q by omega]; rfl) (mEx_tr f3 f4) c4
          refine sgX12_day hG [85] 60 58 ?_
          refine And.intro (fun _ => ?_) (fun c => absurd (by decide) c)
          exact two n 0 0 S.1 I2 J rfl (by omega) hv.1 rfl mEx_rfl st2.1
      exact one 140 0 0 I1 rfl (by omega) (fun _ _ => rfl) (fun j hj => absurd hj (Nat.not_lt_zero j))
  -- the loop over acts
  have loop : ∀ (r n : Nat) (v : Int32) (o2 : Option Value) (I' : Nat → Nat → Int32), v = nI n → n + r = 81 → dyF T tn 80 0 = dyF T tn (80 - n) (dyP T n) → (∀ x, x ≠ 305 → x ≠ 317 → I' x = Ib x) → (∀ j, j ≠ 9 → j ≠ 10 → I' 305 j = Ib 305 j) → mAt I' (dyP T n, none) → (∀ j, j < n → dyP T j < tn ∧ acV T (dyP T j) j I') → aX12_day G Q 11 [some (.ref 305), some (.int v), o2] [] (zK0, I', J, zR0 past) := by
    intro r
    have fin : ∀ (n : Nat) (o2 : Option Value) (I' : Nat → Nat → Int32), tn ≤ dyP T n → n ≤ 80 → dyF T tn 80 0 = dyF T tn (80 - n) (dyP T n) → (∀ x, x ≠ 305 → x ≠ 317 → I' x = Ib x) → (∀ j, j ≠ 9 → j ≠ 10 → I' 305 j = Ib 305 j) → mAt I' (dyP T n, none) → (∀ j, j < n → dyP T j < tn ∧ acV T (dyP T j) j I') → aX12_day G Q 42 [some (.ref 305), some (.int (nI n)), o2] [] (zK0, I', J, zR0 past) := by
      intro n o2 I' ge hn e f g a ac
      have e0 : dyF T tn (80 - n) (dyP T n) = none := by
        cases 80 - n with
        | zero => rfl
        | succ q =>
          show (if dyP T n < tn then _ else none) = none
          rw [if_neg (by omega)]
      refine z42 n o2 _ I' hn f g a ?_
      rw [e, e0]
      refine ⟨?_, ge, ac⟩
      unfold pWr
      rw [if_neg (by show ¬ dyP T n < tn; omega)]
    induction r with
    | zero =>
      intro n v o2 I' ev hn e f g a ac
      exfalso
      have := (ac 80 (by omega)).1
      have := dyP_ge T 80
      omega
    | succ r ih =>
      intro n v o2 I' ev hn e f g a ac
      subst ev
      have n80 : n ≤ 80 := by omega
      have t' : mTx I' tn tf := ⟨by rw [g 8 (by decide) (by decide)]; exact b8, fun j hj => by rw [f 307 (by decide) (by decide)]; exact tb.2 j hj⟩
      have p100 := a.2.2.1
      have p100 : dyP T n < 100 := p100
      refine sgX12_day hG [11, 42] 60 11 ?_
      refine m_fine hG (by decide) a ?_
      refine And.intro (fun c => absurd c (show ¬ zb true = 0 by decide)) (fun _ => ?_)
      refine And.intro (fun c => ?_) (fun c => ?_)
      · rw [a.1, t'.1, nI_leI (by omega) (by omega)] at c
        exact fin n _ I' c n80 e f g a ac
      · rw [a.1, t'.1, nI_leI (by omega) (by omega)] at c
        have c : dyP T n < tn := by have c : ¬ tn ≤ dyP T n := c; omega
        have ge := dyP_ge T n
        obtain ⟨q, eq⟩ : ∃ q, 80 - n = q + 1 := ⟨79 - n, by omega⟩
        rw [eq] at e
        have e1 : dyF T tn (q + 1) (dyP T n) = if dyP T n < tn then (match mis T (dyP T n) (zBy.getD (aF (T (dyP T n))) []) with | some e => some e | none => dyF T tn q (dyP T n + aLn (T (dyP T n)))) else none := rfl
        rw [e1, if_pos c] at e
        refine m_readAct hG (by decide) ok t' a c (n := n) (by omega) (by rw [show (4 : Int32) = nI 4 from rfl, pk_mul]) (fun I1 s f1 t1 a1 po => ?_)
        rw [← eT] at po
        have f2 : ∀ x, x ≠ 305 → x ≠ 317 → I1 x = Ib x := fun x x1 x2 => (f1.1 x x1 x2).trans (f x x1 x2)
        have g2 : ∀ j, j ≠ 9 → j ≠ 10 → I1 305 j = Ib 305 j := fun j j1 j2 => (f1.2.1 j j1 j2).trans (g j j1 j2)
        unfold acPo at po
        cases W : mis T (dyP T n) (zBy.getD (aF (T (dyP T n))) []) with
        | some x =>
          rw [W] at po e
          have po : s.2 = some x := po
          -- it ends there
          refine sgX12_day hG [42] 60 11 ?_
          refine m_fine hG (by decide) a1 ?_
          rw [po]
          refine And.intro (fun _ => ?_) (fun c => absurd rfl c)
          rw [nI_1]
          refine z42 (n + 1) _ s I1 (by omega) f2 g2 a1 ?_
          rw [e]
          show (pWr tn s).2 = some x
          unfold pWr pFlt
          split
          · rw [po]
          · exact po
        | none =>
          rw [W] at po e
          obtain ⟨q1, q2⟩ := po
          subst q1
          refine ih (n + 1) _ _ I1 (by rw [nI_1]) (by omega) (by rw [e, show 80 - (n + 1) = q by omega]; rfl) f2 g2 a1 (fun j hj => ?_)
          rcases (show j < n ∨ j = n by omega) with z | z
          · exact ⟨(ac j z).1, acV_fr (ac j z).2 (fun i hi => f1.2.2 i (by omega))⟩
          · subst z; exact ⟨c, q2⟩
  exact loop 81 0 0 none Ib rfl (by omega) rfl (fun _ _ _ => rfl) (fun _ _ _ => rfl) ab (fun j hj => absurd hj (Nat.not_lt_zero j))
