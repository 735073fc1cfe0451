-- ===== the first least =====
def zBest (f : Nat → Int) : Nat → Nat
  | 0 => 0
  | k + 1 => if f k < f (zBest f k) then k else zBest f k
theorem zBest_lt (f : Nat → Int) : ∀ n, 0 < n → zBest f n < n
  | 0, h => absurd h (by omega)
  | 1, _ => by
    show (if f 0 < f 0 then 0 else 0) < 1
    split <;> omega
  | n + 2, _ => by
    have := zBest_lt f (n + 1) (by omega)
    show (if f (n + 1) < f (zBest f (n + 1)) then n + 1 else zBest f (n + 1)) < n + 2
    split <;> omega
theorem zBest_1 (f : Nat → Int) : zBest f 1 = 0 := by have := zBest_lt f 1 (by omega); omega
theorem zBest_min (f : Nat → Int) : ∀ n k, k < n → f (zBest f n) ≤ f k
  | 0, k, h => absurd h (by omega)
  | n + 1, k, h => by
    show f (if f n < f (zBest f n) then n else zBest f n) ≤ f k
    by_cases c : k = n
    · subst c; split <;> omega
    · have := zBest_min f n k (by omega)
      split <;> omega
def zCnt (f : Nat → Int) (m : Int) (n : Nat) : Nat := (List.range n).countP (fun k => decide (f k = m))
theorem zCnt_s (f : Nat → Int) (m : Int) (n : Nat) : zCnt f m (n + 1) = zCnt f m n + (if f n = m then 1 else 0) := by
  unfold zCnt
  rw [List.range_succ, List.countP_append, List.countP_singleton]
  congr 1
  by_cases c : f n = m <;> simp [c]
theorem zCnt_le (f : Nat → Int) (m : Int) (n : Nat) : zCnt f m n ≤ n := by
  have := List.countP_le_length (p := fun k => decide (f k = m)) (l := List.range n)
  rw [List.length_range] at this
  exact this
theorem zCnt_0 (f : Nat → Int) (m : Int) (n : Nat) (h : ∀ k, k < n → f k ≠ m) : zCnt f m n = 0 := by
  unfold zCnt
  rw [List.countP_eq_zero]
  intro k hk
  rw [List.mem_range] at hk
  simpa using h k hk
-- ===== nearest =====
def zDs (x y d : Nat) (q : Nat × Nat) : Int := ((q.1 : Int) * d - x) * ((q.1 : Int) * d - x) + ((q.2 : Int) * d - y) * ((q.2 : Int) * d - y)
theorem zDs_bd {x y d : Nat} {q : Nat × Nat} (h1 : q.1 < 7) (h2 : q.2 < 7) (hd : d ≤ 12) (hx : x ≤ 6 * d) (hy : y ≤ 6 * d) : (zDs x y d q).natAbs ≤ 100000 ∧ ((q.1 : Int) * d - x).natAbs ≤ 200 ∧ ((q.2 : Int) * d - y).natAbs ≤ 200 := by
  have a := bd_mul (a := (q.1 : Int)) (b := (d : Int)) (A := 6) (B := 12) (by omega) (by omega)
  have b := bd_mul (a := (q.2 : Int)) (b := (d : Int)) (A := 6) (B := 12) (by omega) (by omega)
  have a1 : ((q.1 : Int) * d - x).natAbs ≤ 200 := by omega
  have b1 : ((q.2 : Int) * d - y).natAbs ≤ 200 := by omega
  have a2 := bd_mul a1 a1
  have b2 := bd_mul b1 b1
  have s := bd_add a2 b2
  exact ⟨by unfold zDs; omega, a1, b1⟩
theorem c_distance {G : zG} (hG : zGok G) {k' : Nat} (hk : 2 ≤ k') {I : Nat → Nat → Int32} {J : Nat → Nat → Int64} {past : Nat → Nat} {Q : zRt} {L : List (Nat × Nat)} (hL : cPts I L) (hb : bdL L) {i : Nat} {q : Nat × Nat} (hq : L[i]? = some q) {x y d : Nat} (hd : d ≤ 12) (hx : x ≤ 6 * d) (hy : y ≤ 6 * d) (h : Q (some (.long (Int64.ofInt (zDs x y d q)))) (zK0, I, J, zR0 past)) : zCalls G k' yX10_distance [.ref 264, .int (nI i), .int (nI x), .int (nI y), .int (nI d)] (zK0, I, J, zR0 past) Q := by
  have hi := (List.getElem?_eq_some_iff.mp hq).1
  have h49 := hb.1
  obtain ⟨b1, b2⟩ := hb.2 i q hq
  obtain ⟨e1, e2⟩ := hL.2 i q hq
  have en : (nI i).toNatClampNeg = i := nI_clamp (by omega)
  refine rnX10_distance hG hk 264 _ _ _ _ ?_
  refine sgX10_distance hG [] 60 0 ?_
  refine c_has hG (by decide) hL.1 (by omega) i hi ?_
  refine And.intro (fun _ => ?_) (fun c => absurd c (by decide))
  refine And.intro (by exact vp_in_nI (by omega) (by omega)) ?_
  refine And.intro (by exact vp_in_nI (by omega) (by omega)) ?_
  have e3 : (I 265 (nI i).toNatClampNeg).toInt64 * (nI d).toInt64 - (nI x).toInt64 = Int64.ofInt ((q.1 : Int) * d - x) := by
    rw [en, e1, nI_l (by omega), nI_l (by omega), nI_l (by omega), lN_I, lN_I, lN_I, ← Int64.ofInt_mul, ← Int64.ofInt_sub]
  have e4 : (I 266 (nI i).toNatClampNeg).toInt64 * (nI d).toInt64 - (nI y).toInt64 = Int64.ofInt ((q.2 : Int) * d - y) := by
    rw [en, e2, nI_l (by omega), nI_l (by omega), nI_l (by omega), lN_I, lN_I, lN_I, ← Int64.ofInt_mul, ← Int64.ofInt_sub]
  have e : Int64.ofInt (zDs x y d q) = Int64.ofInt ((q.1 : Int) * d - x) * Int64.ofInt ((q.1 : Int) * d - x) + Int64.ofInt ((q.2 : Int) * d - y) * Int64.ofInt ((q.2 : Int) * d - y) := by
    rw [← Int64.ofInt_mul, ← Int64.ofInt_mul, ← Int64.ofInt_add]; rfl
  rw [e, ← e3, ← e4] at h
  exact h
theorem m_farFrom {G : zG} (hG : zGok G) {k' : Nat} (hk : 1 ≤ k') {I : Nat → Nat → Int32} {J : Nat → Nat → Int64} {past : Nat → Nat} {Q : zRt} {L : List (Nat × Nat)} (hL : mPts I L) (hb : bdL L) {i : Nat} {q : Nat × Nat} (hq : L[i]? = some q) {x y d : Nat} (h : Q (some (.int (Int32.ofInt (zDs x y d q)))) (zK0, I, J, zR0 past)) : zCalls G k' yX12_farFrom [.ref 305, .int (nI i), .int (nI x), .int (nI y), .int (nI d)] (zK0, I, J, zR0 past) Q := by
  have hi := (List.getElem?_eq_some_iff.mp hq).1
  have h49 := hb.1
  obtain ⟨e1, e2⟩ := hL.2 i q hq
  have i1 : (2 : Int32) * nI i = nI (2 * i) := by rw [show (2 : Int32) = nI 2 from rfl, pk_mul]
  have i2 : (2 : Int32) * nI i + 1 = nI (2 * i + 1) := by rw [i1, nI_1]
  refine rnX12_farFrom hG hk 305 _ _ _ _ ?_
  refine sgX12_farFrom hG [] 60 0 ?_
  refine And.intro (by rw [i1]; exact vp_in_nI (by omega) (by omega)) ?_
  refine And.intro (by rw [i2]; exact vp_in_nI (by omega) (by omega)) ?_
  have e3 : I 316 ((2 : Int32) * nI i).toNatClampNeg * nI d - nI x = Int32.ofInt ((q.1 : Int) * d - x) := by
    rw [i1, nI_clamp (by omega), e1, nI_I, nI_I, nI_I, ← Int32.ofInt_mul, ← Int32.ofInt_sub]
  have e4 : I 316 ((2 : Int32) * nI i + 1).toNatClampNeg * nI d - nI y = Int32.ofInt ((q.2 : Int) * d - y) := by
    rw [i2, nI_clamp (by omega), e2, nI_I, nI_I, nI_I, ← Int32.ofInt_mul, ← Int32.ofInt_sub]
  have e : Int32.ofInt (zDs x y d q) = Int32.ofInt ((q.1 : Int) * d - x) * Int32.ofInt ((q.1 : Int) * d - x) + Int32.ofInt ((q.2 : Int) * d - y) * Int32.ofInt ((q.2 : Int) * d - y) := by
    rw [← Int32.ofInt_mul, ← Int32.ofInt_mul, ← Int32.ofInt_add]; rfl
  rw [e, ← e3, ← e4] at h
  exact h
theorem j_cmp {G : zG} (hG : zGok G) {k' : Nat} (hk : 1 ≤ k') {σ : zSt} {Q : zRt} (a b : Int64) (h : Q (some (.int (if a < b then -1 else if a = b then 0 else 1))) σ) : zCalls G k' yJ13_compare_74951 [.long a, .long b] σ Q := by
  refine rnJ13_compare_74951 hG hk a b ?_
  refine sgJ13_compare_74951 hG [] 60 0 ?_
  refine And.intro (fun c => ?_) (fun c => ?_)
  · rw [if_neg (Int64.not_lt.mpr c)] at h
    refine And.intro (fun d => ?_) (fun d => ?_)
    · rw [if_neg d] at h; exact h
    · rw [if_pos d] at h; exact h
  · rw [if_pos (Int64.not_le.mp c)] at h; exact h
def zFd (x y d : Nat) (L : List (Nat × Nat)) (i : Nat) : Int := zDs x y d (zP0 L i)
def sNea (π : zPl) (x y d : Int32) : Int32 × Option (List Int64) := if bPt x y d then (if (zPts π (-1)).length = 0 then (-2, none) else (nI (zCnt (zFd x.toNatClampNeg y.toNatClampNeg d.toNatClampNeg (zPts π (-1))) (zFd x.toNatClampNeg y.toNatClampNeg d.toNatClampNeg (zPts π (-1)) (zBest (zFd x.toNatClampNeg y.toNatClampNeg d.toNatClampNeg (zPts π (-1))) (zPts π (-1)).length)) (zPts π (-1)).length), some [lN (zP0 (zPts π (-1)) (zBest (zFd x.toNatClampNeg y.toNatClampNeg d.toNatClampNeg (zPts π (-1))) (zPts π (-1)).length)).1, lN (zP0 (zPts π (-1)) (zBest (zFd x.toNatClampNeg y.toNatClampNeg d.toNatClampNeg (zPts π (-1))) (zPts π (-1)).length)).2, (zred (Int64.ofInt (zFd x.toNatClampNeg y.toNatClampNeg d.toNatClampNeg (zPts π (-1)) (zBest (zFd x.toNatClampNeg y.toNatClampNeg d.toNatClampNeg (zPts π (-1))) (zPts π (-1)).length))) (lN (d.toNatClampNeg * d.toNatClampNeg))).1, (zred (Int64.ofInt (zFd x.toNatClampNeg y.toNatClampNeg d.toNatClampNeg (zPts π (-1)) (zBest (zFd x.toNatClampNeg y.toNatClampNeg d.toNatClampNeg (zPts π (-1))) (zPts π (-1)).length))) (lN (d.toNatClampNeg * d.toNatClampNeg))).2])) else (-1, none)
theorem c_nearest {G : zG} (hG : zGok G) {k' : Nat} (hk : 5 ≤ k') {I : Nat → Nat → Int32} {J : Nat → Nat → Int64} {past : Nat → Nat} {Q : zRt} {S : zS} (hS : cSt I J past S) (hv : vS S) (x y d : Int32) (h : ∀ I' J', cSt I' J' past (sOut S ( sNea S.1 x y d)) → cFr I J I' J' → Q (some (.int ( sNea S.1 x y d).1)) (zK0, I', J', zR0 past)) : zCalls G k' yX11_nearest [.ref 0, .int x, .int y, .int d] (zK0, I, J, zR0 past) Q := by
  refine rnX11_nearest hG hk 0 x y d ?_
  refine sgX11_nearest hG [45] 100 0 ?_
  refine c_isPoint hG (by decide) x y d ?_
  have bL := zPts_bd S.1 (-1)
  refine And.intro (fun c1 => ?_) (fun c1 => ?_)
  · have t := z_nb1 (x := 0) c1
    unfold sNea at h
    rw [if_pos t] at h
    obtain ⟨xn, yn, dn, rfl, rfl, rfl, h1, h12, hx, hy⟩ := bPt_in t
    rw [nI_clamp (show xn < 2 ^ 31 by omega), nI_clamp (show yn < 2 ^ 31 by omega), nI_clamp (show dn < 2 ^ 31 by omega)] at h
    refine c_gather hG (by decide) (Or.inl rfl) hS.1 hv.1.1.1 (-1) (fun I1 f1 p1 => ?_)
    generalize zPts S.1 (-1) = L at *
    have h49 := bL.1
    have q1 : cQ I J I1 J := fun x hx => ⟨f1 x (by omega) (by omega) (by omega), rfl⟩
    refine And.intro (fun c => ?_) (fun c => ?_)
    · have c : ¬ nI L.length = nI 0 := by rw [← p1.1]; exact c
      rw [nI_eq (by omega) (by omega)] at c
      rw [if_neg c] at h
      generalize hf : zFd xn yn dn L = f at *
      have fd : ∀ i, i < L.length → (f i).natAbs ≤ 100000 := by
        intro i hi
        rw [← hf]
        obtain ⟨b1, b2⟩ := bL.2 i _ (zP0_at hi)
        exact (zDs_bd b1 b2 h12 hx hy).1
      have loop : ∀ (r i : Nat) (v w z : Int32) (o : Option Value), (o = none ∨ ∃ u, o = some (.int u)) → v = nI i → 0 < i → w = nI (zBest f i) → z = nI (zCnt f (f (zBest f i)) i) → i + r = L.length → aX11_nearest G Q 45 [some (.ref 0), some (.int (nI xn)), some (.int (nI yn)), some (.int (nI dn)), some (.int w), some (.int z), some (.int v), o] [] (zK0, I1, J, zR0 past) := by
        intro r
        induction r with
        | zero =>
          intro i v w z o ho ev h0 ew ez hi
          have e : i = L.length := by omega
          subst e
          subst ev
          subst ew
          subst ez
          have bl := zBest_lt f L.length h0
          refine sgX11_nearest hG [45] 100 45 ?_
          refine And.intro (fun _ => ?_) (fun q => absurd (by rw [p1.1]; exact Int32.le_refl _) q)
          refine c_distance hG (by decide) p1 bL (zP0_at bl) h12 hx hy ?_
          have e1 : Int64.ofInt (zDs xn yn dn (zP0 L (zBest f L.length))) = Int64.ofInt (f (zBest f L.length)) := by rw [← hf]; rfl
          have bf := fd _ bl
          have ed : (nI dn).toInt64 * (nI dn).toInt64 = lN (dn * dn) := by rw [nI_l (by omega), lN_mul]
          have hdd : dn * dn ≤ 144 := Nat.mul_le_mul (show dn ≤ 12 from h12) h12
          have hd1 : 1 ≤ dn * dn := Nat.mul_le_mul (show 1 ≤ dn from h1) h1
          refine z_arg (args' := [.ref 269, .long (Int64.ofInt (f (zBest f L.length))), .long (lN (dn * dn))]) (by rw [e1, ed]) ?_
          refine c_put hG (by decide) 269 (by decide) _ _ (by rw [lI_T (by omega)]; omega) (by rw [pk_lT (by omega)]; omega) (fun q => by rw [← z_lN0, pk_lEQ (by omega) (by omega)] at q; omega) ?_
          refine c_clear hG (by decide) (fun I2 f2 n2 => ?_)
          have p2 : cPts I2 L := cPts_fr p1 (f2 264 (by decide)) (f2 265 (by decide)) (f2 266 (by decide))
          refine c_ptell hG (by decide) p2 bL (zP0_at bl) n2 (by decide) (fun I3 J3 f3 g3 n3 => ?_)
          refine c_tellRatio hG (by decide) n3 (by simp) 269 (by decide) (by decide) (fun I4 J4 f4 g4 n4 => ?_)
          rw [g3 269 (by decide), uJ_k (by decide), uJ_s, uJ_s] at n4
          have q4 : cQ I J I4 J4 := cQ_tr q1 (fun x hx => ⟨by rw [f4 x (by omega), f3 x (by omega), f2 x (by omega)], by rw [g4 x (by omega), g3 x (by omega), z_upJ_ne (by omega), z_upJ_ne (by omega)]⟩)
          exact h I4 J4 (cSt_tel hS hv q4 n4) (cQ_fr q4)
        | succ r ih =>
          intro i v w z o ho ev h0 ew ez hi
          subst ev
          subst ew
          have bl := zBest_lt f i h0
          have fi := fd i (by omega)
          have fb := fd (zBest f i) (by omega)
          have bs : zBest f (i + 1) = if f i < f (zBest f i) then i else zBest f i := rfl
          have ei : Int64.ofInt (zDs xn yn dn (zP0 L i)) = Int64.ofInt (f i) := by rw [← hf]; rfl
          have eb : Int64.ofInt (zDs xn yn dn (zP0 L (zBest f i))) = Int64.ofInt (f (zBest f i)) := by rw [← hf]; rfl
          have lt := lI_lt (a := f i) (b := f (zBest f i)) (by omega) (by omega)
          have eq := lI_eq (a := f i) (b := f (zBest f i)) (by omega) (by omega)
          refine sgX11_nearest hG [45] 100 45 ?_
          refine And.intro (fun q => absurd q (by rw [p1.1, nI_leI (by omega) (by omega)]; omega)) (fun _ => ?_)
          refine c_distance hG (by decide) p1 bL (zP0_at (by omega)) h12 hx hy ?_
          refine c_distance hG (by decide) p1 bL (zP0_at (by omega)) h12 hx hy ?_
          refine j_cmp hG (by decide) _ _ ?_
          rw [ei, eb]
          by_cases x1 : f i < f (zBest f i)
          · rw [if_pos (lt.mpr x1)]
            rw [if_pos x1] at bs
            refine And.intro (fun q => absurd q (by decide)) (fun _ => ?_)
            refine ih (i + 1) _ _ _ _ (Or.inr ⟨_, rfl⟩) (by rw [nI_1]) (by omega) (by rw [bs]) ?_ (by omega)
            rw [bs, zCnt_s, if_pos rfl, zCnt_0 f (f i) i (fun k hk q => by have := zBest_min f i k hk; omega)]
            rfl
          · rw [if_neg (fun q => x1 (lt.mp q))]
            rw [if_neg x1] at bs
            by_cases x2 : f i = f (zBest f i)
            · rw [if_pos (eq.mpr x2)]
              refine And.intro (fun _ => ?_) (fun q => absurd (by decide) q)
              refine And.intro (fun q => absurd rfl q) (fun _ => ?_)
              refine ih (i + 1) _ _ _ _ (Or.inr ⟨_, rfl⟩) (by rw [nI_1]) (by omega) (by rw [bs]) ?_ (by omega)
              rw [bs, zCnt_s, if_pos x2, ez, nI_1]
            · rw [if_neg (fun q => x2 (eq.mp q))]
              refine And.intro (fun _ => ?_) (fun q => absurd (by decide) q)
              refine And.intro (fun _ => ?_) (fun q => absurd q (by decide))
              refine ih (i + 1) _ _ _ _ (Or.inr ⟨_, rfl⟩) (by rw [nI_1]) (by omega) (by rw [bs]) ?_ (by omega)
              rw [bs, zCnt_s, if_neg x2, ez, Nat.add_zero]
      exact loop (L.length - 1) 1 1 0 1 none (Or.inl rfl) rfl (by omega) (by rw [zBest_1]; rfl) (by rw [zBest_1, zCnt_s, if_pos rfl]; rfl) (by omega)
    · have c : nI L.length = nI 0 := by rw [← p1.1]; exact c
      rw [nI_eq (by omega) (by omega)] at c
      rw [if_pos c] at h
      exact h I1 J (cSt_same hS hv q1 (f1 128 (by decide) (by decide) (by decide)) rfl) (cQ_fr q1)
  · have t := (zb_eq0 _).mp c1
    have e : sNea S.1 x y d = (-1, none) := by unfold sNea; rw [t]; rfl
    rw [e] at h
    exact h I J hS (fun _ _ => ⟨rfl, rfl⟩)
theorem m_nearest {G : zG} (hG : zGok G) {k' : Nat} (hk : 6 ≤ k') {I : Nat → Nat → Int32} {J : Nat → Nat → Int64} {past : Nat → Nat} {Q : zRt} {S : zS} (hS : mSt I J S) (hv : vS S) (x y d : Int32) (h : ∀ I' J', mSt I' J' (sOut S ( sNea S.1 x y d)) → mFr I J I' J' → Q (some (.int ( sNea S.1 x y d).1)) (zK0, I', J', zR0 past)) : zCalls G k' yX12_nearest [.ref 305, .int x, .int y, .int d] (zK0, I, J, zR0 past) Q := by
  have hS0 := mSt_thr (v := 0) hS
  have hQ0 : mQ I J (z_upI I 305 5 0) J := mQ_u (by omega)
  refine rnX12_nearest hG hk 305 x y d ?_
  refine sgX12_nearest hG [39, 82] 100 0 ?_
  refine m_isPoint hG (by decide) x y d ?_
  have bL := zPts_bd S.1 (-1)
  refine And.intro (fun c1 => ?_) (fun c1 => ?_)
  · have t := z_nb1 (x := 0) c1
    unfold sNea at h
    rw [if_pos t] at h
    obtain ⟨xn, yn, dn, rfl, rfl, rfl, h1, h12, hx, hy⟩ := bPt_in t
    rw [nI_clamp (show xn < 2 ^ 31 by omega), nI_clamp (show yn < 2 ^ 31 by omega), nI_clamp (show dn < 2 ^ 31 by omega)] at h
    refine m_layWholes hG (by decide) hS0.1 hv.1.1.1 (fun I1 f1 g1 p1 => ?_)
    have q1 : mQ I J I1 J := mQ_tr hQ0 ⟨fun x hx => ⟨f1 x (by omega) (by omega), rfl⟩, g1 2 (by decide), g1 13 (by decide)⟩
    generalize zPts S.1 (-1) = L at *
    have h49 := bL.1
    refine And.intro (fun c => ?_) (fun c => ?_)
    · have c : ¬ nI L.length = nI 0 := by rw [← p1.1]; exact c
      rw [nI_eq (by omega) (by omega)] at c
      rw [if_neg c] at h
      generalize hf : zFd xn yn dn L = f at *
      have fd : ∀ i, i < L.length → (f i).natAbs ≤ 100000 := by
        intro i hi
        rw [← hf]
        obtain ⟨b1, b2⟩ := bL.2 i _ (zP0_at hi)
        exact (zDs_bd b1 b2 h12 hx hy).1
      have bl := zBest_lt f L.length (by omega)
      have two : ∀ (r i : Nat) (v z : Int32), v = nI i → z = nI (zCnt f (f (zBest f L.length)) i) → i + r = L.length → aX12_nearest G Q 82 [some (.ref 305), some (.int (nI xn)), some (.int (nI yn)), some (.int (nI dn)), some (.int (nI (zBest f L.length))), some (.int z), some (.int v)] [] (zK0, I1, J, zR0 past) := by
        intro r
        induction r with
        | zero =>
          intro i v z ev ez hi
          have e : i = L.length := by omega
          subst e
          subst ev
          subst ez
          have i1 : (2 : Int32) * nI (zBest f L.length) = nI (2 * zBest f L.length) := by rw [show (2 : Int32) = nI 2 from rfl, pk_mul]
          have i2 : (2 : Int32) * nI (zBest f L.length) + 1 = nI (2 * zBest f L.length + 1) := by rw [i1, nI_1]
          obtain ⟨e1, e2⟩ := p1.2 _ _ (zP0_at bl)
          obtain ⟨b1, b2⟩ := bL.2 _ _ (zP0_at bl)
          refine sgX12_nearest hG [39, 82] 100 82 ?_
          refine And.intro (fun _ => ?_) (fun q => absurd (by rw [p1.1]; exact Int32.le_refl _) q)
          refine And.intro (by rw [i1]; exact vp_in_nI (by omega) (by omega)) ?_
          refine m_tellL hG (by decide) mNm_0 (by decide) _ (fun I2 J2 f2 g2 k2 n2 => ?_)
          refine And.intro (by rw [i2]; exact vp_in_nI (by omega) (by omega)) ?_
          refine m_tellL hG (by decide) n2 (by simp) _ (fun I3 J3 f3 g3 k3 n3 => ?_)
          have p3 : mPts I3 L := mPts_fr p1 (by rw [g3 _ (by decide), g2 _ (by decide), uI_k (by decide)]) (by rw [f3 _ (by decide), f2 _ (by decide), z_upI_ne (by decide)])
          refine m_farFrom hG (by decide) p3 bL (zP0_at bl) ?_
          have bf := fd _ bl
          have e3 : (Int32.ofInt (zDs xn yn dn (zP0 L (zBest f L.length)))).toInt64 = Int64.ofInt (f (zBest f L.length)) := by
            have : zDs xn yn dn (zP0 L (zBest f L.length)) = f (zBest f L.length) := by rw [← hf]; rfl
            rw [this, iI_l (by omega)]
          have ed : (nI dn).toInt64 * (nI dn).toInt64 = lN (dn * dn) := by rw [nI_l (by omega), lN_mul]
          have hdd : dn * dn ≤ 144 := Nat.mul_le_mul (show dn ≤ 12 from h12) h12
          have hd1 : 1 ≤ dn * dn := Nat.mul_le_mul (show 1 ≤ dn from h1) h1
          refine z_arg (args' := [.ref 305, .long (Int64.ofInt (f (zBest f L.length))), .long (lN (dn * dn))]) (by rw [e3, ed]) ?_
          refine m_tellFraction hG (by decide) n3 (by simp) _ _ (by rw [lI_T (by omega)]; omega) (by rw [pk_lT (by omega)]; omega) (fun q => by rw [← z_lN0, pk_lEQ (by omega) (by omega)] at q; omega) (fun I4 J4 f4 g4 k4 l4 n4 => ?_)
          have x0 : z_upI I1 305 4 0 316 ((2 : Int32) * nI (zBest f L.length)).toNatClampNeg = nI (zP0 L (zBest f L.length)).1 := by rw [i1, nI_clamp (by omega), z_upI_ne (by decide)]; exact e1
          have x1 : I2 316 ((2 : Int32) * nI (zBest f L.length) + 1).toNatClampNeg = nI (zP0 L (zBest f L.length)).2 := by rw [i2, nI_clamp (by omega), f2 316 (by decide), z_upI_ne (by decide)]; exact e2
          rw [x0, x1, nI_l (by omega), nI_l (by omega)] at n4
          have q4 : mQ I J I4 J4 := mQ_tr q1 (mQ_tr (J1 := J) (I1 := z_upI I1 305 4 0) (mQ_u (by omega)) ⟨fun x hx => ⟨by rw [f4 x (by omega), f3 x (by omega), f2 x (by omega)], by rw [k4 x (by omega) (by omega), k3 x (by omega), k2 x (by omega)]⟩, by rw [g4 2 (by decide), g3 2 (by decide), g2 2 (by decide)], by rw [g4 13 (by decide), g3 13 (by decide), g2 13 (by decide)]⟩)
          exact h I4 J4 (mSt_tel hS q4 n4) (mQ_fr q4)
        | succ r ih =>
          intro i v z ev ez hi
          subst ev
          have fi := fd i (by omega)
          have fb := fd _ bl
          have ei : zDs xn yn dn (zP0 L i) = f i := by rw [← hf]; rfl
          have eb : zDs xn yn dn (zP0 L (zBest f L.length)) = f (zBest f L.length) := by rw [← hf]; rfl
          have eq := iI_eq (a := f i) (b := f (zBest f L.length)) (by omega) (by omega)
          have cs := zCnt_s f (f (zBest f L.length)) i
          refine sgX12_nearest hG [39, 82] 100 82 ?_
          refine And.intro (fun q => absurd q (by rw [p1.1, nI_leI (by omega) (by omega)]; omega)) (fun _ => ?_)
          refine m_farFrom hG (by decide) p1 bL (zP0_at (by omega)) ?_
          refine m_farFrom hG (by decide) p1 bL (zP0_at bl) ?_
          rw [ei, eb]
          refine And.intro (fun x => ?_) (fun x => ?_)
          · rw [if_neg (fun q => x (eq.mpr q))] at cs
            exact ih (i + 1) _ _ (by rw [nI_1]) (by rw [cs, ez]; exact nI_add _ 0) (by omega)
          · rw [if_pos (eq.mp x)] at cs
            exact ih (i + 1) _ _ (by rw [nI_1]) (by rw [cs, ez, nI_1]) (by omega)
      have one : ∀ (r i : Nat) (v w : Int32), v = nI i → w = nI (zBest f i) → i + r = L.length → aX12_nearest G Q 39 [some (.ref 305), some (.int (nI xn)), some (.int (nI yn)), some (.int (nI dn)), some (.int w), some (.int 0), some (.int v)] [] (zK0, I1, J, zR0 past) := by
        intro r
        induction r with
        | zero =>
          intro i v w ev ew hi
          have e : i = L.length := by omega
          subst e
          subst ev
          subst ew
          refine sgX12_nearest hG [39, 82] 100 39 ?_
          refine And.intro (fun _ => ?_) (fun q => absurd (by rw [p1.1]; exact Int32.le_refl _) q)
          exact two L.length 0 0 0 rfl rfl (by omega)
        | succ r ih =>
          intro i v w ev ew hi
          subst ev
          subst ew
          have bl : zBest f i < L.length := by
            rcases Nat.eq_zero_or_pos i with z | z
            · subst z; show 0 < _; omega
            · have := zBest_lt f i z; omega
          have fi := fd i (by omega)
          have fb := fd _ bl
          have ei : zDs xn yn dn (zP0 L i) = f i := by rw [← hf]; rfl
          have eb : zDs xn yn dn (zP0 L (zBest f i)) = f (zBest f i) := by rw [← hf]; rfl
          have le := iI_le (a := f (zBest f i)) (b := f i) (by omega) (by omega)
          have bs : zBest f (i + 1) = if f i < f (zBest f i) then i else zBest f i := rfl
          refine sgX12_nearest hG [39, 82] 100 39 ?_
          refine And.intro (fun q => absurd q (by rw [p1.1, nI_leI (by omega) (by omega)]; omega)) (fun _ => ?_)
          refine m_farFrom hG (by decide) p1 bL (zP0_at (by omega)) ?_
          refine m_farFrom hG (by decide) p1 bL (zP0_at bl) ?_
          rw [ei, eb]
          refine And.intro (fun x => ?_) (fun x => ?_)
          · rw [if_neg (by rw [le] at x; omega)] at bs
            exact ih (i + 1) _ _ (by rw [nI_1]) (by rw [bs]) (by omega)
          · rw [if_pos (by rw [le] at x; omega)] at bs
            exact ih (i + 1) _ _ (by rw [nI_1]) (by rw [bs]) (by omega)
      exact one L.length 0 0 0 rfl rfl (by omega)
    · have c : nI L.length = nI 0 := by rw [← p1.1]; exact c
      rw [nI_eq (by omega) (by omega)] at c
      rw [if_pos c] at h
      exact h I1 J (mSt_same hS q1 (by rw [g1 4 (by decide), uI_k (by decide)]) rfl) (mQ_fr q1)
  · have t := (zb_eq0 _).mp c1
    have e : sNea S.1 x y d = (-1, none) := by unfold sNea; rw [t]; rfl
    rw [e] at h
    exact h _ J hS0 (mQ_fr hQ0)
