-- what every call keeps
def oL : Option (List Int64) → Nat
  | none => 0
  | some L => L.length
theorem vS_out {S : zS} {r : Int32 × Option (List Int64)} (h : oL r.2 ≤ 40) (hv : vS S) : vS (sOut S r) := by
  obtain ⟨a, o⟩ := r
  cases o with
  | none => exact hv
  | some L => exact ⟨hv.1, hv.2.1, hv.2.2.1, hv.2.2.2.1, h⟩
theorem hPush_v {n : Nat} {Hf : Nat → zPl} {π : zPl} (h8 : n ≤ 8) (h : ∀ i, i < n → vPl (Hf i)) (hv : vPl π) : (hPush n Hf π).1 ≤ 8 ∧ ∀ i, i < (hPush n Hf π).1 → vPl ((hPush n Hf π).2 i) := by
  unfold hPush
  split
  · rename_i c
    refine ⟨c, fun i hi => ?_⟩
    have hi : i < n + 1 := hi
    show vPl (va_up Hf n π i)
    unfold va_up
    split
    · exact hv
    · exact h i (by omega)
  · refine ⟨Nat.le_refl 8, fun i hi => ?_⟩
    have hi : i < 8 := hi
    show vPl (if i < 7 then Hf (i + 1) else π)
    split
    · exact h (i + 1) (by omega)
    · exact hv
theorem vS_chg {S : zS} {r : Int32 × zPl} (h : vPl r.2) (hv : vS S) : vS (sChg S r) := by
  unfold sChg
  split
  · exact ⟨h, hPush_v hv.2.1.1 hv.2.1.2 hv.1, hv.2.2⟩
  · exact hv
theorem vS_und {S : zS} (hv : vS S) : vS (sUnd S).2 := by
  unfold sUnd
  split
  · exact hv
  · rename_i c
    exact ⟨hv.2.1.2 _ (by omega), ⟨by have := hv.2.1.1; show S.2.1.1 - 1 ≤ 8; omega, fun i hi => hv.2.1.2 i (by have hi : i < S.2.1.1 - 1 := hi; omega)⟩, hv.2.2⟩
theorem vS_kee {S : zS} (i : Int32) (hv : vS S) : vS (sKee S i).2 := by
  unfold sKee
  split
  · refine ⟨hv.1, hv.2.1, fun j hj hb => ?_, hv.2.2.2⟩
    show vPl (va_up S.2.2.1.2 i.toNatClampNeg S.1 j)
    have hb : (if j = i.toNatClampNeg then true else S.2.2.1.1 j) = true := hb
    unfold va_up
    split
    · exact hv.1
    · rename_i c
      rw [if_neg c] at hb
      exact hv.2.2.1 j hj hb
  · exact hv
theorem vS_aga {S : zS} (i : Int32) (hv : vS S) : vS (sAga S i).2 := by
  unfold sAga
  split
  · rename_i c
    rw [Bool.and_eq_true] at c
    obtain ⟨n, hn, e⟩ := bTwo_in c.1
    have t : i.toNatClampNeg < 2 := by rw [e, nI_clamp (by omega)]; exact hn
    exact ⟨hv.2.2.1 _ t c.2, ⟨Nat.zero_le 8, fun i hi => absurd hi (Nat.not_lt_zero i)⟩, hv.2.2⟩
  · exact hv
theorem vS_sgn {S : zS} (v : Int32) (hv : vS S) : vS (sSgn S v).2 := by
  unfold sSgn
  split
  · exact hv
  · rename_i c
    refine ⟨hv.1, hv.2.1, hv.2.2.1, ⟨by show S.2.2.2.1.1 + 4 ≤ 80; omega, fun j hj => ?_⟩, hv.2.2.2.2⟩
    show ∃ n, n < 256 ∧ (if j < S.2.2.2.1.1 then S.2.2.2.1.2 j else zByt v (j - S.2.2.2.1.1)) = nI n
    split
    · rename_i q
      exact hv.2.2.2.1.2 j q
    · exact zByt_in v _
theorem vS_end {S : zS} (n : Int32) (hv : vS S) : vS (sEnd S n).2 := by
  unfold sEnd
  split
  · exact hv
  · rename_i c
    have h80 := hv.2.2.2.1.1
    obtain ⟨j, h1, h2⟩ := nI_of (x := n) (fun q => c (Or.inl q))
    have c2 : ¬ nI S.2.2.2.1.1 < n := fun q => c (Or.inr q)
    rw [h2, nI_ltI (by omega) h1] at c2
    have t : n.toNatClampNeg = j := by rw [h2, nI_clamp h1]
    refine ⟨hv.1, hv.2.1, hv.2.2.1, ⟨?_, fun i hi => ?_⟩, hv.2.2.2.2⟩
    · show n.toNatClampNeg ≤ 80
      omega
    · have hi : i < n.toNatClampNeg := hi
      exact hv.2.2.2.1.2 i (by omega)
theorem vS_she {S : zS} (kind n f step : Int32) (hv : vS S) : vS (sShe S kind n f step).2 := by
  unfold sShe
  split
  · exact hv
  · split
    · exact hv
    · exact ⟨shP_v (shV_bd kind n f step) hv.1, hv.2⟩
theorem vS_rws {S : zS} (hv : vS S) : vS (sRws S).2 := by
  unfold sRws
  split
  · exact vS_tx hv
  · rename_i A e
    split
    · exact vS_tx hv
    · rename_i e2
      exact ⟨rwPl_v hv.1 (rwP_6 e) e2, hPush_v hv.2.1.1 hv.2.1.2 hv.1, (vS_tx hv).2.2⟩
theorem vS_day {S : zS} (hv : vS S) : vS (sDay S).2 := by
  unfold sDay
  split
  · exact vS_tx hv
  · refine ⟨(dyX_v 80 0 0 S.1 hv.1).1, ?_, (vS_tx hv).2.2.1, (vS_tx hv).2.2.2.1, Nat.le_of_ble_eq_true rfl⟩
    show (if 0 < (sDx S).2.1 then hPush S.2.1.1 S.2.1.2 S.1 else S.2.1).1 ≤ 8 ∧ ∀ i, i < (if 0 < (sDx S).2.1 then hPush S.2.1.1 S.2.1.2 S.1 else S.2.1).1 → vPl ((if 0 < (sDx S).2.1 then hPush S.2.1.1 S.2.1.2 S.1 else S.2.1).2 i)
    split
    · exact hPush_v hv.2.1.1 hv.2.1.2 hv.1
    · exact hv.2.1
-- the lengths of what is told
theorem oL_ite {p : Prop} [Decidable p] {a b : List Int64} (ha : a.length ≤ 40) (hb : b.length ≤ 40) : oL (some (if p then a else b)) ≤ 40 := by
  split
  · exact ha
  · exact hb
theorem oL_app {p : Prop} [Decidable p] {a b c : List Int64} (hb : a.length + b.length ≤ 40) (hc : a.length + c.length ≤ 40) : oL (some (a ++ if p then b else c)) ≤ 40 := by
  show (a ++ if p then b else c).length ≤ 40
  rw [List.length_append]
  split
  · exact hb
  · exact hc
theorem oL_who (π : zPl) : oL (sWho π).2 ≤ 40 := by
  unfold sWho
  exact oL_ite (Nat.le_of_ble_eq_true rfl) (Nat.le_of_ble_eq_true rfl)
theorem oL_los (π : zPl) (a b c : Int32) : oL (sLos π a b c).2 ≤ 40 := by
  unfold sLos
  split <;> exact Nat.le_of_ble_eq_true rfl
theorem oL_nea (π : zPl) (x y d : Int32) : oL (sNea π x y d).2 ≤ 40 := by
  unfold sNea
  split
  · split <;> exact Nat.le_of_ble_eq_true rfl
  · exact Nat.le_of_ble_eq_true rfl
theorem oL_tig (π : zPl) : oL (sTig π).2 ≤ 40 := by
  unfold sTig
  split <;> exact Nat.le_of_ble_eq_true rfl
theorem oL_yrs (π : zPl) (s n : Int32) : oL (sYrs π s n).2 ≤ 40 := by
  unfold sYrs
  split <;> exact Nat.le_of_ble_eq_true rfl
theorem oL_chk (π : zPl) (i : Int32) : oL (sChk π i).2 ≤ 40 := by
  unfold sChk
  split <;> exact Nat.le_of_ble_eq_true rfl
theorem oL_cnt (S : zS) (w : Int32) : oL (sCnt S w).2 ≤ 40 := Nat.zero_le 40
theorem oL_brk (π : zPl) (x y d : Int32) : oL (sBrk π x y d).2 ≤ 40 := by
  unfold sBrk
  split
  · split <;> exact Nat.le_of_ble_eq_true rfl
  · exact Nat.le_of_ble_eq_true rfl
theorem oL_str (π : zPl) (i : Int32) : oL (sStr π i).2 ≤ 40 := by
  unfold sStr
  split <;> exact Nat.le_of_ble_eq_true rfl
theorem oL_slc (π : zPl) (r w k : Int32) : oL (sSlc π r w k).2 ≤ 40 := by
  unfold sSlc
  split
  · split <;> exact Nat.le_of_ble_eq_true rfl
  · exact Nat.le_of_ble_eq_true rfl
theorem oL_ins (π : zPl) (r x y d : Int32) : oL (sIns π r x y d).2 ≤ 40 := by
  unfold sIns
  split <;> exact Nat.le_of_ble_eq_true rfl
theorem oL_rnd (π : zPl) (x y d : Int32) : oL (sRnd π x y d).2 ≤ 40 := by
  unfold sRnd
  split <;> exact Nat.le_of_ble_eq_true rfl
theorem oL_spl (π : zPl) (r x y d : Int32) : oL (sSpl π r x y d).2 ≤ 40 := by
  unfold sSpl
  split
  · split <;> exact Nat.le_of_ble_eq_true rfl
  · exact Nat.le_of_ble_eq_true rfl
theorem oL_sls (π : zPl) (r : Int32) : oL (sSls π r).2 ≤ 40 := by
  unfold sSls
  split
  · exact oL_app (Nat.le_of_ble_eq_true rfl) (Nat.le_of_ble_eq_true rfl)
  · exact Nat.le_of_ble_eq_true rfl
theorem oL_cut (π : zPl) (w sd k : Int32) : oL (sCut π w sd k).2 ≤ 40 := by
  unfold sCut
  show oL (if rfC π w sd k = 1 then _ else _) ≤ 40
  split
  · show (tlL _ 13).length ≤ 40
    rw [tlL_len]
    decide
  · exact Nat.zero_le 40
theorem oL_mos (π : zPl) (a b c : Int32) : oL (sMos π a b c).2 ≤ 40 := by
  unfold sMos
  split
  · split <;> exact Nat.le_of_ble_eq_true rfl
  · exact Nat.le_of_ble_eq_true rfl
theorem oL_gai (π : zPl) (a b : Int32) : oL (sGai π a b).2 ≤ 40 := by
  unfold sGai
  split
  · split <;> exact Nat.le_of_ble_eq_true rfl
  · exact Nat.le_of_ble_eq_true rfl
theorem oL_hul {π : zPl} : oL (sHul π).2 ≤ 40 := by
  unfold sHul
  show (hNl _ _ _).length ≤ 40
  rw [hNl_len]
  have := (hHs_f (zPts_bd π (-1)) (pv_lxL (zPts_bd π (-1)) (zPts_pw π (-1)))).1
  omega
-- the other side stands
theorem mSt_cFr {I I' : Nat → Nat → Int32} {J J' : Nat → Nat → Int64} {S : zS} (h : cFr I J I' J') (hS : mSt I J S) : mSt I' J' S := by
  obtain ⟨a, b, c, d, e⟩ := hS
  have t := congrFun (h 305 (by decide)).1
  exact ⟨mPl_fr a (h 306 (by decide)).1, mHis_fr b (t 13) (h 310 (by decide)).1, mKep_fr c (h 319 (by decide)).1 (h 318 (by decide)).1, mTxt_fr d (t 2) (h 307 (by decide)).1, mNum_fr e (t 4) (h 308 (by decide)).2⟩
theorem cSt_mFr {I I' : Nat → Nat → Int32} {J J' : Nat → Nat → Int64} {past : Nat → Nat} {S : zS} (h : mFr I J I' J') (hv : vS S) (hS : cSt I J past S) : cSt I' J' past S := by
  have f : ∀ x, x < 305 → I' x = I x ∧ J' x = J x := fun x hx => h x (Or.inl hx)
  obtain ⟨a, b, c, d, e⟩ := hS
  refine ⟨cPl_rg a hv.1.2.1 (fun x _ q => f x (by omega)), cHis_fr b (fun i hi => (hv.2.1.2 i hi).2.1) (fun x hx => f x ?_), cKep_fr c (fun i hi k => (hv.2.2.1 i hi k).2.1) (fun x hx => f x (by omega)), ?_, ?_⟩
  · rcases hx with q | ⟨i, hi, q1, q2⟩
    · omega
    · have := b.2.2.1 i (by have := hv.2.1.1; omega)
      have : past i ≤ 115 := by
        simp only [List.mem_cons, List.not_mem_nil, or_false] at this
        omega
      omega
  · exact ⟨by rw [(f 126 (by decide)).1]; exact d.1, fun j hj => by rw [(f 127 (by decide)).1]; exact d.2 j hj⟩
  · exact ⟨by rw [(f 128 (by decide)).1]; exact e.1, fun j hj => by rw [(f 129 (by decide)).2]; exact e.2.1 j hj, by rw [(f 12 (by decide)).1]; exact e.2.2⟩
