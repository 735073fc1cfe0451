-- ===== a cut: its numbers =====
def ctG (sd : Nat) : Int := if sd = 0 then 1 else -1
def ctM (f g : zFr) (k : Int) : Int := f.1 * g.2 - bwS f g * k
def ctN (f g : zFr) (k : Int) : Nat := Nat.gcd (Nat.gcd (f.2 * g.2).natAbs (bwS f g).natAbs) (ctM f g k).natAbs
def ctO (f g : zFr) (k : Int) (sd : Nat) : Int := (ctG sd * (f.2 * g.2)).tdiv (ctN f g k)
def ctS (f g : zFr) (k : Int) (sd : Nat) : Int := (-(ctG sd * bwS f g)).tdiv (ctN f g k)
def ctB (f g : zFr) (k : Int) (sd : Nat) : Int := (ctG sd * ctM f g k).tdiv (ctN f g k)
theorem tdiv_bd (a : Int) (n : Nat) : (a.tdiv (n : Int)).natAbs ≤ a.natAbs := by rw [Int.natAbs_tdiv]; exact Nat.div_le_self _ _
theorem ct_bd {f g : zFr} (hf : fW 5 f) (hg : fW 5 g) {k : Nat} (hk : k ≤ 6) (sd : Nat) : (0 < ctN f g k ∧ 0 < f.2 * g.2) ∧ ((f.2 * g.2).natAbs ≤ 25 ∧ (bwS f g).natAbs ≤ 300 ∧ (ctM f g k).natAbs ≤ 1950) ∧ (ctO f g k sd).natAbs ≤ 25 ∧ (ctS f g k sd).natAbs ≤ 300 ∧ (ctB f g k sd).natAbs ≤ 1950 := by
  obtain ⟨p1, a1, a2⟩ := fW_p hf
  obtain ⟨p2, b1, b2⟩ := fW_p hg
  have x0 := Int.mul_pos p1 p2
  have x1 := bd_mul a2 b2
  have x2 := bwS_bd hf hg
  have x3 : (ctM f g k).natAbs ≤ 1950 := bd_sub (bd_mul a1 b2) (bd_mul x2 (show ((k : Nat) : Int).natAbs ≤ 6 by omega))
  have hs : (ctG sd).natAbs ≤ 1 := by unfold ctG; split <;> decide
  have y1 := bd_mul hs x1
  have y2 := bd_mul hs x2
  have y3 := bd_mul hs x3
  refine ⟨⟨?_, x0⟩, ⟨x1, x2, x3⟩, ?_, ?_, ?_⟩
  · exact Nat.gcd_pos_of_pos_left _ (Nat.gcd_pos_of_pos_left _ (by omega))
  · exact Nat.le_trans (tdiv_bd _ _) (by omega)
  · exact Nat.le_trans (tdiv_bd _ _) (by omega)
  · exact Nat.le_trans (tdiv_bd _ _) (by omega)
theorem ctO_ne {f g : zFr} (hf : fW 5 f) (hg : fW 5 g) {k : Nat} (hk : k ≤ 6) (sd : Nat) : ctO f g k sd ≠ 0 := by
  obtain ⟨⟨n0, p0⟩, _⟩ := ct_bd hf hg hk sd
  have d : ((ctN f g k : Nat) : Int) ∣ f.2 * g.2 := Int.ofNat_dvd_left.mpr (Nat.dvd_trans (Nat.gcd_dvd_left _ _) (Nat.gcd_dvd_left _ _))
  have hs : ctG sd = 1 ∨ ctG sd = -1 := by unfold ctG; split; exact Or.inl rfl; exact Or.inr rfl
  intro e
  unfold ctO at e
  have d2 : ((ctN f g k : Nat) : Int) ∣ ctG sd * (f.2 * g.2) := Int.dvd_mul_of_dvd_right d
  have m := Int.mul_tdiv_cancel' d2
  rw [e, Int.mul_zero] at m
  rcases hs with h | h
  · rw [h] at m; omega
  · rw [h] at m; omega
-- ===== the row on which an end lies =====
def bnP (π : zPl) (w sd k : Nat) (f : zFr) (x : Nat) : Bool := (if sd = 0 then decide (0 < (pR π x (1 - w)).toInt) else decide ((pR π x (1 - w)).toInt < 0)) && decide ((pR π x (1 - w)).toInt * f.1 = zRs π w k x * f.2)
def fst1 (c : Nat → Bool) : Nat → Nat → Nat
  | k, 0 => k
  | k, r + 1 => if c k then k else fst1 c (k + 1) r
theorem fst1_f (c : Nat → Bool) : ∀ (r k : Nat), (∃ x, k ≤ x ∧ x < k + r ∧ c x = true) → fst1 c k r < k + r ∧ c (fst1 c k r) = true
  | 0, k, ⟨x, h1, h2, _⟩ => by omega
  | r + 1, k, ⟨x, h1, h2, h3⟩ => by
    show (if c k then k else fst1 c (k + 1) r) < _ ∧ c (if c k then k else fst1 c (k + 1) r) = true
    by_cases e : c k = true
    · rw [if_pos e]; exact ⟨by omega, e⟩
    · rw [if_neg e]
      have n : x ≠ k := fun q => e (q ▸ h3)
      have ih := fst1_f c r (k + 1) ⟨x, by omega, by omega, h3⟩
      exact ⟨by omega, ih.2⟩
def bnI (π : zPl) (w sd k : Nat) (f : zFr) : Nat := fst1 (bnP π w sd k f) 0 (π.1 + 4)
theorem nwF_hi (π : zPl) (w k : Nat) : ∀ i, (nwF π w k i).2.2 = (6, 1) ∨ ∃ x, x < i ∧ 0 < (pR π x (1 - w)).toInt ∧ (pR π x (1 - w)).toInt * (nwF π w k i).2.2.1 = zRs π w k x * (nwF π w k i).2.2.2
  | 0 => Or.inl rfl
  | i + 1 => by
    have ih := nwF_hi π w k i
    have e : (nwF π w k (i + 1)).2.2 = nwH (nwF π w k i).2.2 (pR π i (1 - w)).toInt (zRs π w k i) := rfl
    rw [e]
    unfold nwH
    split
    · rename_i c
      right
      refine ⟨i, by omega, c.1, ?_⟩
      have v := fRed_val (a := zRs π w k i) (b := (pR π i (1 - w)).toInt) (by omega)
      rw [Int.mul_comm]; exact v
    · rcases ih with h | ⟨x, h1, h2⟩
      · exact Or.inl h
      · exact Or.inr ⟨x, by omega, h2⟩
theorem nwF_lo (π : zPl) (w k : Nat) : ∀ i, (nwF π w k i).2.1 = (0, 1) ∨ ∃ x, x < i ∧ (pR π x (1 - w)).toInt < 0 ∧ (pR π x (1 - w)).toInt * (nwF π w k i).2.1.1 = zRs π w k x * (nwF π w k i).2.1.2
  | 0 => Or.inl rfl
  | i + 1 => by
    have ih := nwF_lo π w k i
    have e : (nwF π w k (i + 1)).2.1 = nwL (nwF π w k i).2.1 (pR π i (1 - w)).toInt (zRs π w k i) := rfl
    rw [e]
    unfold nwL
    split
    · rename_i c
      right
      refine ⟨i, by omega, c.1, ?_⟩
      have v := fRed_val (a := zRs π w k i) (b := (pR π i (1 - w)).toInt) (by omega)
      rw [Int.mul_comm]; exact v
    · rcases ih with h | ⟨x, h1, h2⟩
      · exact Or.inl h
      · exact Or.inr ⟨x, by omega, h2⟩
def ctE (sd : Nat) (st : zSl) : zFr := if sd = 0 then st.2.2 else st.2.1
theorem pR_box (π : zPl) (j w : Nat) : pR π (π.1 + j) w = zBx (3 * j + w) := by
  unfold pR
  rw [if_neg (by omega), show π.1 + j - π.1 = j by omega]
theorem bn_key {π : zPl} {w sd k : Nat} {f : zFr} {x : Nat} (hx : x < π.1 + 4) (h1 : if sd = 0 then 0 < (pR π x (1 - w)).toInt else (pR π x (1 - w)).toInt < 0) (h2 : (pR π x (1 - w)).toInt * f.1 = zRs π w k x * f.2) : ∃ x, 0 ≤ x ∧ x < 0 + (π.1 + 4) ∧ bnP π w sd k f x = true := by
  refine ⟨x, by omega, by omega, ?_⟩
  unfold bnP
  rw [decide_eq_true h2, Bool.and_true]
  by_cases c : sd = 0
  · rw [if_pos c] at h1 ⊢; exact decide_eq_true h1
  · rw [if_neg c] at h1 ⊢; exact decide_eq_true h1
theorem bn_hi {π : zPl} {w k : Nat} (hw : w < 2) {f : zFr} (h : f = (6, 1) ∨ ∃ x, x < π.1 + 4 ∧ 0 < (pR π x (1 - w)).toInt ∧ (pR π x (1 - w)).toInt * f.1 = zRs π w k x * f.2) : ∃ x, 0 ≤ x ∧ x < 0 + (π.1 + 4) ∧ bnP π w 0 k f x = true := by
  rcases h with rfl | ⟨x, h1, h2, h3⟩
  · rcases (show w = 0 ∨ w = 1 by omega) with rfl | rfl
    · refine bn_key (x := π.1 + 3) (by omega) ?_ ?_
      · rw [if_pos rfl, pR_box]; decide
      · unfold zRs
        rw [pR_box, pR_box, pR_box, show (zBx (3 * 3 + (1 - 0))).toInt = 1 by decide, show (zBx (3 * 3 + 2)).toInt = 6 by decide, show (zBx (3 * 3 + 0)).toInt = 0 by decide]
        omega
    · refine bn_key (x := π.1 + 1) (by omega) ?_ ?_
      · rw [if_pos rfl, pR_box]; decide
      · unfold zRs
        rw [pR_box, pR_box, pR_box, show (zBx (3 * 1 + (1 - 1))).toInt = 1 by decide, show (zBx (3 * 1 + 2)).toInt = 6 by decide, show (zBx (3 * 1 + 1)).toInt = 0 by decide]
        omega
  · exact bn_key h1 (by rw [if_pos rfl]; exact h2) h3
theorem bn_lo {π : zPl} {w k : Nat} (hw : w < 2) {f : zFr} (h : f = (0, 1) ∨ ∃ x, x < π.1 + 4 ∧ (pR π x (1 - w)).toInt < 0 ∧ (pR π x (1 - w)).toInt * f.1 = zRs π w k x * f.2) : ∃ x, 0 ≤ x ∧ x < 0 + (π.1 + 4) ∧ bnP π w 1 k f x = true := by
  rcases h with rfl | ⟨x, h1, h2, h3⟩
  · rcases (show w = 0 ∨ w = 1 by omega) with rfl | rfl
    · refine bn_key (x := π.1 + 2) (by omega) ?_ ?_
      · rw [if_neg (by decide), pR_box]; decide
      · unfold zRs
        rw [pR_box, pR_box, pR_box, show (zBx (3 * 2 + (1 - 0))).toInt = -1 by decide, show (zBx (3 * 2 + 2)).toInt = 0 by decide, show (zBx (3 * 2 + 0)).toInt = 0 by decide]
        omega
    · refine bn_key (x := π.1 + 0) (by omega) ?_ ?_
      · rw [if_neg (by decide), pR_box]; decide
      · unfold zRs
        rw [pR_box, pR_box, pR_box, show (zBx (3 * 0 + (1 - 1))).toInt = -1 by decide, show (zBx (3 * 0 + 2)).toInt = 0 by decide, show (zBx (3 * 0 + 1)).toInt = 0 by decide]
        omega
  · exact bn_key h1 (by rw [if_neg (by decide)]; exact h2) h3
theorem sT0_2 (π : zPl) (w k : Nat) : (sT0 π w k).2 = (nwF π w k (π.1 + 4)).2 := rfl
theorem bn_ex (π : zPl) {w sd k : Nat} (hw : w < 2) (hsd : sd < 2) : ∃ x, 0 ≤ x ∧ x < 0 + (π.1 + 4) ∧ bnP π w sd k (ctE sd (sT0 π w k)) x = true := by
  have e := sT0_2 π w k
  have h1 := nwF_hi π w k (π.1 + 4)
  have h2 := nwF_lo π w k (π.1 + 4)
  rw [← e] at h1 h2
  unfold ctE
  generalize (sT0 π w k) = st at *
  rcases (show sd = 0 ∨ sd = 1 by omega) with rfl | rfl
  · rw [if_pos rfl]; exact bn_hi hw h1
  · rw [if_neg (by decide)]; exact bn_lo hw h2
theorem bnI_f (π : zPl) {w sd k : Nat} (hw : w < 2) (hsd : sd < 2) : bnI π w sd k (ctE sd (sT0 π w k)) < π.1 + 4 ∧ (pR π (bnI π w sd k (ctE sd (sT0 π w k))) (1 - w)).toInt ≠ 0 := by
  obtain ⟨h1, h2⟩ := fst1_f (bnP π w sd k (ctE sd (sT0 π w k))) (π.1 + 4) 0 (bn_ex π hw hsd)
  have h1 : bnI π w sd k (ctE sd (sT0 π w k)) < 0 + (π.1 + 4) := h1
  have h2 : bnP π w sd k (ctE sd (sT0 π w k)) (bnI π w sd k (ctE sd (sT0 π w k))) = true := h2
  refine ⟨by omega, fun e => ?_⟩
  unfold bnP at h2
  rw [Bool.and_eq_true] at h2
  have h3 := h2.1
  rw [e] at h3
  split at h3
  · exact absurd h3 (by decide)
  · exact absurd h3 (by decide)
-- ===== the whole cut =====
def ctU (π : zPl) (w x : Nat) (o : Int) : zFr := fRed o (pR π x (1 - w)).toInt
def ctT (π : zPl) (w x hf : Nat) (o s : Int) : zFr := fRed ((if hf = 0 then 1 else -1) * (s * (pR π x (1 - w)).toInt - o * (pR π x w).toInt)) (pR π x (1 - w)).toInt
def ctF (w k i j : Nat) (o s b : Int) (u1 u2 v1 v2 : zFr) (n : Nat) : Int := [if w = 0 then s else o, if w = 0 then o else s, b, (w : Int), (k : Int), (i : Int), (j : Int), u1.1, u1.2, u2.1, u2.2, v1.1, v1.2, v2.1, v2.2].getD n 0
def ctQ (π : zPl) (w sd k : Nat) (f g : zFr) (n : Nat) : Int := ctF w k (bnI π w sd k f) (bnI π w sd (k + 1) g) (ctO f g k sd) (ctS f g k sd) (ctB f g k sd) (ctU π w (bnI π w sd k f) (ctO f g k sd)) (ctT π w (bnI π w sd k f) 0 (ctO f g k sd) (ctS f g k sd)) (ctU π w (bnI π w sd (k + 1) g) (ctO f g k sd)) (ctT π w (bnI π w sd (k + 1) g) 1 (ctO f g k sd) (ctS f g k sd)) n
def sCt (π : zPl) (w sd k : Nat) (n : Nat) : Int32 := Int32.ofInt (ctQ π w sd k (ctE sd (sT0 π w k)) (ctE sd (sT0 π w (k + 1))) n)
theorem ctE_W {sd : Nat} {st : zSl} {B : Nat} (h : slW B st) (c : st.1 = true) : fW B (ctE sd st) := by
  unfold ctE
  split
  · exact (h c).1.2
  · exact (h c).1.1
theorem ctT_bd {π : zPl} (hv : vRw π) {w x : Nat} (hw : w < 2) (hx : x < π.1 + 4) {o s : Int} (ho : o.natAbs ≤ 25) (hs : s.natAbs ≤ 300) (hf : Nat) : ((if hf = 0 then 1 else -1) * (s * (pR π x (1 - w)).toInt - o * (pR π x w).toInt) : Int).natAbs ≤ 1625 := by
  have a := pR_w hv hx (w := 1 - w) (by omega)
  have b := pR_w hv hx hw
  have k := bd_mul (show (if hf = 0 then 1 else -1 : Int).natAbs ≤ 1 by split <;> decide) (bd_sub (bd_mul hs a) (bd_mul ho b))
  exact k
theorem ctF_bd {w k i j : Nat} {o s b : Int} {u1 u2 v1 v2 : zFr} (hw : w ≤ 1950) (hk : k ≤ 1950) (hi : i ≤ 1950) (hj : j ≤ 1950) (ho : o.natAbs ≤ 1950) (hs : s.natAbs ≤ 1950) (hb : b.natAbs ≤ 1950) (a1 : u1.1.natAbs ≤ 1950 ∧ u1.2.natAbs ≤ 1950) (a2 : u2.1.natAbs ≤ 1950 ∧ u2.2.natAbs ≤ 1950) (a3 : v1.1.natAbs ≤ 1950 ∧ v1.2.natAbs ≤ 1950) (a4 : v2.1.natAbs ≤ 1950 ∧ v2.2.natAbs ≤ 1950) (n : Nat) : (ctF w k i j o s b u1 u2 v1 v2 n).natAbs ≤ 1950 := by
  have i1 : (if w = 0 then s else o : Int).natAbs ≤ 1950 := by split <;> assumption
  have i2 : (if w = 0 then o else s : Int).natAbs ≤ 1950 := by split <;> assumption
  unfold ctF
  generalize (if w = 0 then s else o : Int) = x1 at *
  generalize (if w = 0 then o else s : Int) = x2 at *
  obtain ⟨u11, u12⟩ := u1
  obtain ⟨u21, u22⟩ := u2
  obtain ⟨v11, v12⟩ := v1
  obtain ⟨v21, v22⟩ := v2
  have all : ∀ z ∈ [x1, x2, b, (w : Int), (k : Int), (i : Int), (j : Int), u11, u12, u21, u22, v11, v12, v21, v22], z.natAbs ≤ 1950 := by
    intro z hz
    simp only [List.mem_cons, List.not_mem_nil, or_false] at hz
    rcases hz with h | h | h | h | h | h | h | h | h | h | h | h | h | h | h
    all_goals rw [h]
    · exact i1
    · exact i2
    · exact hb
    · omega
    · omega
    · omega
    · omega
    · exact a1.1
    · exact a1.2
    · exact a2.1
    · exact a2.2
    · exact a3.1
    · exact a3.2
    · exact a4.1
    · exact a4.2
  rw [List.getD_eq_getElem?_getD]
  show ([x1, x2, b, (w : Int), (k : Int), (i : Int), (j : Int), u11, u12, u21, u22, v11, v12, v21, v22][n]?.getD 0).natAbs ≤ 1950
  cases e : [x1, x2, b, (w : Int), (k : Int), (i : Int), (j : Int), u11, u12, u21, u22, v11, v12, v21, v22][n]? with
  | none => show (0 : Int).natAbs ≤ _; decide
  | some z => exact all z (List.mem_of_getElem? e)
theorem ctU_b {π : zPl} (hv : vRw π) {w x : Nat} (hw : w < 2) (hx : x < π.1 + 4) (h0 : (pR π x (1 - w)).toInt ≠ 0) {o : Int} (ho : o.natAbs ≤ 25) : (ctU π w x o).1.natAbs ≤ 1950 ∧ (ctU π w x o).2.natAbs ≤ 1950 := by
  have a := pR_w hv hx (w := 1 - w) (by omega)
  have b := fRed_bd (a := o) h0
  unfold ctU
  omega
theorem ctT_b {π : zPl} (hv : vRw π) {w x : Nat} (hw : w < 2) (hx : x < π.1 + 4) (h0 : (pR π x (1 - w)).toInt ≠ 0) {o s : Int} (ho : o.natAbs ≤ 25) (hs : s.natAbs ≤ 300) (hf : Nat) : (ctT π w x hf o s).1.natAbs ≤ 1950 ∧ (ctT π w x hf o s).2.natAbs ≤ 1950 := by
  have a := pR_w hv hx (w := 1 - w) (by omega)
  have c := ctT_bd hv hw hx ho hs hf
  have b := fRed_bd (a := (if hf = 0 then 1 else -1) * (s * (pR π x (1 - w)).toInt - o * (pR π x w).toInt)) h0
  unfold ctT
  exact ⟨Nat.le_trans b.1 (Nat.le_trans c (by decide)), Nat.le_trans b.2 (Nat.le_trans a (by decide))⟩
theorem ct_all {π : zPl} (hv : vRw π) {w sd k : Nat} (hw : w < 2) (hsd : sd < 2) (hk : k < 6) (c1 : (sT0 π w k).1 = true) (c2 : (sT0 π w (k + 1)).1 = true) (n : Nat) : (ctQ π w sd k (ctE sd (sT0 π w k)) (ctE sd (sT0 π w (k + 1))) n).natAbs ≤ 1950 := by
  have wf := ctE_W (sd := sd) (sT0_W hv hw (k := k) (by omega)) c1
  have wg := ctE_W (sd := sd) (sT0_W hv hw (k := k + 1) (by omega)) c2
  obtain ⟨_, _, o1, o2, o3⟩ := ct_bd wf wg (k := k) (by omega) sd
  obtain ⟨i1, i2⟩ := bnI_f π (w := w) (sd := sd) (k := k) hw hsd
  obtain ⟨j1, j2⟩ := bnI_f π (w := w) (sd := sd) (k := k + 1) hw hsd
  have h6 := hv.1
  unfold ctQ
  exact ctF_bd (by omega) (by omega) (by omega) (by omega) (by omega) (by omega) o3 (ctU_b hv hw i1 i2 o1) (ctT_b hv hw i1 i2 o1 o2 0) (ctU_b hv hw j1 j2 o1) (ctT_b hv hw j1 j2 o1 o2 1) n
theorem sCt_v {π : zPl} (hv : vRw π) {w sd k : Nat} (hw : w < 2) (hsd : sd < 2) (hk : k < 6) (c1 : (sT0 π w k).1 = true) (c2 : (sT0 π w (k + 1)).1 = true) : vCt (sCt π w sd k) := by
  have all := ct_all hv hw hsd hk c1 c2
  have wf := ctE_W (sd := sd) (sT0_W hv hw (k := k) (by omega)) c1
  have wg := ctE_W (sd := sd) (sT0_W hv hw (k := k + 1) (by omega)) c2
  have on := ctO_ne wf wg (k := k) (by omega) sd
  have ob := (ct_bd wf wg (k := k) (by omega) sd).2.2.1
  have nz : ∀ x : Int, x.natAbs ≤ 25 → x ≠ 0 → ¬ Int32.ofInt x = 0 := by
    intro x hx n q
    rw [z_i_eq, iI_T (by omega), Int32.toInt_zero] at q
    exact n q
  refine ⟨fun j hj => ?_, ?_, ?_⟩
  · have := all j
    unfold sCt
    rw [iI_T (by omega)]
    omega
  · rcases (show w = 0 ∨ w = 1 by omega) with rfl | rfl
    · exact Or.inr (nz _ ob on)
    · exact Or.inl (nz _ ob on)
  · rcases (show w = 0 ∨ w = 1 by omega) with rfl | rfl
    · exact Or.inl rfl
    · exact Or.inr rfl
