-- ===== the JDK's part of it =====
theorem j_chk3N {G : zG} (hs : zSok G) (hG : zGok G) {k' : Nat} (hk : 2 ≤ k') {σ : zSt} {Q : zRt} {i n : Nat} (hi : i < n) (hn : n < 100) (h : Q (some (.int (nI i))) σ) : zCalls G k' yJ3_checkIndex_8e157 [.int (nI i), .int (nI n), .null] σ Q := by
  refine rnNJ3_checkIndex_8e157 hG hk (nI i) (nI n) ?_
  refine sgJ3_checkIndex_8e157 hs hG [] 60 0 ?_
  refine And.intro (fun c => absurd c (nI_pos (by omega))) (fun _ => ?_)
  refine And.intro (fun _ => ?_) (fun c => absurd (by rw [nI_ltI (by omega) (by omega)]; omega) c)
  exact h
theorem j_chk3R {G : zG} (hs : zSok G) (hG : zGok G) {k' : Nat} (hk : 2 ≤ k') {σ : zSt} {Q : zRt} {i n : Nat} (hi : i < n) (hn : n < 100) (v : Nat) (h : Q (some (.int (nI i))) σ) : zCalls G k' yJ3_checkIndex_8e157 [.int (nI i), .int (nI n), .ref v] σ Q := by
  refine rnJ3_checkIndex_8e157 hG hk (nI i) (nI n) v ?_
  refine sgJ3_checkIndex_8e157 hs hG [] 60 0 ?_
  refine And.intro (fun c => absurd c (nI_pos (by omega))) (fun _ => ?_)
  refine And.intro (fun _ => ?_) (fun c => absurd (by rw [nI_ltI (by omega) (by omega)]; omega) c)
  exact h
theorem j_chk0 {G : zG} (hs : zSok G) (hG : zGok G) {k' : Nat} (hk : 3 ≤ k') {σ : zSt} {Q : zRt} {i n : Nat} (hi : i < n) (hn : n < 100) (h : Q none σ) : zCalls G k' yJ0_checkIndex_df160 [.int (nI i), .int (nI n)] σ Q := by
  refine rnJ0_checkIndex_df160 hG hk (nI i) (nI n) ?_
  refine sgJ0_checkIndex_df160 hs hG [] 60 0 ?_
  refine And.intro ?_ ?_
  · refine j_chk3N hs hG (by decide) hi hn ?_
    exact h
  · refine j_chk3R hs hG (by decide) hi hn 1000200 ?_
    exact h
theorem j_coder {G : zG} (hs : zSok G) (hG : zGok G) {k' : Nat} (hk : 1 ≤ k') {σ : zSt} {Q : zRt} {q : Nat} (h1 : Nat.ble 1000003 q = true) (h2 : Nat.ble q 1000007 = true) (h : Q (some (.int 0)) σ) : zCalls G k' yJ0_coder_7d493 [.ref q] σ Q := by
  refine rnJ0_coder_7d493 hG hk q ?_
  refine sgJ0_coder_7d493 hs hG [] 60 0 ?_
  refine And.intro (fun c => absurd c (by decide)) (fun _ => ?_)
  refine zB_in h1 (zB_in h2 ?_)
  exact And.intro rfl h
theorem j_isLatin1 {G : zG} (hs : zSok G) (hG : zGok G) {k' : Nat} (hk : 1 ≤ k') {σ : zSt} {Q : zRt} {q : Nat} (h1 : Nat.ble 1000003 q = true) (h2 : Nat.ble q 1000007 = true) (h : Q (some (.int 1)) σ) : zCalls G k' yJ0_isLatin1_aae02 [.ref q] σ Q := by
  refine rnJ0_isLatin1_aae02 hG hk q ?_
  refine sgJ0_isLatin1_aae02 hs hG [] 60 0 ?_
  refine And.intro (fun c => absurd c (by decide)) (fun _ => ?_)
  refine zB_in h1 (zB_in h2 ?_)
  refine And.intro (fun c => absurd rfl c) (fun _ => ?_)
  exact And.intro (Or.inr rfl) h
theorem zLn_9 : ∀ t, t < 5 → zLn.getD t 0 < 10 ∧ nI (zLn.getD t 0) >>> ((0 : Int32) &&& 31) = nI (zLn.getD t 0) := by decide
theorem zBl {t : Nat} (ht : t < 5) : Nat.ble 1000003 (1000003 + t) = true ∧ Nat.ble (1000003 + t) 1000007 = true ∧ Nat.ble 1000103 (1000003 + t + 100) = true ∧ Nat.ble (1000003 + t + 100) 1000107 = true ∧ 1000003 + t + 100 - 1000103 = t := ⟨Nat.ble_eq_true_of_le (by omega), Nat.ble_eq_true_of_le (by omega), Nat.ble_eq_true_of_le (by omega), Nat.ble_eq_true_of_le (by omega), by omega⟩
theorem j_length {G : zG} (hs : zSok G) (hG : zGok G) {k' : Nat} (hk : 2 ≤ k') {σ : zSt} {Q : zRt} {t : Nat} (ht : t < 5) {q : Nat} (eq : q = 1000003 + t) (h : Q (some (.int (nI (zLn.getD t 0)))) σ) : zCalls G k' yJ0_length_8abf5 [.ref q] σ Q := by
  obtain ⟨b1, b2, b3, b4, b5⟩ := zBl ht
  obtain ⟨l1, l2⟩ := zLn_9 t ht
  rw [← eq] at b1 b2 b3 b4 b5
  refine rnJ0_length_8abf5 hG hk q ?_
  refine sgJ0_length_8abf5 hs hG [] 60 0 ?_
  refine zB_in b1 (zB_in b2 ?_)
  refine zB_in b3 (zB_in b4 ?_)
  refine zB_in b1 (zB_in b2 ?_)
  refine j_coder hs hG (by decide) b1 b2 ?_
  rw [← l2] at h
  rw [b5]
  exact h
theorem zBy_c : ∀ t, t < 5 → ∀ k, k < zLn.getD t 0 → (((((zBy.getD t []).getD k 0) &&& 255).toUInt32 % 65536).toInt32 = (zBy.getD t []).getD k 0 ∧ narrow .char (.int ((zBy.getD t []).getD k 0)) = .int ((zBy.getD t []).getD k 0)) := by decide
theorem j_charAt {G : zG} (hs : zSok G) (hG : zGok G) {k' : Nat} (hk : 6 ≤ k') {σ : zSt} {Q : zRt} {t k : Nat} (ht : t < 5) (hkk : k < zLn.getD t 0) {q : Nat} (eq : q = 1000003 + t) (h : Q (some (.int ((zBy.getD t []).getD k 0))) σ) : zCalls G k' yJ0_charAt_5068e [.ref q, .int (nI k)] σ Q := by
  obtain ⟨b1, b2, b3, b4, b5⟩ := zBl ht
  obtain ⟨l1, l2⟩ := zLn_9 t ht
  obtain ⟨c1, c2⟩ := zBy_c t ht k hkk
  rw [← eq] at b1 b2 b3 b4 b5
  refine rnJ0_charAt_5068e hG hk q _ ?_
  refine sgJ0_charAt_5068e hs hG [] 60 0 ?_
  refine zB_in b1 (zB_in b2 ?_)
  refine j_isLatin1 hs hG (by decide) b1 b2 ?_
  refine And.intro (fun c => absurd c (by decide)) (fun _ => ?_)
  refine zB_in b1 (zB_in b2 ?_)
  refine rnJ1_charAt_3b067 hG (by decide) (q + 100) _ ?_
  refine sgJ1_charAt_3b067 hs hG [] 60 0 ?_
  refine zB_in b3 (zB_in b4 ?_)
  refine z_arg (args' := [.int (nI k), .int (nI (zLn.getD t 0))]) (by rw [b5]) ?_
  refine j_chk0 hs hG (by decide) hkk (by omega) ?_
  refine zB_in b3 (zB_in b4 ?_)
  refine And.intro (by rw [b5]; exact vp_in_nI hkk (by omega)) ?_
  rw [b5, nI_clamp (by omega)]
  have fin : narrow .char (.int (((((zBy.getD t []).getD k 0) &&& 255).toUInt32 % 65536).toInt32)) = .int (((((zBy.getD t []).getD k 0) &&& 255).toUInt32 % 65536).toInt32) ∧ (narrow .char (.int (((((zBy.getD t []).getD k 0) &&& 255).toUInt32 % 65536).toInt32)) = .int (((((zBy.getD t []).getD k 0) &&& 255).toUInt32 % 65536).toInt32) ∧ Q (some (.int (((((zBy.getD t []).getD k 0) &&& 255).toUInt32 % 65536).toInt32))) σ) := by
    rw [c1]; exact ⟨c2, c2, h⟩
  exact fin
-- ===== Signs =====
def tAt (tn : Nat) (tf : Nat → Int32) (p : Nat) : Int32 := if p < tn then tf p else -1
def dgt (c : Int32) : Bool := decide (48 ≤ c) && decide (c ≤ 57)
def fit (c w : Int32) : Bool := if w = 43 then decide (c = 43) || decide (c = 45) else if w = 53 then dgt c && decide (c ≤ 53) else if w = 57 then dgt c else decide (c = w)
theorem c_sat {G : zG} (hG : zGok G) {k' : Nat} (hk : 1 ≤ k') {I : Nat → Nat → Int32} {J : Nat → Nat → Int64} {past : Nat → Nat} {Q : zRt} {tn : Nat} {tf : Nat → Int32} (ht : cTxt I tn tf) (h80 : tn ≤ 80) {p : Nat} (hp : p < 1000) {P : Int32} (eP : P = nI p) (h : Q (some (.int (tAt tn tf p))) (zK0, I, J, zR0 past)) : zCalls G k' yX8_at [.ref 126, .int P] (zK0, I, J, zR0 past) Q := by
  subst eP
  unfold tAt at h
  refine rnX8_at hG hk 126 _ ?_
  refine sgX8_at hG [] 60 0 ?_
  refine And.intro (fun c => absurd c (nI_pos (by omega))) (fun _ => ?_)
  refine And.intro (fun c => ?_) (fun c => ?_)
  · rw [ht.1, nI_leI (by omega) (by omega)] at c
    rw [if_neg (by omega)] at h
    exact h
  · rw [ht.1, nI_leI (by omega) (by omega)] at c
    rw [if_pos (by omega), ← ht.2 p (by omega)] at h
    refine And.intro (fun q => absurd q (by rw [show Int32.ofNat 80 = nI 80 from rfl, nI_leI (by omega) (by omega)]; omega)) (fun _ => ?_)
    refine And.intro (by exact vp_in_nI (by omega) (by omega)) ?_
    rw [nI_clamp (by omega)]
    exact h
theorem c_isDigit {G : zG} (hG : zGok G) {k' : Nat} (hk : 2 ≤ k') {I : Nat → Nat → Int32} {J : Nat → Nat → Int64} {past : Nat → Nat} {Q : zRt} {tn : Nat} {tf : Nat → Int32} (ht : cTxt I tn tf) (h80 : tn ≤ 80) {p : Nat} (hp : p < 1000) {P : Int32} (eP : P = nI p) (h : Q (some (.int (zb (dgt (tAt tn tf p))))) (zK0, I, J, zR0 past)) : zCalls G k' yX8_isDigit [.ref 126, .int P] (zK0, I, J, zR0 past) Q := by
  have no : dgt (tAt tn tf p) = false → Q (some (.int 0)) (zK0, I, J, zR0 past) := fun e => by rw [e] at h; exact h
  refine rnX8_isDigit hG hk 126 _ ?_
  refine sgX8_isDigit hG [] 60 0 ?_
  refine c_sat hG (by decide) ht h80 hp eP ?_
  refine And.intro (fun c => ?_) (fun c => ?_)
  · exact And.intro (Or.inl rfl) (no (by unfold dgt; rw [decide_eq_false (Int32.not_le.mpr c)]; rfl))
  refine c_sat hG (by decide) ht h80 hp eP ?_
  refine And.intro (fun d => ?_) (fun d => ?_)
  · exact And.intro (Or.inl rfl) (no (by unfold dgt; rw [decide_eq_false (Int32.not_le.mpr d), Bool.and_false]))
  · refine And.intro (Or.inr rfl) ?_
    have e : dgt (tAt tn tf p) = true := by unfold dgt; rw [decide_eq_true (Int32.not_lt.mp c), decide_eq_true (Int32.not_lt.mp d)]; rfl
    rw [e] at h
    exact h
theorem zb_z (b : Bool) : zb b = 0 ∨ zb b = 1 := by cases b <;> simp [zb]
theorem c_fits {G : zG} (hG : zGok G) {k' : Nat} (hk : 3 ≤ k') {I : Nat → Nat → Int32} {J : Nat → Nat → Int64} {past : Nat → Nat} {Q : zRt} {tn : Nat} {tf : Nat → Int32} (ht : cTxt I tn tf) (h80 : tn ≤ 80) {p : Nat} (hp : p < 1000) {P : Int32} (eP : P = nI p) (w : Int32) (h : Q (some (.int (zb (fit (tAt tn tf p) w)))) (zK0, I, J, zR0 past)) : zCalls G k' yX8_fits [.ref 126, .int P, .int w] (zK0, I, J, zR0 past) Q := by
  unfold fit at h
  refine rnX8_fits hG hk 126 _ _ ?_
  refine sgX8_fits hG [] 60 0 ?_
  refine And.intro (fun c => ?_) (fun c => ?_)
  · rw [if_pos c] at h
    refine c_sat hG (by decide) ht h80 hp eP ?_
    refine And.intro (fun d => ?_) (fun d => ?_)
    · rw [decide_eq_true d, Bool.true_or] at h
      exact And.intro (Or.inr rfl) h
    rw [decide_eq_false d, Bool.false_or] at h
    refine c_sat hG (by decide) ht h80 hp eP ?_
    refine And.intro (fun e => ?_) (fun e => ?_)
    · rw [decide_eq_false e] at h
      exact And.intro (Or.inl rfl) h
    · rw [decide_eq_true e] at h
      exact And.intro (Or.inr rfl) h
  rw [if_neg c] at h
  refine And.intro (fun c => ?_) (fun c => ?_)
  · rw [if_pos c] at h
    refine c_isDigit hG (by decide) ht h80 hp eP ?_
    refine And.intro (fun d => ?_) (fun d => ?_)
    · rw [(zb_eq0 _).mp d, Bool.false_and] at h
      exact And.intro (Or.inl rfl) h
    rw [z_nb1 (x := 0) d, Bool.true_and] at h
    refine c_sat hG (by decide) ht h80 hp eP ?_
    refine And.intro (fun e => ?_) (fun e => ?_)
    · rw [decide_eq_false (Int32.not_le.mpr e)] at h
      exact And.intro (Or.inl rfl) h
    · rw [decide_eq_true (Int32.not_lt.mp e)] at h
      exact And.intro (Or.inr rfl) h
  rw [if_neg c] at h
  refine And.intro (fun c => ?_) (fun c => ?_)
  · rw [if_pos c] at h
    refine c_isDigit hG (by decide) ht h80 hp eP ?_
    exact And.intro (zb_z _) h
  rw [if_neg c] at h
  refine c_sat hG (by decide) ht h80 hp eP ?_
  refine And.intro (fun d => ?_) (fun d => ?_)
  · rw [decide_eq_false d] at h
    exact And.intro (Or.inl rfl) h
  · rw [decide_eq_true d] at h
    exact And.intro (Or.inr rfl) h
/-- the first place that does not fit -/
def mis (T : Nat → Int32) : Nat → List Int32 → Option Nat
  | _, [] => none
  | p, w :: ws => if fit (T p) w then mis T (p + 1) ws else some p
def oI (o : Option Nat) : Int32 := match o with
  | none => -1
  | some p => nI p
theorem zBy_l : ∀ t, t < 5 → (zBy.getD t []).length = zLn.getD t 0 := by decide
theorem z_drop {L : List Int32} {i : Nat} {w : Int32} {ws : List Int32} (h : L.drop i = w :: ws) : i < L.length ∧ L.getD i 0 = w ∧ L.drop (i + 1) = ws := by
  have hl := congrArg List.length h
  rw [List.length_drop, List.length_cons] at hl
  refine ⟨by omega, ?_, ?_⟩
  · rw [List.getD_eq_getElem?_getD]
    have : (L.drop i)[0]? = some w := by rw [h]; rfl
    rw [List.getElem?_drop, Nat.add_zero] at this
    rw [this]; rfl
  · have : (L.drop i).drop 1 = ws := by rw [h]; rfl
    rw [List.drop_drop] at this
    exact this
theorem c_misfit {G : zG} (hs : zSok G) (hG : zGok G) {k' : Nat} (hk : 7 ≤ k') {I : Nat → Nat → Int32} {J : Nat → Nat → Int64} {past : Nat → Nat} {Q : zRt} {tn : Nat} {tf : Nat → Int32} (ht : cTxt I tn tf) (h80 : tn ≤ 80) {p t : Nat} (hp : p < 900) (h5 : t < 5) {P : Int32} (eP : P = nI p) {q : Nat} (eq : q = 1000003 + t) (h : Q (some (.int (oI (mis (tAt tn tf) p (zBy.getD t []))))) (zK0, I, J, zR0 past)) : zCalls G k' yX8_misfit [.ref 126, .int P, .ref q] (zK0, I, J, zR0 past) Q := by
  subst eP
  obtain ⟨l1, _⟩ := zLn_9 t h5
  have ll := zBy_l t h5
  obtain ⟨b1, b2, _⟩ := zBl h5
  rw [← eq] at b1 b2
  have loop : ∀ (ws : List Int32) (i : Nat) (v : Int32), v = nI i → (zBy.getD t []).drop i = ws → i ≤ zLn.getD t 0 → Q (some (.int (oI (mis (tAt tn tf) (p + i) ws)))) (zK0, I, J, zR0 past) → aX8_misfit G Q 2 [some (.ref 126), some (.int (nI p)), some (.ref q), some (.int v)] [] (zK0, I, J, zR0 past) := by
    intro ws
    induction ws with
    | nil =>
      intro i v ev ed hi h
      subst ev
      have hl := congrArg List.length ed
      rw [List.length_drop, ll, List.length_nil] at hl
      refine sgX8_misfit hs hG [2] 60 2 ?_
      refine zB_in b1 (zB_in b2 ?_)
      refine j_length hs hG (by decide) h5 eq ?_
      refine And.intro (fun _ => ?_) (fun c => absurd (by rw [nI_leI (by omega) (by omega)]; omega) c)
      exact h
    | cons w ws ih =>
      intro i v ev ed hi h
      subst ev
      obtain ⟨d1, d2, d3⟩ := z_drop ed
      rw [ll] at d1
      have ep : nI p + nI i = nI (p + i) := nI_add _ _
      have em : mis (tAt tn tf) (p + i) (w :: ws) = if fit (tAt tn tf (p + i)) w then mis (tAt tn tf) (p + i + 1) ws else some (p + i) := rfl
      refine sgX8_misfit hs hG [2] 60 2 ?_
      refine zB_in b1 (zB_in b2 ?_)
      refine j_length hs hG (by decide) h5 eq ?_
      refine And.intro (fun c => absurd c (by rw [nI_leI (by omega) (by omega)]; omega)) (fun _ => ?_)
      refine zB_in b1 (zB_in b2 ?_)
      refine j_charAt hs hG (by decide) h5 d1 eq ?_
      rw [d2]
      refine c_fits hG (by decide) ht h80 (p := p + i) (by omega) ep w ?_
      refine And.intro (fun c => ?_) (fun c => ?_)
      · rw [z_nb1 (x := 0) c, if_pos rfl] at em
        rw [em] at h
        exact ih (i + 1) _ (by rw [nI_1]) d3 (by omega) h
      · rw [(zb_eq0 _).mp c, if_neg (by decide)] at em
        rw [em] at h
        have k : Q (some (.int (nI p + nI i))) (zK0, I, J, zR0 past) := by rw [ep]; exact h
        exact k
  refine rnX8_misfit hG hk 126 _ q ?_
  refine sgX8_misfit hs hG [2] 60 0 ?_
  exact loop _ 0 0 rfl rfl (by omega) h
-- ===== numbers =====
theorem c_number1 {G : zG} (hG : zGok G) {k' : Nat} (hk : 2 ≤ k') {I : Nat → Nat → Int32} {J : Nat → Nat → Int64} {past : Nat → Nat} {Q : zRt} {tn : Nat} {tf : Nat → Int32} (ht : cTxt I tn tf) (h80 : tn ≤ 80) {p : Nat} (hp : p < 900) {P : Int32} (eP : P = nI p) (h : Q (some (.int (tAt tn tf p - 48))) (zK0, I, J, zR0 past)) : zCalls G k' yX8_number [.ref 126, .int P, .int 1] (zK0, I, J, zR0 past) Q := by
  subst eP
  refine rnX8_number hG hk 126 _ _ ?_
  refine sgX8_number hG [] 60 0 ?_
  refine And.intro (fun c => absurd c (by decide)) (fun _ => ?_)
  refine c_sat hG (by decide) ht h80 (p := p) (by omega) (by rw [show (0 : Int32) = nI 0 from rfl, nI_add, Nat.add_zero]) ?_
  refine And.intro (fun _ => ?_) (fun c => absurd (by decide) c)
  have e : (0 : Int32) * 10 + tAt tn tf p - 48 = tAt tn tf p - 48 := by rw [Int32.zero_mul, Int32.zero_add]
  rw [← e] at h
  exact h
theorem c_number2 {G : zG} (hG : zGok G) {k' : Nat} (hk : 2 ≤ k') {I : Nat → Nat → Int32} {J : Nat → Nat → Int64} {past : Nat → Nat} {Q : zRt} {tn : Nat} {tf : Nat → Int32} (ht : cTxt I tn tf) (h80 : tn ≤ 80) {p : Nat} (hp : p < 900) {P : Int32} (eP : P = nI p) (h : Q (some (.int ((tAt tn tf p - 48) * 10 + tAt tn tf (p + 1) - 48))) (zK0, I, J, zR0 past)) : zCalls G k' yX8_number [.ref 126, .int P, .int 2] (zK0, I, J, zR0 past) Q := by
  subst eP
  refine rnX8_number hG hk 126 _ _ ?_
  refine sgX8_number hG [] 60 0 ?_
  refine And.intro (fun c => absurd c (by decide)) (fun _ => ?_)
  refine c_sat hG (by decide) ht h80 (p := p) (by omega) (by rw [show (0 : Int32) = nI 0 from rfl, nI_add, Nat.add_zero]) ?_
  refine And.intro (fun c => absurd c (by decide)) (fun _ => ?_)
  refine c_sat hG (by decide) ht h80 (p := p + 1) (by omega) (by rw [show (0 : Int32) + 1 = nI 1 by decide, nI_add]) ?_
  refine And.intro (fun _ => ?_) (fun c => absurd (by decide) c)
  have e : (0 : Int32) * 10 + tAt tn tf p - 48 = tAt tn tf p - 48 := by rw [Int32.zero_mul, Int32.zero_add]
  rw [← e] at h
  exact h
def sgn (c v : Int32) : Int32 := if c = 45 then -v else v
theorem c_signed1 {G : zG} (hG : zGok G) {k' : Nat} (hk : 3 ≤ k') {I : Nat → Nat → Int32} {J : Nat → Nat → Int64} {past : Nat → Nat} {Q : zRt} {tn : Nat} {tf : Nat → Int32} (ht : cTxt I tn tf) (h80 : tn ≤ 80) {p : Nat} (hp : p < 800) {P : Int32} (eP : P = nI p) (h : Q (some (.int (sgn (tAt tn tf p) (tAt tn tf (p + 1) - 48)))) (zK0, I, J, zR0 past)) : zCalls G k' yX8_signed [.ref 126, .int P, .int 1] (zK0, I, J, zR0 past) Q := by
  unfold sgn at h
  refine rnX8_signed hG hk 126 _ _ ?_
  refine sgX8_signed hG [] 60 0 ?_
  refine c_number1 hG (by decide) ht h80 (p := p + 1) (by omega) (by rw [eP, nI_1]) ?_
  refine c_sat hG (by decide) ht h80 (p := p) (by omega) eP ?_
  refine And.intro (fun c => ?_) (fun c => ?_)
  · rw [if_neg c] at h; exact h
  · rw [if_pos c] at h; exact h
theorem c_signed2 {G : zG} (hG : zGok G) {k' : Nat} (hk : 3 ≤ k') {I : Nat → Nat → Int32} {J : Nat → Nat → Int64} {past : Nat → Nat} {Q : zRt} {tn : Nat} {tf : Nat → Int32} (ht : cTxt I tn tf) (h80 : tn ≤ 80) {p : Nat} (hp : p < 800) {P : Int32} (eP : P = nI p) (h : Q (some (.int (sgn (tAt tn tf p) ((tAt tn tf (p + 1) - 48) * 10 + tAt tn tf (p + 2) - 48)))) (zK0, I, J, zR0 past)) : zCalls G k' yX8_signed [.ref 126, .int P, .int 2] (zK0, I, J, zR0 past) Q := by
  unfold sgn at h
  refine rnX8_signed hG hk 126 _ _ ?_
  refine sgX8_signed hG [] 60 0 ?_
  refine c_number2 hG (by decide) ht h80 (p := p + 1) (by omega) (by rw [eP, nI_1]) ?_
  refine c_sat hG (by decide) ht h80 (p := p) (by omega) eP ?_
  refine And.intro (fun c => ?_) (fun c => ?_)
  · rw [if_neg c] at h; exact h
  · rw [if_pos c] at h; exact h
