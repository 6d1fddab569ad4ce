/-! both sides, a cold winter by odds, the mean age -/
theorem l_eq {a b : Nat} (ha : a < 2 ^ 63) (hb : b < 2 ^ 63) : (lg_cmp (lN a) (lN b) = 0) = (a = b) := propext ((lg_cmp_eq _ _).trans (pk_lEQ ha hb))
theorem l_i {α : Type} {a b : Nat} (ha : a < 2 ^ 63) (hb : b < 2 ^ 63) {i : Decidable (lg_cmp (lN a) (lN b) = 0)} (A B : α) : @ite α (lg_cmp (lN a) (lN b) = 0) i A B = if a = b then A else B := i_c (l_eq ha hb) A B
theorem l_n {α : Type} {a b : Nat} (ha : a < 2 ^ 63) (hb : b < 2 ^ 63) {i : Decidable (¬ lg_cmp (lN a) (lN b) = 0)} (A B : α) : @ite α (¬ lg_cmp (lN a) (lN b) = 0) i A B = if ¬ a = b then A else B := i_c (congrArg Not (l_eq ha hb)) A B
theorem l_ck {α : Type} {a : Nat} {k : Option α} (h0 : 0 < a) (ha : a < 2 ^ 63) : ckL (lN a) k = k := if_neg (fun e => by
  have e2 : lN a = lN 0 := e
  have := (pk_lEQ ha (by decide)).mp e2
  omega)
theorem gcd_step (x y : Nat) : Nat.gcd y (x % y) = Nat.gcd x y := by
  rw [Nat.gcd_comm y, ← Nat.gcd_rec, Nat.gcd_comm]
theorem mod_half {y r : Nat} (h0 : 0 < r) (h : r < y) : 2 * (y % r) < y := by
  rcases Nat.lt_or_ge (2 * r) (y + 1) with h1 | h1
  · have := Nat.mod_lt y h0
    omega
  · have e : y % r = y - r := by
      rw [Nat.mod_eq_sub_mod (by omega), Nat.mod_eq_of_lt (by omega)]
    omega
theorem x_euc {N : Nat} (A B : Int64) (p : Int32) : ∀ m x y n i, y < 2 ^ m → x < 2 ^ 63 → y < 2 ^ 63 → 2 * m + 1 + i ≤ 1000 → 2 * m + 1 < n → F_X2_leastTerms_25 N n A B p (lN x) (lN y) (nI i) = F_X2_leastTerms_61 N A B p (lN (Nat.gcd x y)) := by
  intro m
  induction m with
  | zero =>
    intro x y n i hy hx hy2 hi hn
    obtain ⟨n, rfl⟩ : ∃ z, n = z + 1 := ⟨n - 1, by omega⟩
    have h0 : y = 0 := by omega
    subst h0
    rw [F_X2_leastTerms_25, i_le (by decide) (by omega), if_neg (by omega), l_i (by decide) (by decide), if_pos rfl, Nat.gcd_zero_right]
  | succ m ih =>
    intro x y n i hy hx hy2 hi hn
    obtain ⟨n, rfl⟩ : ∃ z, n = z + 1 := ⟨n - 1, by omega⟩
    rw [F_X2_leastTerms_25, i_le (by decide) (by omega), if_neg (by omega), l_i hy2 (by decide)]
    by_cases h0 : y = 0
    · rw [if_pos h0, h0, Nat.gcd_zero_right]
    · have hr := Nat.mod_lt x (show 0 < y by omega)
      rw [if_neg h0, l_ck (by omega) hy2, pk_lRem hx (by omega) hy2]
      try rw [nI_add]
      rw [← gcd_step x y]
      obtain ⟨n, rfl⟩ : ∃ z, n = z + 1 := ⟨n - 1, by omega⟩
      rw [F_X2_leastTerms_25, i_le (by decide) (by omega), if_neg (by omega), l_i (by omega) (by decide)]
      by_cases h1 : x % y = 0
      · rw [if_pos h1, h1, Nat.gcd_zero_right]
      · have h2 := mod_half (show 0 < x % y by omega) hr
        rw [if_neg h1, l_ck (by omega) (by omega), pk_lRem hy2 (by omega) (by omega)]
        try rw [nI_add]
        rw [← gcd_step y (x % y)]
        rw [Nat.pow_succ] at hy
        exact ih (x % y) (y % (x % y)) n (i + 1 + 1) (by omega) (by omega) (by omega) (by omega) (by omega)
theorem y_euc {N : Nat} : ∀ m x y n, y < 2 ^ m → x < 2 ^ 63 → y < 2 ^ 63 → 2 * m + 1 < n → F_X3_gcd_6 N n (lN x) (lN y) = some (lN (Nat.gcd x y)) := by
  intro m
  induction m with
  | zero =>
    intro x y n hy hx hy2 hn
    obtain ⟨n, rfl⟩ : ∃ z, n = z + 1 := ⟨n - 1, by omega⟩
    have h0 : y = 0 := by omega
    subst h0
    rw [F_X3_gcd_6, l_i (by decide) (by decide), if_pos rfl, Nat.gcd_zero_right]
  | succ m ih =>
    intro x y n hy hx hy2 hn
    obtain ⟨n, rfl⟩ : ∃ z, n = z + 1 := ⟨n - 1, by omega⟩
    rw [F_X3_gcd_6, l_i hy2 (by decide)]
    by_cases h0 : y = 0
    · rw [if_pos h0, h0, Nat.gcd_zero_right]
    · have hr := Nat.mod_lt x (show 0 < y by omega)
      rw [if_neg h0, l_ck (by omega) hy2, pk_lRem hx (by omega) hy2, ← gcd_step x y]
      obtain ⟨n, rfl⟩ : ∃ z, n = z + 1 := ⟨n - 1, by omega⟩
      rw [F_X3_gcd_6, l_i (by omega) (by decide)]
      by_cases h1 : x % y = 0
      · rw [if_pos h1, h1, Nat.gcd_zero_right]
      · have h2 := mod_half (show 0 < x % y by omega) hr
        rw [if_neg h1, l_ck (by omega) (by omega), pk_lRem hy2 (by omega) (by omega), ← gcd_step y (x % y)]
        rw [Nat.pow_succ] at hy
        exact ih (x % y) (y % (x % y)) n (by omega) (by omega) (by omega) (by omega)
theorem least_part {N : Nat} (hN : 2000 ≤ N) {A B w : Nat} (hA : A < 2 ^ 40) (hB : B < 2 ^ 40) (h0 : B = 0 → A = 0) (hw : w ≤ 1) : ∃ v, F_X2_leastTerms N (lN A) (lN B) (nI w) = some v ∧ F_X3_partOf N (lN A) (lN B) (nI w) = some v := by
  have hA6 : A < 2 ^ 63 := Nat.lt_of_lt_of_le hA (by decide)
  have hB6 : B < 2 ^ 63 := Nat.lt_of_lt_of_le hB (by decide)
  unfold F_X2_leastTerms F_X3_partOf F_X3_partOf_20 F_X3_gcd
  rw [l_i hA6 (by decide), l_n hA6 (by decide), l_n hB6 (by decide)]
  by_cases e : A = 0
  · rw [if_pos e, if_neg (fun h => h e)]
    exact ⟨_, rfl, rfl⟩
  · have hB0 : ¬ B = 0 := fun h => e (h0 h)
    have hg0 : 0 < Nat.gcd A B := Nat.gcd_pos_of_pos_left B (by omega)
    have hg1 : Nat.gcd A B ≤ A := Nat.gcd_le_left B (by omega)
    have hg6 : Nat.gcd A B < 2 ^ 63 := by omega
    rw [if_neg e, if_pos e, if_pos hB0, x_euc (lN A) (lN B) (nI w) 40 A B N 0 hB hA6 hB6 (by decide) (by omega), y_euc 40 A B N hB hA6 hB6 (by omega)]
    try simp only [q_bs]
    unfold F_X2_leastTerms_61
    rw [l_n hg6 (by decide), if_pos (show ¬ Nat.gcd A B = 0 by omega)]
    repeat rw [l_ck hg0 hg6]
    rcases (show w = 0 ∨ w = 1 by omega) with rfl | rfl
    · exact ⟨_, if_neg (show ¬ ¬ nI 0 = 0 from fun e => e rfl), if_neg (show ¬ ¬ nI 0 = 0 from fun e => e rfl)⟩
    · exact ⟨_, if_pos (show ¬ nI 1 = 0 by decide), if_pos (show ¬ nI 1 = 0 by decide)⟩
theorem both_noL (N : Nat) {g : GS} {x : XS} {y : MS} (hx : XR g x) (hy : MR g y) (hg : GI g) {p : Int32} (h : isCode p) : Both ((F_X2_refuseLong N x p).bind fun r => some (r.1, r.2)) ((F_X3_noWide N y p).bind fun r => some (r.1, r.2)) := by
  obtain ⟨mind, pr, hm, rfl⟩ := hx
  obtain ⟨m, was, pl, ma, nu, to, se, h1, h2, rfl⟩ := hy
  unfold F_X2_refuseLong F_X3_noWide
  rw [x_refuse N g mind pr h, y_no N g m was pl ma nu to se h]
  exact ⟨_, _, _, _, rfl, rfl, ⟨mind, pr, hm, rfl⟩, ⟨m, was, pl, ma, nu, to, se, h1, h2, rfl⟩, hg⟩
theorem ages_none {a : TA} (h : livN a = 0) : agesN a = 0 := by
  have hl : ∀ c, c < 6 → live a c = false := by
    intro c hc
    have e : mskTo (live a) 6 = 0 := msk_pos.mpr h
    cases hb : live a c
    · rfl
    · exact absurd e (msk_ne hc hb)
  have e : agesN a = sumTo (fun _ => 0) 6 := sumTo_congr (fun i hi => by rw [hl i hi]; rfl)
  rw [e]; rfl
theorem s_mean {N : Nat} (hN : 2000 ≤ N) {g : GS} {x : XS} {y : MS} (hx : XR g x) (hy : MR g y) (hg : GI g) (p : Int32) : Both (F_X2_mean N x p) (F_X3_mean N y p) := by
  have hno := both_noL N hx hy hg c2
  have hl : livN g.1 ≤ 6 := cntTo_le _ _
  have ha : agesN g.1 ≤ 99 * 6 := agesN_le hg.1 6
  unfold F_X2_mean F_X3_mean F_X2_mean_9
  rcases arg_cases p with hp | ⟨w, hw, rfl⟩
  · rw [f_isIn_neg N (by decide) hp]
    simp only [k_0, k_1, k_2, k_3, k_4, k_6, Nat.reduceEqDiff, Nat.reduceLeDiff, Nat.reduceLT, q_bs, ↓reduceIte, not_true_eq_false, not_false_eq_true, Bool.false_eq_true, reduceCtorEq, hp]
    exact hno
  · rw [f_isIn N hw (by decide) (by decide)]
    simp (disch := omega) only [k_0, k_1, k_2, k_3, k_4, k_6, Nat.reduceEqDiff, Nat.reduceLeDiff, Nat.reduceLT, q_le, q_lt, q_eq, q_lt0, q_ge0, q_eq0, q_gt0, q_le0, q_b0, q_ck, q_cl, nI_add, q_bs, ↓reduceIte, not_true_eq_false, not_false_eq_true, Bool.false_eq_true, reduceCtorEq, Bool.not_eq_false', decide_eq_false_iff_not, decide_eq_true_eq, Bool.not_false, Bool.not_true]
    by_cases h : w ≤ 1
    · simp only [k_0, k_1, k_2, k_3, k_4, k_6, Nat.reduceEqDiff, Nat.reduceLeDiff, Nat.reduceLT, q_bs, ↓reduceIte, not_true_eq_false, not_false_eq_true, Bool.false_eq_true, reduceCtorEq, h, show 0 ≤ w ∧ w ≤ 1 by omega]
      obtain ⟨mind, pr, hm, rfl⟩ := hx
      obtain ⟨m, was, pl, ma, nu, to, se, h3, h4, rfl⟩ := hy
      obtain ⟨v, e1, e2⟩ := least_part hN (A := agesN g.1) (B := livN g.1) (by omega) (by omega) ages_none h
      show Both ((F_X1_agesOfLiving N (TW g.1)).bind fun r20 => (F_X1_howManyLive N (TW g.1)).bind fun r28 => (F_X2_leastTerms N r20.toInt64 r28.toInt64 (nI w)).bind _) ((F_X3_agesAll N (em g.1)).bind fun r13 => (F_X3_livingIn N (em g.1)).bind fun r21 => (F_X3_bits N r21).bind fun r24 => (F_X3_partOf N r13.toInt64 r24.toInt64 (nI w)).bind _)
      rw [g_ages hN hg.1]
      try simp only [q_bs]
      rw [g_howMany]
      try simp only [q_bs]
      rw [f_ages hN hg.1]
      try simp only [q_bs]
      rw [f_livingIn hN hg.1]
      try simp only [q_bs]
      rw [bits_liv N hN]
      try simp only [q_bs]
      rw [nI_l (show agesN g.1 < 2 ^ 31 by omega), nI_l (show livN g.1 < 2 ^ 31 by omega), e1, e2]
      exact ⟨_, g, _, _, rfl, rfl, XR.mk mind pr hm rfl, MR.mk m was pl ma nu to se h3 h4 rfl, hg⟩
    · simp only [k_0, k_1, k_2, k_3, k_4, k_6, Nat.reduceEqDiff, Nat.reduceLeDiff, Nat.reduceLT, q_bs, ↓reduceIte, not_true_eq_false, not_false_eq_true, Bool.false_eq_true, reduceCtorEq, h, show ¬ (0 ≤ w ∧ w ≤ 1) by omega]
      exact hno
def wgt (T cold : Nat) : Nat → Nat
  | 0 => 1
  | i + 1 => wgt T cold i * (if cold.testBit i then 1 else T - 1)
theorem wgt_le {T : Nat} (hT : T ≤ 20) (cold : Nat) : ∀ i, wgt T cold i ≤ 20 ^ i := by
  intro i
  induction i with
  | zero => exact Nat.le_refl _
  | succ i ih =>
    show wgt T cold i * (if cold.testBit i then 1 else T - 1) ≤ 20 ^ (i + 1)
    rw [Nat.pow_succ]
    exact Nat.mul_le_mul ih (by split <;> omega)
def colT (a : TA) (cold : Nat) : Nat → TA
  | 0 => a
  | i + 1 => yearF (if cold.testBit i then olderA (colT a cold i) 5 else colT a cold i)
def colR (a : TA) (t cold : Nat) : Nat → TA
  | 0 => a
  | i + 1 => yearR (if cold.testBit i then olderA (colR a t cold i) 5 else colR a t cold i) t 1
theorem col_older {a : TA} {b : Bool} (h : Good a) : Good (if b then olderA a 5 else a) ∧ aY (if b then olderA a 5 else a) = aY a := by
  cases b
  · exact ⟨h, rfl⟩
  · exact ⟨Good_older h 5, rfl⟩
theorem Good_colT {a : TA} (h : Good a) (hy : aY a ≤ 999) (cold : Nat) : ∀ i, i ≤ 7 → Good (colT a cold i) ∧ aY (colT a cold i) = aY a + i := by
  intro i
  induction i with
  | zero => intro _; exact ⟨h, rfl⟩
  | succ i ih =>
    intro hi
    obtain ⟨h1, h2⟩ := ih (by omega)
    obtain ⟨h3, h4⟩ := col_older (b := cold.testBit i) h1
    refine ⟨Good_year h3 (by omega), ?_⟩
    show aY (yearF (if cold.testBit i then olderA (colT a cold i) 5 else colT a cold i)) = _
    rw [(yearF_n _).2, h4]
    omega
theorem Good_colR {a : TA} (h : Good a) (hy : aY a ≤ 999) {t : Nat} (ht : t < 8) (cold : Nat) : ∀ i, i ≤ 7 → Good (colR a t cold i) ∧ aY (colR a t cold i) = aY a + i := by
  intro i
  induction i with
  | zero => intro _; exact ⟨h, rfl⟩
  | succ i ih =>
    intro hi
    obtain ⟨h1, h2⟩ := ih (by omega)
    obtain ⟨h3, h4⟩ := col_older (b := cold.testBit i) h1
    refine ⟨Good_yearR h3 (by omega) (by omega), ?_⟩
    show aY (yearR (if cold.testBit i then olderA (colR a t cold i) 5 else colR a t cold i) t 1) = _
    rw [(yearR_n _ t 1).2, h4]
    omega
theorem sim_older {t : Nat} {a b : TA} (h : Sim t a b) (v : Nat) : Sim t (olderA a v) (olderA b v) := by
  have hl : live a = live b := funext (sim_live h)
  obtain ⟨h1, h2, h3, h4, h5, h6, h7⟩ := h
  refine ⟨h1, h2, h3, h4, ?_, h6, h7⟩
  show (fun c => if live a c then min 99 (aA a c + v) else aA a c) = fun c => if live b c then min 99 (aA b c + v) else aA b c
  rw [hl, h5]
theorem sim_col {t : Nat} (ht : t < 8) (a : TA) (cold : Nat) : ∀ i, Sim t (colR a t cold i) (colT a cold i) := by
  intro i
  induction i with
  | zero => exact sim_rf t a
  | succ i ih =>
    refine sim_year ht ?_
    cases cold.testBit i
    · exact ih
    · exact sim_older ih 5
def oddN (a : TA) (t n T cold : Nat) : Nat := if wrt (colT a cold n) t then wgt T cold n else 0
theorem pow20 {n : Nat} (hn : n ≤ 7) : 20 ^ n ≤ 1280000000 := Nat.le_trans (Nat.pow_le_pow_right (by decide) hn) (by decide)
theorem oddN_le {T : Nat} (hT : T ≤ 20) (a : TA) (t : Nat) {n : Nat} (hn : n ≤ 7) (cold : Nat) : oddN a t n T cold ≤ 1280000000 := by
  unfold oddN
  split
  · exact Nat.le_trans (wgt_le hT cold n) (pow20 hn)
  · exact Nat.zero_le _
theorem x_weight {N : Nat} (hN : 2000 ≤ N) {g : GS} (hg : GI g) {mind : TA} (hm : Good mind) (pr : FA) {t n T cold : Nat} (ht : t < 8) (hn : n ≤ 7) (hT2 : 2 ≤ T) (hT : T ≤ 20) (hc : cold < 128) : ∃ b, Good b ∧ F_X2_weightIfWritten N (xs g mind pr) (nI t) (nI n) (nI T) (nI cold) = some (lN (oddN g.1 t n T cold), xs g b pr) := by
  have h9 := hg.2.1
  obtain ⟨hGn, hYn⟩ := Good_colR hg.1 h9 ht cold n hn
  unfold F_X2_weightIfWritten
  show ∃ b, Good b ∧ ((F_X1_become N (TW mind) (TW g.1)).bind fun r11 => F_X2_weightIfWritten_17 N N (TW g.1, r11, (xs g mind pr).2.2) (nI t) (nI n) (nI T) (nI cold) (lN 1) (nI 0)) = _
  rw [g_become N hm hg.1]
  try simp only [q_bs]
  refine ⟨colR g.1 t cold n, hGn, ?_⟩
  refine loop_up (fun q (z : XS × Int64 × Int32) => F_X2_weightIfWritten_17 N q z.1 (nI t) (nI n) (nI T) (nI cold) z.2.1 z.2.2) (fun i => (xs g (colR g.1 t cold i) pr, lN (wgt T cold i), nI i)) n _ ?_ ?_ N 0 (Nat.zero_le _) (by omega)
  · intro q i hi
    obtain ⟨hG, hY⟩ := Good_colR hg.1 h9 ht cold i (by omega)
    show F_X2_weightIfWritten_17 N (q + 1) (xs g (colR g.1 t cold i) pr) (nI t) (nI n) (nI T) (nI cold) (lN (wgt T cold i)) (nI i) = F_X2_weightIfWritten_17 N q (xs g (yearR (if cold.testBit i then olderA (colR g.1 t cold i) 5 else colR g.1 t cold i) t 1) pr) (nI t) (nI n) (nI T) (nI cold) (lN (wgt T cold i * (if cold.testBit i then 1 else T - 1))) (nI (i + 1))
    rw [F_X2_weightIfWritten_17, if_neg (by rw [q_le (by omega) (by omega)]; omega), q_bit (by omega) (by omega), q_sub (by omega), nI_l (show T - 1 < 2 ^ 31 by omega), lN_mul]
    unfold F_X2_weightIfWritten_54
    try rw [nI_add]
    cases cold.testBit i
    · rw [if_pos (show ¬ bI false = nI 1 by decide)]
      show ((F_X1_passFor N (TW (colR g.1 t cold i)) (nI t) (nI 1)).bind _) = _
      rw [g_passFor hN hG ht (by decide) (by omega)]
      try simp only [q_bs]
      rfl
    · rw [if_neg (show ¬ ¬ bI true = nI 1 from fun e => e rfl)]
      show ((F_X1_growOlder N (TW (colR g.1 t cold i)) (nI 5)).bind fun r39 => (F_X1_passFor N r39 (nI t) (nI 1)).bind _) = _
      rw [g_growOlder hN hG (by decide)]
      try simp only [q_bs]
      rw [g_passFor hN (Good_older hG 5) ht (by decide) (show aY (colR g.1 t cold i) + 1 < 100000 by omega)]
      try simp only [q_bs]
      rw [if_pos trivial, if_pos trivial, Nat.mul_one]
      rfl
  · intro q
    show F_X2_weightIfWritten_17 N (q + 1) (xs g (colR g.1 t cold n) pr) (nI t) (nI n) (nI T) (nI cold) (lN (wgt T cold n)) (nI n) = _
    rw [F_X2_weightIfWritten_17, if_pos (nI_le (Nat.le_refl _) (by omega))]
    unfold F_X2_weightIfWritten_69 oddN
    show ((F_X1_isWritten N (TW (colR g.1 t cold n)) (nI t)).bind _) = _
    rw [g_isWritten N ht]
    try simp only [q_bs]
    rw [sim_wrt (sim_col ht g.1 cold n)]
    cases wrt (colT g.1 cold n) t
    · rw [if_pos (show bI false = 0 from rfl)]; rfl
    · rw [if_neg (show ¬ bI true = 0 by decide)]; rfl
theorem y_weight {N : Nat} (hN : 2000 ≤ N) {g : GS} (hg : GI g) (was : TA) (pl ma : Int32) (nu to : FA) (se : Int32) {t n T cold : Nat} (ht : t < 8) (hn : n ≤ 7) (hT2 : 2 ≤ T) (hT : T ≤ 20) (hc : cold < 128) (x4 : Int32) (x5 x7 : Int64) (k96 : MS → Int32 → Int32 → Int32 → Int32 → Int64 → Int64 → Int32 → Option (Int64 × MS)) : ∃ b, Good b ∧ F_X3_winter_121 N k96 N (ys g g.1 was pl ma nu to se) (nI t) (nI n) (nI T) x4 x5 x7 (nI cold) (lN 1) (nI 0) = k96 (ys g b was pl ma nu to se) (nI t) (nI n) (nI T) x4 (x5 + lN (oddN g.1 t n T cold)) x7 (nI (cold + 1)) := by
  have h9 := hg.2.1
  obtain ⟨hGn, hYn⟩ := Good_colT hg.1 h9 cold n hn
  refine ⟨colT g.1 cold n, hGn, ?_⟩
  refine loop_up (fun q (z : MS × Int64 × Int32) => F_X3_winter_121 N k96 q z.1 (nI t) (nI n) (nI T) x4 x5 x7 (nI cold) z.2.1 z.2.2) (fun i => (ys g (colT g.1 cold i) was pl ma nu to se, lN (wgt T cold i), nI i)) n _ ?_ ?_ N 0 (Nat.zero_le _) (by omega)
  · intro q i hi
    obtain ⟨hG, hY⟩ := Good_colT hg.1 h9 cold i (by omega)
    show F_X3_winter_121 N k96 (q + 1) (ys g (colT g.1 cold i) was pl ma nu to se) (nI t) (nI n) (nI T) x4 x5 x7 (nI cold) (lN (wgt T cold i)) (nI i) = F_X3_winter_121 N k96 q (ys g (yearF (if cold.testBit i then olderA (colT g.1 cold i) 5 else colT g.1 cold i)) was pl ma nu to se) (nI t) (nI n) (nI T) x4 x5 x7 (nI cold) (lN (wgt T cold i * (if cold.testBit i then 1 else T - 1))) (nI (i + 1))
    rw [F_X3_winter_121, if_neg (by rw [q_le (by omega) (by omega)]; omega), f_has N (by omega) (by omega)]
    try simp only [q_bs]
    rw [q_sub (by omega), nI_l (show T - 1 < 2 ^ 31 by omega)]
    unfold F_X3_winter_147 F_X3_winter_167
    rw [f_has N (by omega) (by omega)]
    try simp only [q_bs]
    try simp only [q_bs]
    try rw [nI_add]
    rw [lN_mul, lN_mul]
    cases cold.testBit i
    · rw [if_pos (show bI false = 0 from rfl), if_pos (show bI false = 0 from rfl)]
      show ((F_X3_year N (em (colT g.1 cold i))).bind _) = _
      rw [f_year hN hG (by omega)]
      try simp only [q_bs]
      rfl
    · rw [if_neg (show ¬ bI true = 0 by decide), if_neg (show ¬ bI true = 0 by decide)]
      show ((F_X3_winters N (em (colT g.1 cold i))).bind fun r164 => (F_X3_year N r164).bind _) = _
      rw [f_winters hN hG]
      try simp only [q_bs]
      rw [f_year hN (Good_older hG 5) (show aY (colT g.1 cold i) + 1 < 100000 by omega)]
      try simp only [q_bs]
      rfl
  · intro q
    show F_X3_winter_121 N k96 (q + 1) (ys g (colT g.1 cold n) was pl ma nu to se) (nI t) (nI n) (nI T) x4 x5 x7 (nI cold) (lN (wgt T cold n)) (nI n) = _
    rw [F_X3_winter_121, if_pos (nI_le (Nat.le_refl _) (by omega))]
    unfold F_X3_winter_182 F_X3_winter_201 oddN
    show ((F_X3_isWritten N (em (colT g.1 cold n)) (nI t)).bind _) = _
    rw [f_isWritten hN hGn ht]
    try simp only [q_bs]
    try rw [nI_add]
    cases wrt (colT g.1 cold n) t
    · rw [if_pos (show bI false = 0 from rfl)]; rfl
    · rw [if_neg (show ¬ bI true = 0 by decide)]; rfl
theorem pow2_7 {n : Nat} (hn : n ≤ 7) : 2 ^ n ≤ 128 := Nat.le_trans (Nat.pow_le_pow_right (by decide) hn) (by decide)
theorem x_winter {N : Nat} (hN : 2000 ≤ N) {g : GS} (hg : GI g) {mind : TA} (hm : Good mind) (pr : FA) {t n T w : Nat} (ht : t < 8) (hn : n ≤ 7) (hT2 : 2 ≤ T) (hT : T ≤ 20) : ∃ b, Good b ∧ F_X2_winter_72 N N (xs g mind pr) (nI t) (nI n) (nI T) (nI w) (lN 0) (nI 0) = (F_X2_leastTerms N (lN (sumTo (oddN g.1 t n T) (2 ^ n))) (lN (T ^ n)) (nI w)).bind fun r => some (r, xs g b pr) := by
  have h2 := pow2_7 hn
  refine loop_ex (fun q (z : XS × Int64 × Int32) => F_X2_winter_72 N q z.1 (nI t) (nI n) (nI T) (nI w) z.2.1 z.2.2) (fun i z => ∃ b, Good b ∧ z = (xs g b pr, lN (sumTo (oddN g.1 t n T) i), nI i)) (fun r => ∃ b, Good b ∧ r = (F_X2_leastTerms N (lN (sumTo (oddN g.1 t n T) (2 ^ n))) (lN (T ^ n)) (nI w)).bind fun r => some (r, xs g b pr)) (2 ^ n) ?_ ?_ N 0 (xs g mind pr, lN 0, nI 0) (Nat.zero_le _) (by omega) ⟨mind, hm, rfl⟩
  · rintro q i z hi ⟨b, hb, rfl⟩
    obtain ⟨b2, hb2, e2⟩ := x_weight hN hg hb pr (T := T) (cold := i) ht hn hT2 hT (by omega)
    refine Or.inl ⟨(xs g b2 pr, lN (sumTo (oddN g.1 t n T) (i + 1)), nI (i + 1)), ⟨b2, hb2, rfl⟩, ?_⟩
    show F_X2_winter_72 N (q + 1) (xs g b pr) (nI t) (nI n) (nI T) (nI w) (lN (sumTo (oddN g.1 t n T) i)) (nI i) = F_X2_winter_72 N q (xs g b2 pr) (nI t) (nI n) (nI T) (nI w) (lN (sumTo (oddN g.1 t n T) i + oddN g.1 t n T i)) (nI (i + 1))
    rw [F_X2_winter_72, q_shl (by omega), if_neg (by rw [q_le (by omega) (by omega)]; omega), e2]
    try simp only [q_bs]
    rw [lN_add]
    try rw [nI_add]
  · rintro q z ⟨b, hb, rfl⟩
    refine ⟨b, hb, ?_⟩
    show F_X2_winter_72 N (q + 1) (xs g b pr) (nI t) (nI n) (nI T) (nI w) (lN (sumTo (oddN g.1 t n T) (2 ^ n))) (nI (2 ^ n)) = _
    rw [F_X2_winter_72, q_shl (by omega), if_pos (nI_le (Nat.le_refl _) (by omega))]
    unfold F_X2_winter_100
    refine loop_up (fun k (z : Int64 × Int32) => F_X2_winter_106 N k (xs g b pr) (nI n) (nI T) (nI w) (lN (sumTo (oddN g.1 t n T) (2 ^ n))) z.1 z.2) (fun i => (lN (T ^ i), nI i)) n _ ?_ ?_ N 0 (Nat.zero_le _) (by omega)
    · intro k i hi
      show F_X2_winter_106 N (k + 1) (xs g b pr) (nI n) (nI T) (nI w) (lN (sumTo (oddN g.1 t n T) (2 ^ n))) (lN (T ^ i)) (nI i) = F_X2_winter_106 N k (xs g b pr) (nI n) (nI T) (nI w) (lN (sumTo (oddN g.1 t n T) (2 ^ n))) (lN (T ^ (i + 1))) (nI (i + 1))
      rw [F_X2_winter_106, if_neg (by rw [q_le (by omega) (by omega)]; omega), nI_l (show T < 2 ^ 31 by omega), lN_mul]
      try rw [nI_add]
      rw [Nat.pow_succ]
    · intro k
      show F_X2_winter_106 N (k + 1) (xs g b pr) (nI n) (nI T) (nI w) (lN (sumTo (oddN g.1 t n T) (2 ^ n))) (lN (T ^ n)) (nI n) = _
      rw [F_X2_winter_106, if_pos (nI_le (Nat.le_refl _) (by omega))]
      rfl
theorem y_winter {N : Nat} (hN : 2000 ≤ N) {g : GS} (hg : GI g) {m : TA} (hm : Good m) (was : TA) (pl ma : Int32) (nu to : FA) (se : Int32) {t n T w : Nat} (ht : t < 8) (hn : n ≤ 7) (hT2 : 2 ≤ T) (hT : T ≤ 20) : ∃ b, Good b ∧ F_X3_winter_74 N N (ys g m was pl ma nu to se) (nI t) (nI n) (nI T) (nI w) (lN 0) (lN 1) (nI 0) = (F_X3_partOf N (lN (sumTo (oddN g.1 t n T) (2 ^ n))) (lN (T ^ n)) (nI w)).bind fun r => some (r, ys g b was pl ma nu to se) := by
  have h2 := pow2_7 hn
  have e0 : F_X3_winter_74 N N (ys g m was pl ma nu to se) (nI t) (nI n) (nI T) (nI w) (lN 0) (lN 1) (nI 0) = F_X3_winter_93 N (ys g m was pl ma nu to se) (nI t) (nI n) (nI T) (nI w) (lN 0) (lN (T ^ n)) := by
    refine loop_up (fun k (z : Int64 × Int32) => F_X3_winter_74 N k (ys g m was pl ma nu to se) (nI t) (nI n) (nI T) (nI w) (lN 0) z.1 z.2) (fun i => (lN (T ^ i), nI i)) n _ ?_ ?_ N 0 (Nat.zero_le _) (by omega)
    · intro k i hi
      show F_X3_winter_74 N (k + 1) (ys g m was pl ma nu to se) (nI t) (nI n) (nI T) (nI w) (lN 0) (lN (T ^ i)) (nI i) = F_X3_winter_74 N k (ys g m was pl ma nu to se) (nI t) (nI n) (nI T) (nI w) (lN 0) (lN (T ^ (i + 1))) (nI (i + 1))
      rw [F_X3_winter_74, if_neg (by rw [q_le (by omega) (by omega)]; omega), nI_l (show T < 2 ^ 31 by omega), lN_mul]
      try rw [nI_add]
      rw [Nat.pow_succ]
    · intro k
      show F_X3_winter_74 N (k + 1) (ys g m was pl ma nu to se) (nI t) (nI n) (nI T) (nI w) (lN 0) (lN (T ^ n)) (nI n) = _
      rw [F_X3_winter_74, if_pos (nI_le (Nat.le_refl _) (by omega))]
  rw [e0]
  unfold F_X3_winter_93
  refine loop_ex (fun q (z : MS × Int64 × Int32) => F_X3_winter_96 N q z.1 (nI t) (nI n) (nI T) (nI w) z.2.1 (lN (T ^ n)) z.2.2) (fun i z => ∃ b, Good b ∧ z = (ys g b was pl ma nu to se, lN (sumTo (oddN g.1 t n T) i), nI i)) (fun r => ∃ b, Good b ∧ r = (F_X3_partOf N (lN (sumTo (oddN g.1 t n T) (2 ^ n))) (lN (T ^ n)) (nI w)).bind fun r => some (r, ys g b was pl ma nu to se)) (2 ^ n) ?_ ?_ N 0 (ys g m was pl ma nu to se, lN 0, nI 0) (Nat.zero_le _) (by omega) ⟨m, hm, rfl⟩
  · rintro q i z hi ⟨b, hb, rfl⟩
    obtain ⟨b2, hb2, e2⟩ := y_weight hN hg was pl ma nu to se (T := T) (cold := i) ht hn hT2 hT (by omega) (nI w) (lN (sumTo (oddN g.1 t n T) i)) (lN (T ^ n)) (fun ctW cx1 cx2 cx3 cx4 cx5 cx7 cx9 => F_X3_winter_96 N q ctW cx1 cx2 cx3 cx4 cx5 cx7 cx9)
    refine Or.inl ⟨(ys g b2 was pl ma nu to se, lN (sumTo (oddN g.1 t n T) (i + 1)), nI (i + 1)), ⟨b2, hb2, rfl⟩, ?_⟩
    show F_X3_winter_96 N (q + 1) (ys g b was pl ma nu to se) (nI t) (nI n) (nI T) (nI w) (lN (sumTo (oddN g.1 t n T) i)) (lN (T ^ n)) (nI i) = F_X3_winter_96 N q (ys g b2 was pl ma nu to se) (nI t) (nI n) (nI T) (nI w) (lN (sumTo (oddN g.1 t n T) i + oddN g.1 t n T i)) (lN (T ^ n)) (nI (i + 1))
    rw [F_X3_winter_96, q_shl (by omega), if_neg (by rw [q_le (by omega) (by omega)]; omega)]
    show ((F_X3_copies N (em g.1) (em b)).bind _) = _
    rw [f_copies hN hg.1 hb]
    try simp only [q_bs]
    rw [← lN_add]
    exact e2
  · rintro q z ⟨b, hb, rfl⟩
    refine ⟨b, hb, ?_⟩
    show F_X3_winter_96 N (q + 1) (ys g b was pl ma nu to se) (nI t) (nI n) (nI T) (nI w) (lN (sumTo (oddN g.1 t n T) (2 ^ n))) (lN (T ^ n)) (nI (2 ^ n)) = _
    rw [F_X3_winter_96, q_shl (by omega), if_pos (nI_le (Nat.le_refl _) (by omega))]
    rfl
theorem s_winter {N : Nat} (hN : 2000 ≤ N) {g : GS} {x : XS} {y : MS} (hx : XR g x) (hy : MR g y) (hg : GI g) (p q r v : Int32) : Both (F_X2_winter N x p q r v) (F_X3_winter N y p q r v) := by
  have hno1 := both_noL N hx hy hg c1
  have hno2 := both_noL N hx hy hg c2
  have hno4 := both_noL N hx hy hg c4
  have hno6 := both_noL N hx hy hg c6
  have z1 : nI 0 = 0 := rfl
  have z2 : ¬ nI 1 = 0 := by decide
  have z3 : bI true = nI 1 := rfl
  have z4 : bI false = nI 0 := rfl
  have z5 : (!true) = false := rfl
  have z6 : (!false) = true := rfl
  unfold F_X2_winter F_X3_winter F_X2_winter_22 F_X2_winter_41 F_X2_winter_59 F_X3_winter_22 F_X3_winter_41
  rcases arg_cases p with hp | ⟨t, ht, rfl⟩
  · rw [g_noTopic_neg N hp, f_isTopic_neg N hp]
    try simp only [q_bs]
    try simp only [q_bs]
    rw [if_neg z2, if_neg (fun e => e z1)]; exact hno1
  · rw [g_noTopic N ht, f_isTopic N ht]
    try simp only [q_bs]
    try simp only [q_bs]
    by_cases h1 : t < 8
    · rw [decide_eq_true h1, z5, z3, z4, if_pos z1, if_pos z2]
      rcases arg_cases q with hq | ⟨n, hn, rfl⟩
      · rw [if_pos hq, if_pos hq]; exact hno4
      · rw [if_neg (nI_pos hn), if_neg (nI_pos hn)]
        rcases arg_cases r with hr | ⟨T, hT, rfl⟩
        · rw [if_neg (neg_nle hr (by decide)), if_neg (neg_nle hr (by decide))]; exact hno4
        · rw [i_le (by decide) hT, i_le (by decide) hT]
          by_cases h2 : 2 ≤ T
          · rw [if_pos h2, if_pos h2, i_lt (by decide) hn, i_lt (by decide) hn]
            by_cases h3 : 7 < n
            · rw [if_pos h3, if_pos h3]; exact hno6
            · rw [if_neg h3, if_neg h3, i_le hT (by decide), i_le hT (by decide)]
              by_cases h4 : T ≤ 20
              · rw [if_pos h4, if_pos h4]
                rcases arg_cases v with hv | ⟨w, hw, rfl⟩
                · rw [if_pos hv, f_isIn_neg N (by decide) hv]
                  try simp only [q_bs]
                  rw [if_neg (fun e => e z1)]; exact hno2
                · rw [if_neg (nI_pos hw), f_isIn N hw (by decide) (by decide)]
                  try simp only [q_bs]
                  rw [i_le hw (by decide)]
                  by_cases h6 : w ≤ 1
                  · rw [if_pos h6, decide_eq_true (show 0 ≤ w ∧ w ≤ 1 by omega), if_pos (show ¬ bI true = 0 by decide)]
                    obtain ⟨mind, pr, hm, rfl⟩ := hx
                    obtain ⟨m, was, pl, ma, nu, to, se, h7, h8, rfl⟩ := hy
                    obtain ⟨b, hb, e⟩ := x_winter hN hg hm pr (w := w) h1 (show n ≤ 7 by omega) h2 h4
                    obtain ⟨m2, hm2, e2⟩ := y_winter hN hg h7 was pl ma nu to se (w := w) h1 (show n ≤ 7 by omega) h2 h4
                    have hs : sumTo (oddN g.1 t n T) (2 ^ n) ≤ 1280000000 * 2 ^ n := sumTo_le (oddN_le h4 g.1 t (by omega)) (2 ^ n)
                    have h27 := pow2_7 (show n ≤ 7 by omega)
                    have hTn : T ^ n ≤ 20 ^ n := Nat.pow_le_pow_left h4 n
                    have h20 := pow20 (show n ≤ 7 by omega)
                    have hpos : 0 < T ^ n := Nat.pow_pos (by omega)
                    have hs2 : 1280000000 * 2 ^ n ≤ 1280000000 * 128 := Nat.mul_le_mul_left _ h27
                    obtain ⟨u, e3, e4⟩ := least_part hN (A := sumTo (oddN g.1 t n T) (2 ^ n)) (B := T ^ n) (w := w) (by omega) (by omega) (by omega) h6
                    rw [e, e2, e3, e4]
                    exact ⟨_, g, _, _, rfl, rfl, XR.mk b pr hb rfl, MR.mk m2 was pl ma nu to se hm2 h8 rfl, hg⟩
                  · rw [if_neg h6, decide_eq_false (show ¬ (0 ≤ w ∧ w ≤ 1) by omega), if_neg (fun e => e rfl)]
                    exact hno2
              · rw [if_neg h4, if_neg h4]; exact hno6
          · rw [if_neg h2, if_neg h2]; exact hno4
    · rw [decide_eq_false h1, z6, z3, z4, if_neg z2, if_neg (fun e => e z1)]; exact hno1
