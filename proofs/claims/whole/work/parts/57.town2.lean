/-! years of the class, and what it tells -/
theorem g_pass {N : Nat} (hN : 2000 ≤ N) {a : TA} (hg : Good a) {n : Nat} (hn : n ≤ 1000) (hy : aY a + n < 100000) : F_X1_pass N (TW a) (nI n) = some (TW (yearsF a n)) := by
  unfold F_X1_pass
  refine loop_up (fun k (y : TownS × Int32) => F_X1_pass_2 N k y.1 (nI n) y.2) (fun i => (TW (yearsF a i), nI i)) n _ ?_ ?_ N 0 (Nat.zero_le _) (by omega)
  · intro k i hi
    show F_X1_pass_2 N (k + 1) (TW (yearsF a i)) (nI n) (nI i) = F_X1_pass_2 N k (TW (yearF (yearsF a i))) (nI n) (nI (i + 1))
    have h1 := g_passOne hN (Good_years hg i (by omega)) (by rw [(yearsF_n a i).2]; omega) (f := 0) (k := 8) (by decide)
    rw [yearR_8] at h1
    rw [F_X1_pass_2, if_neg (by rw [q_le (by omega) (by omega)]; omega), h1]
    try simp only [q_bs]
    try rw [nI_add]
  · intro k
    show F_X1_pass_2 N (k + 1) (TW (yearsF a n)) (nI n) (nI n) = _
    rw [F_X1_pass_2, if_pos (by rw [q_le (by omega) (by omega)]; exact Nat.le_refl _)]
/-- years of one topic alone -/
def yearsR (a : TA) (t : Nat) : Nat → TA
  | 0 => a
  | n + 1 => yearR (yearsR a t n) t 1
theorem yearsR_n (a : TA) (t : Nat) : ∀ n, aN (yearsR a t n) = aN a ∧ aY (yearsR a t n) = aY a + n := by
  intro n
  induction n with
  | zero => exact ⟨rfl, rfl⟩
  | succ n ih => exact ⟨(yearR_n _ t 1).1.trans ih.1, by rw [show aY (yearsR a t (n + 1)) = aY (yearsR a t n) + 1 from (yearR_n _ t 1).2, ih.2]; omega⟩
theorem Good_yearsR {a : TA} (h : Good a) {t : Nat} (ht : t < 8) : ∀ n, aY a + n < 100000 → Good (yearsR a t n) := by
  intro n
  induction n with
  | zero => intro _; exact h
  | succ n ih => intro hy; exact Good_yearR (ih (by omega)) (by rw [(yearsR_n a t n).2]; omega) (by omega)
theorem g_passFor {N : Nat} (hN : 2000 ≤ N) {a : TA} (hg : Good a) {t n : Nat} (ht : t < 8) (hn : n ≤ 1000) (hy : aY a + n < 100000) : F_X1_passFor N (TW a) (nI t) (nI n) = some (TW (yearsR a t n)) := by
  unfold F_X1_passFor
  refine loop_up (fun k (y : TownS × Int32) => F_X1_passFor_2 N k y.1 (nI t) (nI n) y.2) (fun i => (TW (yearsR a t i), nI i)) n _ ?_ ?_ N 0 (Nat.zero_le _) (by omega)
  · intro k i hi
    show F_X1_passFor_2 N (k + 1) (TW (yearsR a t i)) (nI t) (nI n) (nI i) = F_X1_passFor_2 N k (TW (yearR (yearsR a t i) t 1)) (nI t) (nI n) (nI (i + 1))
    have h1 := g_passOne hN (Good_yearsR hg ht i (by omega)) (by rw [(yearsR_n a t i).2]; omega) (f := t) (k := 1) (by omega)
    rw [F_X1_passFor_2, if_neg (by rw [q_le (by omega) (by omega)]; omega)]
    try rw [nI_add t 1]
    rw [h1]
    try simp only [q_bs]
    try rw [nI_add]
  · intro k
    show F_X1_passFor_2 N (k + 1) (TW (yearsR a t n)) (nI t) (nI n) (nI n) = _
    rw [F_X1_passFor_2, if_pos (by rw [q_le (by omega) (by omega)]; exact Nat.le_refl _)]
/-- two towns that are alike in one topic -/
def Sim (t : Nat) (a b : TA) : Prop := aN a = aN b ∧ aY a = aY b ∧ aK a = aK b ∧ aF a = aF b ∧ aA a = aA b ∧ aD a = aD b ∧ ∀ c, aW a c t = aW b c t
theorem sim_rf (t : Nat) (a : TA) : Sim t a a := ⟨rfl, rfl, rfl, rfl, rfl, rfl, fun _ => rfl⟩
theorem sim_live {t : Nat} {a b : TA} (h : Sim t a b) (c : Nat) : live a c = live b c := by
  unfold live
  rw [h.1, h.2.2.2.2.2.1]
theorem sim_say {t : Nat} {a b : TA} (h : Sim t a b) (w : Nat) : say a t w = say b t w := by
  refine cntTo_congr (fun i _ => ?_)
  unfold saysB
  rw [sim_live h i, h.2.2.2.2.2.2 i]
theorem sim_wrt {t : Nat} {a b : TA} (h : Sim t a b) : wrt a t = wrt b t := by
  unfold wrt
  rw [sim_say h, sim_say h]
theorem sim_thn {t : Nat} {a b : TA} (h : Sim t a b) (c : Nat) : thn a c t = thn b c t := by
  have e1 := h.2.2.2.2.2.2 c
  unfold thn alone
  rw [h.2.1, h.2.2.1, h.2.2.2.1, e1, sim_say h, sim_say h]
theorem sim_age {t : Nat} {a b : TA} (h : Sim t a b) : Sim t (ageA a) (ageA b) := by
  have hl : live a = live b := funext (sim_live h)
  obtain ⟨h1, h2, h3, h4, h5, h6, h7⟩ := h
  have hk : ageK a = ageK b := by unfold ageK; rw [hl, h5]
  have hd : diesK a = diesK b := by unfold diesK; rw [hl, hk, h3, h4]
  refine ⟨h1, ?_, h3, h4, hk, ?_, h7⟩
  · show aY a + 1 = aY b + 1
    rw [h2]
  · show (fun c => aD a c || diesK a c) = (fun c => aD b c || diesK b c)
    rw [h6, hd]
theorem sim_turn_same {t : Nat} {a b : TA} (h : Sim t a b) (c : Nat) : Sim t (turn1 a c t) (turn1 b c t) := by
  have e1 := h.2.2.2.2.2.2 c
  unfold turn1
  rw [sim_live h c, e1, sim_thn h c]
  split
  · refine ⟨h.1, h.2.1, h.2.2.1, h.2.2.2.1, h.2.2.2.2.1, h.2.2.2.2.2.1, fun i => ?_⟩
    show updW (aW a) c t _ i t = updW (aW b) c t _ i t
    unfold updW
    split
    · rfl
    · exact h.2.2.2.2.2.2 i
  · exact h
theorem sim_turn_other {t u : Nat} {a b : TA} (h : Sim t a b) (hu : u ≠ t) (c : Nat) : Sim t a (turn1 b c u) := by
  unfold turn1
  split
  · refine ⟨h.1, h.2.1, h.2.2.1, h.2.2.2.1, h.2.2.2.2.1, h.2.2.2.2.2.1, fun i => ?_⟩
    show aW a i t = updW (aW b) c u _ i t
    unfold updW
    rw [if_neg (fun e => hu e.2.symm)]
    exact h.2.2.2.2.2.2 i
  · exact h
theorem sim_turnC {t : Nat} {a b : TA} (h : Sim t a b) (c : Nat) : ∀ k, Sim t (if t < k then turn1 a c t else a) (turnC b c k) := by
  intro k
  induction k with
  | zero => exact h
  | succ k ih =>
    show Sim t _ (turn1 (turnC b c k) c k)
    rcases Nat.lt_trichotomy t k with h1 | h1 | h1
    · rw [if_pos h1] at ih
      rw [if_pos (by omega)]
      exact sim_turn_other ih (by omega) c
    · subst h1
      rw [if_neg (Nat.lt_irrefl t)] at ih
      rw [if_pos (by omega)]
      exact sim_turn_same ih c
    · rw [if_neg (by omega)] at ih
      rw [if_neg (by omega)]
      exact sim_turn_other ih (by omega) c
theorem sim_passA {t : Nat} (ht : t < 8) {a b : TA} (h : Sim t a b) : ∀ c, Sim t (passA a t 1 c) (turnA b c) := by
  intro c
  induction c with
  | zero => exact h
  | succ c ih =>
    have h9 := sim_turnC ih c 8
    rw [if_pos ht] at h9
    rw [show turnA b (c + 1) = turnC (turnA b c) c 8 from rfl]
    generalize turnC (turnA b c) c 8 = q at *
    show Sim t (if live (passA a t 1 c) c then turnR (passA a t 1 c) c t 1 else passA a t 1 c) q
    cases hl : live (passA a t 1 c) c
    · rw [(turn1_dead hl t).1] at h9
      exact h9
    · exact h9
theorem sim_year {t : Nat} (ht : t < 8) {a b : TA} (h : Sim t a b) : Sim t (yearR a t 1) (yearF b) := by
  have h9 := sim_passA ht (sim_age h) (aN a)
  unfold yearR yearF
  rw [← h.1]
  exact h9
theorem sim_years {t : Nat} (ht : t < 8) {a b : TA} (h : Sim t a b) : ∀ n, Sim t (yearsR a t n) (yearsF b n) := by
  intro n
  induction n with
  | zero => exact h
  | succ n ih => exact sim_year ht ih
/-- behind how many years a topic is written no more; one more than the most if never -/
def endTo (a : TA) (t : Nat) : Nat → Nat → Nat
  | 0, n => n
  | k + 1, n => if wrt (yearsF a n) t then endTo a t k (n + 1) else n
def endN (a : TA) (t : Nat) : Nat := endTo a t 61 0
/-- the same of any mark of a town -/
def goTo (cond : TA → Bool) (a : TA) : Nat → Nat → Nat
  | 0, n => n
  | k + 1, n => if cond (yearsF a n) then goTo cond a k (n + 1) else n
theorem endTo_go (a : TA) (t : Nat) : ∀ k n, endTo a t k n = goTo (fun b => wrt b t) a k n := by
  intro k
  induction k with
  | zero => intro n; rfl
  | succ k ih =>
    intro n
    show (if wrt (yearsF a n) t then endTo a t k (n + 1) else n) = (if wrt (yearsF a n) t then goTo (fun b => wrt b t) a k (n + 1) else n)
    rw [ih]
theorem goTo_le (cond : TA → Bool) (a : TA) : ∀ k n, goTo cond a k n ≤ n + k ∧ n ≤ goTo cond a k n := by
  intro k
  induction k with
  | zero => intro n; exact ⟨Nat.le_refl _, Nat.le_refl _⟩
  | succ k ih =>
    intro n
    show (if _ then _ else _) ≤ _ ∧ n ≤ (if _ then _ else _)
    split
    · have := ih (n + 1); omega
    · omega
def ansN (e : Nat) : Int32 := if e ≤ 60 then nI e else -9
theorem endTo_le (a : TA) (t : Nat) : ∀ k n, endTo a t k n ≤ n + k ∧ n ≤ endTo a t k n := by
  intro k
  induction k with
  | zero => intro n; exact ⟨Nat.le_refl _, Nat.le_refl _⟩
  | succ k ih =>
    intro n
    show (if _ then _ else _) ≤ _ ∧ n ≤ (if _ then _ else _)
    split
    · have := ih (n + 1); omega
    · omega
theorem endN_le (a : TA) (t : Nat) : endN a t ≤ 61 := by
  have := (endTo_le a t 61 0).1
  unfold endN; omega
theorem g_endOf {N : Nat} (hN : 2000 ≤ N) {a : TA} (hg : Good a) {t : Nat} (ht : t < 8) (hy : aY a < 90000) : ∃ b, Good b ∧ F_X1_endOf N (TW a) (nI t) = some (nI (endN a t), TW b) := by
  unfold F_X1_endOf endN
  have key : ∀ k n m, n + k = 61 → k < m → ∃ b, Good b ∧ F_X1_endOf_2 N m (TW (yearsR a t n)) (nI t) (nI n) = some (nI (endTo a t k n), TW b) := by
    intro k
    induction k with
    | zero =>
      intro n m hnk hm
      obtain ⟨m, rfl⟩ : ∃ q, m = q + 1 := ⟨m - 1, by omega⟩
      refine ⟨yearsR a t n, Good_yearsR hg ht n (by omega), ?_⟩
      rw [F_X1_endOf_2, if_pos (by rw [q_lt (by omega) (by omega)]; omega)]; rfl
    | succ k ih =>
      intro n m hnk hm
      obtain ⟨m, rfl⟩ : ∃ q, m = q + 1 := ⟨m - 1, by omega⟩
      have hG := Good_yearsR hg ht n (by omega)
      have hS := sim_wrt (sim_years ht (sim_rf t a) n)
      have h1 := g_passOne hN hG (by rw [(yearsR_n a t n).2]; omega) (f := t) (k := 1) (by omega)
      rw [F_X1_endOf_2, if_neg (by rw [q_lt (by omega) (by omega)]; omega), g_isWritten N ht]
      try simp only [q_bs]
      repeat (first | rw [i_b0] | rw [i_nb0])
      try rw [nI_add t 1]
      rw [h1]
      try simp only [q_bs]
      try rw [nI_add]
      show ∃ b, Good b ∧ _ = some (nI (if wrt (yearsF a n) t then endTo a t k (n + 1) else n), TW b)
      rw [← hS]
      cases wrt (yearsR a t n) t
      · exact ⟨_, hG, if_pos (by first | rfl | decide)⟩
      · obtain ⟨b, hb, e⟩ := ih (n + 1) m (by omega) (by omega)
        exact ⟨b, hb, (if_neg (by decide)).trans e⟩
  exact key 61 0 N (by omega) (by omega)
theorem g_spend {N : Nat} (hN : 2000 ≤ N) {a : TA} (hg : Good a) {n : Nat} (hn : n < 2147480000) (hy : aY a ≤ 999) : F_X1_spend N (TW a) (nI n) = some (if 1 ≤ n ∧ n ≤ 60 ∧ aY a + n ≤ 999 then (nI 1, TW (yearsF a n)) else (nI 0, TW a)) := by
  unfold F_X1_spend
  rw [i_lt (by omega) (by decide)]
  rw [i_lt (by decide) (by omega)]
  try rw [TW_Y]
  try rw [nI_add]
  rw [i_le (by omega) (by decide)]
  by_cases h1 : n < 1
  · rw [if_pos h1, if_neg (by omega)]
  · rw [if_neg h1]
    by_cases h2 : 60 < n
    · rw [if_pos h2, if_neg (by omega)]
    · rw [if_neg h2]
      by_cases h3 : aY a + n ≤ 999
      · rw [if_pos h3, if_pos (by omega)]
        refine loop_up (fun k (y : TownS × Int32) => F_X1_spend_27 N k y.1 (nI n) y.2) (fun i => (TW (yearsF a i), nI i)) n _ ?_ ?_ N 0 (Nat.zero_le _) (by omega)
        · intro k i hi
          show F_X1_spend_27 N (k + 1) (TW (yearsF a i)) (nI n) (nI i) = F_X1_spend_27 N k (TW (yearF (yearsF a i))) (nI n) (nI (i + 1))
          have h1 := g_passOne hN (Good_years hg i (by omega)) (by rw [(yearsF_n a i).2]; omega) (f := 0) (k := 8) (by decide)
          rw [yearR_8] at h1
          rw [F_X1_spend_27, if_neg (by rw [q_le (by omega) (by omega)]; omega), h1]
          try simp only [q_bs]
          try rw [nI_add]
        · intro k
          show F_X1_spend_27 N (k + 1) (TW (yearsF a n)) (nI n) (nI n) = _
          rw [F_X1_spend_27, if_pos (by rw [q_le (by omega) (by omega)]; exact Nat.le_refl _)]
      · rw [if_neg h3, if_neg (by omega)]
