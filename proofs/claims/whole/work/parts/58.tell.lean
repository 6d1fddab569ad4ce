/-! what is told of a town, on both sides -/
def sumTo (f : Nat → Nat) : Nat → Nat
  | 0 => 0
  | k + 1 => sumTo f k + f k
theorem sumTo_congr {f g : Nat → Nat} {k : Nat} (h : ∀ i, i < k → f i = g i) : sumTo f k = sumTo g k := by
  induction k with
  | zero => rfl
  | succ k ih => show sumTo f k + f k = sumTo g k + g k; rw [ih (fun i hi => h i (by omega)), h k (by omega)]
theorem sumTo_le {f : Nat → Nat} {m : Nat} (h : ∀ i, f i ≤ m) : ∀ k, sumTo f k ≤ m * k := by
  intro k
  induction k with
  | zero => exact Nat.zero_le _
  | succ k ih => show sumTo f k + f k ≤ m * (k + 1); have := h k; rw [Nat.mul_succ]; omega
theorem sumTo_ge {f : Nat → Nat} {n : Nat} (hf : ∀ c, n ≤ c → f c = 0) : ∀ k, n ≤ k → sumTo f k = sumTo f n := by
  intro k
  induction k with
  | zero => intro h; have : n = 0 := by omega
            subst this; rfl
  | succ k ih =>
    intro h
    rcases Nat.lt_or_ge k n with h1 | h1
    · have : n = k + 1 := by omega
      subst this; rfl
    · show sumTo f k + f k = sumTo f n
      rw [ih h1, hf k h1]; rfl
theorem sumTo_add (f g : Nat → Nat) : ∀ k, sumTo (fun i => f i + g i) k = sumTo f k + sumTo g k := by
  intro k
  induction k with
  | zero => rfl
  | succ k ih => show sumTo (fun i => f i + g i) k + (f k + g k) = sumTo f k + f k + (sumTo g k + g k); rw [ih]; omega
theorem sumTo_swap (p : Nat → Nat → Bool) (n : Nat) : ∀ k, sumTo (fun t => cntTo (fun i => p i t) n) k = sumTo (fun i => cntTo (p i) k) n := by
  intro k
  induction k with
  | zero => exact (sumTo_ge (n := 0) (fun _ _ => rfl) n (Nat.zero_le _)).symm
  | succ k ih =>
    show sumTo (fun t => cntTo (fun i => p i t) n) k + cntTo (fun i => p i k) n = sumTo (fun i => cntTo (p i) k + (p i k).toNat) n
    rw [ih, sumTo_add]
    congr 1
    have : ∀ m, cntTo (fun i => p i k) m = sumTo (fun i => (p i k).toNat) m := by
      intro m
      induction m with
      | zero => rfl
      | succ m ihm => show cntTo (fun i => p i k) m + _ = _ + _; rw [ihm]
    exact this n
def agesN (a : TA) : Nat := sumTo (fun c => if live a c then aA a c else 0) 6
theorem live_ge {a : TA} {c : Nat} (h : aN a ≤ c) : live a c = false := by
  unfold live; rw [decide_eq_false (by omega)]; rfl
theorem agesN_n {a : TA} (hg : Good a) : agesN a = sumTo (fun c => if live a c then aA a c else 0) (aN a) := sumTo_ge (fun c hc => by rw [live_ge hc]; rfl) 6 hg.1
theorem agesN_le {a : TA} (hg : Good a) : ∀ k, sumTo (fun c => if live a c then aA a c else 0) k ≤ 99 * k := sumTo_le (fun c => by
  have := hg.2.2.2.2.1 c
  split <;> omega)
theorem g_ages {N : Nat} (hN : 2000 ≤ N) {a : TA} (hg : Good a) : F_X1_agesOfLiving N (TW a) = some (nI (agesN a)) := by
  have hn := hg.1
  rw [agesN_n hg]
  unfold F_X1_agesOfLiving
  refine loop_up (fun n (x : Int32 × Int32) => F_X1_agesOfLiving_4 N (TW a) n x.1 x.2) (fun i => (nI (sumTo (fun c => if live a c then aA a c else 0) i), nI i)) (aN a) _ ?_ ?_ N 0 (Nat.zero_le _) (by omega)
  · intro n i hi
    show F_X1_agesOfLiving_4 N (TW a) (n + 1) (nI (sumTo (fun c => if live a c then aA a c else 0) i)) (nI i) = F_X1_agesOfLiving_4 N (TW a) n (nI (sumTo (fun c => if live a c then aA a c else 0) i + (if live a i then aA a i else 0))) (nI (i + 1))
    rw [F_X1_agesOfLiving_4]
    try rw [TW_n]
    rw [if_neg (by rw [q_le (by omega) (by omega)]; omega), g_isLiving N hg (by omega)]
    try simp only [q_bs]
    repeat (first | rw [i_b0] | rw [i_nb0])
    repeat rw [q_ck (by omega) (by decide)]
    repeat rw [q_cl (by omega)]
    try rw [TW_a]
    unfold F_X1_agesOfLiving_29
    try rw [nI_add i 1]
    try rw [nI_add]
    cases live a i
    · rw [if_pos (by first | rfl | decide)]; rfl
    · rw [if_neg (by decide)]; rfl
  · intro n
    show F_X1_agesOfLiving_4 N (TW a) (n + 1) _ (nI (aN a)) = _
    rw [F_X1_agesOfLiving_4]
    try rw [TW_n]
    rw [if_pos (by rw [q_le (by omega) (by omega)]; exact Nat.le_refl _)]
theorem f_ages {N : Nat} (hN : 2000 ≤ N) {a : TA} (hg : Good a) : F_X3_agesAll N (em a) = some (nI (agesN a)) := by
  have hn := hg.1
  rw [agesN_n hg]
  unfold F_X3_agesAll
  refine loop_up (fun n (x : Int32 × Int32) => F_X3_agesAll_4 N (em a) n x.1 x.2) (fun i => (nI (sumTo (fun c => if live a c then aA a c else 0) i), nI i)) (aN a) _ ?_ ?_ N 0 (Nat.zero_le _) (by omega)
  · intro n i hi
    show F_X3_agesAll_4 N (em a) (n + 1) (nI (sumTo (fun c => if live a c then aA a c else 0) i)) (nI i) = F_X3_agesAll_4 N (em a) n (nI (sumTo (fun c => if live a c then aA a c else 0) i + (if live a i then aA a i else 0))) (nI (i + 1))
    have h2 := ix_lt (c := i) (w := 2) (by omega) (by decide)
    have hl : live a i = !aD a i := by unfold live; rw [decide_eq_true hi]; rfl
    rw [F_X3_agesAll_4]
    try rw [q_c0]
    try rw [em_0]
    rw [if_neg (by rw [q_le (by omega) (by omega)]; omega), f_isAlive N a (by omega)]
    try simp only [q_bs]
    repeat (first | rw [i_b0] | rw [i_nb0])
    try rw [f_of]
    try simp only [q_bs]
    repeat rw [q_ck h2 (by decide)]
    repeat rw [q_cl (by omega)]
    try rw [em_a]
    rw [hl]
    unfold F_X3_agesAll_31
    try rw [nI_add i 1]
    try rw [nI_add]
    try rw [nI_add]
    cases aD a i
    · rw [if_neg (by decide)]; rfl
    · rw [if_pos (by first | rfl | decide)]; rfl
  · intro n
    show F_X3_agesAll_4 N (em a) (n + 1) _ (nI (aN a)) = _
    rw [F_X3_agesAll_4]
    try rw [q_c0]
    try rw [em_0]
    rw [if_pos (by rw [q_le (by omega) (by omega)]; exact Nat.le_refl _)]
def chapB (a : TA) (c t : Nat) : Bool := wrt a t && (aW a c t != 0)
def chap (a : TA) (c : Nat) : Nat := if live a c then cntTo (chapB a c) 8 else 0
theorem chap_le (a : TA) (c : Nat) : chap a c ≤ 8 := by
  unfold chap
  split
  · exact cntTo_le _ _
  · omega
theorem g_chap {N : Nat} (hN : 2000 ≤ N) {a : TA} (hg : Good a) {c : Nat} (hc : c < 6) : F_X1_chapterOf N (TW a) (nI c) = some (nI (chap a c)) := by
  unfold F_X1_chapterOf chap
  rw [g_isLiving N hg (by omega)]
  try simp only [q_bs]
  repeat (first | rw [i_b0] | rw [i_nb0])
  cases live a c
  · rw [if_neg (fun h => h rfl)]; rfl
  · rw [if_pos (by decide), if_pos (by first | rfl | decide)]
    refine loop_up (fun n (x : Int32 × Int32) => F_X1_chapterOf_14 N (TW a) n (nI c) x.1 x.2) (fun i => (nI (cntTo (chapB a c) i), nI i)) 8 _ ?_ ?_ N 0 (Nat.zero_le _) (by omega)
    · intro n t ht
      show F_X1_chapterOf_14 N (TW a) (n + 1) (nI c) (nI (cntTo (chapB a c) t)) (nI t) = F_X1_chapterOf_14 N (TW a) n (nI c) (nI (cntTo (chapB a c) t + (chapB a c t).toNat)) (nI (t + 1))
      have hw := hg.2.2.2.2.2.1 c t
      rw [F_X1_chapterOf_14, if_neg (by rw [q_le (by omega) (by omega)]; omega), g_isWritten N ht]
      try simp only [q_bs]
      repeat (first | rw [i_b0] | rw [i_nb0])
      rw [g_wordOf N hg hc ht]
      try simp only [q_bs]
      first | rw [i_eq0 (by omega)] | rw [i_ne0 (by omega)]
      unfold F_X1_chapterOf_40 chapB
      try rw [nI_add t 1]
      try rw [nI_add]
      cases wrt a t
      · rw [if_pos (by first | rfl | decide)]; rfl
      · rw [if_neg (by decide)]
        by_cases h : aW a c t = 0
        · rw [if_pos h, h]; rfl
        · rw [if_neg h]
          have : (aW a c t != 0) = true := by simp [h]
          rw [this]; rfl
    · intro n
      show F_X1_chapterOf_14 N (TW a) (n + 1) (nI c) (nI (cntTo (chapB a c) 8)) (nI 8) = _
      rw [F_X1_chapterOf_14, if_pos (by decide)]
theorem f_chap {N : Nat} (hN : 2000 ≤ N) {a : TA} (hg : Good a) {c : Nat} (hc : c < aN a) : F_X3_chapterOf N (em a) (nI c) = some (nI (chap a c)) := by
  have hn := hg.1
  have hl : live a c = !aD a c := by unfold live; rw [decide_eq_true hc]; rfl
  have e : chap a c = cntTo (fun t => live a c && chapB a c t) 8 := by
    unfold chap
    cases live a c
    · exact ((cntTo_ge (n := 0) (fun _ _ => rfl) 8 (by decide)).trans rfl).symm
    · rfl
  rw [e]
  unfold F_X3_chapterOf
  refine loop_up (fun n (x : Int32 × Int32) => F_X3_chapterOf_4 N (em a) n (nI c) x.1 x.2) (fun i => (nI (cntTo (fun t => live a c && chapB a c t) i), nI i)) 8 _ ?_ ?_ N 0 (Nat.zero_le _) (by omega)
  · intro n t ht
    show F_X3_chapterOf_4 N (em a) (n + 1) (nI c) (nI (cntTo (fun t => live a c && chapB a c t) t)) (nI t) = F_X3_chapterOf_4 N (em a) n (nI c) (nI (cntTo (fun t => live a c && chapB a c t) t + (live a c && chapB a c t).toNat)) (nI (t + 1))
    have hw := hg.2.2.2.2.2.1 c t
    have h4 := ix_lt (c := c) (w := 4 + t) (by omega) (by omega)
    rw [F_X3_chapterOf_4, if_neg (by rw [q_le (by omega) (by omega)]; omega), f_isAlive N a (by omega)]
    try simp only [q_bs]
    repeat (first | rw [i_b0] | rw [i_nb0])
    try rw [nI_add 4 t]
    try rw [f_of]
    try simp only [q_bs]
    repeat rw [q_ck h4 (by decide)]
    repeat rw [q_cl (by omega)]
    try rw [em_w a c ht]
    first | rw [i_eq0 (by omega)] | rw [i_ne0 (by omega)]
    rw [f_isWritten hN hg ht]
    try simp only [q_bs]
    repeat (first | rw [i_b0] | rw [i_nb0])
    rw [hl]
    unfold F_X3_chapterOf_44 chapB
    try rw [nI_add t 1]
    try rw [nI_add]
    try rw [nI_add]
    cases aD a c
    · rw [if_neg (by decide)]
      by_cases h : aW a c t = 0
      · rw [if_pos h, h]; simp
      · rw [if_neg h]
        have : (aW a c t != 0) = true := by simp [h]
        rw [this]
        cases wrt a t
        · rw [if_pos (by first | rfl | decide)]; rfl
        · rw [if_neg (by decide)]; rfl
    · rw [if_pos (by first | rfl | decide)]; rfl
  · intro n
    show F_X3_chapterOf_4 N (em a) (n + 1) (nI c) _ (nI 8) = _
    rw [F_X3_chapterOf_4, if_pos (by decide)]
/-- in how many topics two deny each other -/
def denB (a : TA) (b c t : Nat) : Bool := decide (aW a b t + aW a c t = 3) && (aW a b t != 0) && (aW a c t != 0)
def den (a : TA) (b c : Nat) : Nat := cntTo (denB a b c) 8
theorem den_le (a : TA) (b c : Nat) : den a b c ≤ 8 := cntTo_le _ _
theorem g_den {N : Nat} (hN : 2000 ≤ N) {a : TA} (hg : Good a) {b c : Nat} (hb : b < 6) (hc : c < 6) : F_X1_denials N (TW a) (nI b) (nI c) = some (nI (den a b c)) := by
  unfold F_X1_denials den
  refine loop_up (fun n (x : Int32 × Int32) => F_X1_denials_5 N (TW a) n (nI b) (nI c) x.1 x.2) (fun i => (nI (cntTo (denB a b c) i), nI i)) 8 _ ?_ ?_ N 0 (Nat.zero_le _) (by omega)
  · intro n t ht
    show F_X1_denials_5 N (TW a) (n + 1) (nI b) (nI c) (nI (cntTo (denB a b c) t)) (nI t) = F_X1_denials_5 N (TW a) n (nI b) (nI c) (nI (cntTo (denB a b c) t + (denB a b c t).toNat)) (nI (t + 1))
    have h1 := hg.2.2.2.2.2.1 b t
    have h2 := hg.2.2.2.2.2.1 c t
    rw [F_X1_denials_5, if_neg (by rw [q_le (by omega) (by omega)]; omega), g_wordOf N hg hb ht]
    try simp only [q_bs]
    rw [g_wordOf N hg hc ht]
    try simp only [q_bs]
    try simp only [q_bs]
    try simp only [q_bs]
    try rw [nI_add]
    first | rw [i_eq (by omega) (by decide)] | rw [i_ne (by omega) (by decide)]
    first | rw [i_eq0 (by omega)] | rw [i_ne0 (by omega)]
    first | rw [i_eq0 (by omega)] | rw [i_ne0 (by omega)]
    unfold F_X1_denials_54 denB
    try rw [nI_add t 1]
    try rw [nI_add]
    by_cases e : aW a b t + aW a c t = 3
    · rw [if_neg (fun h => h e), decide_eq_true e]
      by_cases e1 : aW a b t = 0
      · rw [if_pos e1, e1]; rfl
      · rw [if_neg e1]
        have f1 : (aW a b t != 0) = true := by simp [e1]
        by_cases e2 : aW a c t = 0
        · rw [if_pos e2, e2, f1]; rfl
        · rw [if_neg e2]
          have f2 : (aW a c t != 0) = true := by simp [e2]
          rw [f1, f2]; rfl
    · rw [if_pos e, decide_eq_false e]; rfl
  · intro n
    show F_X1_denials_5 N (TW a) (n + 1) (nI b) (nI c) _ (nI 8) = _
    rw [F_X1_denials_5, if_pos (by decide)]
theorem f_den {N : Nat} (hN : 2000 ≤ N) {a : TA} (hg : Good a) {y : MS} (hy : y.1 = em a) {b c : Nat} (hb : b < 6) (hc : c < 6) : F_X3_differing N y (nI b) (nI c) = some (nI (den a b c)) := by
  unfold F_X3_differing den
  refine loop_up (fun n (x : Int32 × Int32) => F_X3_differing_5 N y n (nI b) (nI c) x.1 x.2) (fun i => (nI (cntTo (denB a b c) i), nI i)) 8 _ ?_ ?_ N 0 (Nat.zero_le _) (by omega)
  · intro n t ht
    show F_X3_differing_5 N y (n + 1) (nI b) (nI c) (nI (cntTo (denB a b c) t)) (nI t) = F_X3_differing_5 N y n (nI b) (nI c) (nI (cntTo (denB a b c) t + (denB a b c t).toNat)) (nI (t + 1))
    have h1 := hg.2.2.2.2.2.1 b t
    have h2 := hg.2.2.2.2.2.1 c t
    have x1 := ix_lt (c := b) (w := 4 + t) hb (by omega)
    have x2 := ix_lt (c := c) (w := 4 + t) hc (by omega)
    rw [F_X3_differing_5, if_neg (by rw [q_le (by omega) (by omega)]; omega)]
    try rw [nI_add 4 t]
    try rw [f_of]
    try simp only [q_bs]
    repeat rw [q_ck x1 (by decide)]
    try rw [f_of]
    try simp only [q_bs]
    repeat rw [q_ck x2 (by decide)]
    try simp only [q_bs]
    repeat rw [q_ck x1 (by decide)]
    try simp only [q_bs]
    repeat rw [q_ck x2 (by decide)]
    repeat rw [q_cl (by omega)]
    repeat rw [q_cl (by omega)]
    rw [hy]
    try rw [em_w a b ht]
    try rw [em_w a c ht]
    try rw [nI_add]
    first | rw [i_eq (by omega) (by decide)] | rw [i_ne (by omega) (by decide)]
    first | rw [i_eq0 (by omega)] | rw [i_ne0 (by omega)]
    first | rw [i_eq0 (by omega)] | rw [i_ne0 (by omega)]
    unfold F_X3_differing_81 denB
    try rw [nI_add t 1]
    try rw [nI_add]
    try rw [nI_add]
    by_cases e : aW a b t + aW a c t = 3
    · rw [if_neg (fun h => h e), decide_eq_true e]
      by_cases e1 : aW a b t = 0
      · rw [if_pos e1, e1]; rfl
      · rw [if_neg e1]
        have f1 : (aW a b t != 0) = true := by simp [e1]
        by_cases e2 : aW a c t = 0
        · rw [if_pos e2, e2, f1]; rfl
        · rw [if_neg e2]
          have f2 : (aW a c t != 0) = true := by simp [e2]
          rw [f1, f2]; rfl
    · rw [if_pos e, decide_eq_false e]; rfl
  · intro n
    show F_X3_differing_5 N y (n + 1) (nI b) (nI c) _ (nI 8) = _
    rw [F_X3_differing_5, if_pos (by decide)]
def topB (a : TA) (c t : Nat) : Bool := aW a c t != 0
def topN (a : TA) (c : Nat) : Nat := cntTo (topB a c) 8
theorem topN_le (a : TA) (c : Nat) : topN a c ≤ 8 := cntTo_le _ _
theorem g_top {N : Nat} (hN : 2000 ≤ N) {a : TA} (hg : Good a) {c : Nat} (hc : c < 6) : F_X1_topicsOf N (TW a) (nI c) = some (nI (topN a c)) := by
  unfold F_X1_topicsOf topN
  refine loop_up (fun n (x : Int32 × Int32) => F_X1_topicsOf_4 N (TW a) n (nI c) x.1 x.2) (fun i => (nI (cntTo (topB a c) i), nI i)) 8 _ ?_ ?_ N 0 (Nat.zero_le _) (by omega)
  · intro n t ht
    show F_X1_topicsOf_4 N (TW a) (n + 1) (nI c) (nI (cntTo (topB a c) t)) (nI t) = F_X1_topicsOf_4 N (TW a) n (nI c) (nI (cntTo (topB a c) t + (topB a c t).toNat)) (nI (t + 1))
    have h1 := hg.2.2.2.2.2.1 c t
    rw [F_X1_topicsOf_4, if_neg (by rw [q_le (by omega) (by omega)]; omega), g_wordOf N hg hc ht]
    try simp only [q_bs]
    first | rw [i_eq0 (by omega)] | rw [i_ne0 (by omega)]
    unfold F_X1_topicsOf_22 topB
    try rw [nI_add t 1]
    try rw [nI_add]
    by_cases e : aW a c t = 0
    · rw [if_pos e, e]; rfl
    · have : (aW a c t != 0) = true := by simp [e]
      rw [if_neg e, this]; rfl
  · intro n
    show F_X1_topicsOf_4 N (TW a) (n + 1) (nI c) _ (nI 8) = _
    rw [F_X1_topicsOf_4, if_pos (by decide)]
theorem f_top {N : Nat} (hN : 2000 ≤ N) {a : TA} (hg : Good a) {c : Nat} (hc : c < 6) : F_X3_wordsOf N (em a) (nI c) = some (nI (topN a c)) := by
  unfold F_X3_wordsOf topN
  refine loop_up (fun n (x : Int32 × Int32) => F_X3_wordsOf_4 N (em a) n (nI c) x.1 x.2) (fun i => (nI (cntTo (topB a c) i), nI i)) 8 _ ?_ ?_ N 0 (Nat.zero_le _) (by omega)
  · intro n t ht
    show F_X3_wordsOf_4 N (em a) (n + 1) (nI c) (nI (cntTo (topB a c) t)) (nI t) = F_X3_wordsOf_4 N (em a) n (nI c) (nI (cntTo (topB a c) t + (topB a c t).toNat)) (nI (t + 1))
    have h1 := hg.2.2.2.2.2.1 c t
    have x1 := ix_lt (c := c) (w := 4 + t) hc (by omega)
    rw [F_X3_wordsOf_4, if_neg (by rw [q_le (by omega) (by omega)]; omega)]
    try rw [nI_add 4 t]
    try rw [f_of]
    try simp only [q_bs]
    repeat rw [q_ck x1 (by decide)]
    repeat rw [q_cl (by omega)]
    try rw [em_w a c ht]
    first | rw [i_eq0 (by omega)] | rw [i_ne0 (by omega)]
    unfold F_X3_wordsOf_28 topB
    try rw [nI_add t 1]
    try rw [nI_add]
    try rw [nI_add]
    by_cases e : aW a c t = 0
    · rw [if_neg (fun h => h e), e]; rfl
    · have : (aW a c t != 0) = true := by simp [e]
      rw [if_pos e, this]; rfl
  · intro n
    show F_X3_wordsOf_4 N (em a) (n + 1) (nI c) _ (nI 8) = _
    rw [F_X3_wordsOf_4, if_pos (by decide)]
def wordsN (a : TA) : Nat := sumTo (fun t => cntTo (fun i => live a i && topB a i t) 6) 8
theorem g_words {N : Nat} (hN : 2000 ≤ N) {a : TA} (hg : Good a) : F_X1_wordsOfLiving N (TW a) = some (nI (wordsN a)) := by
  unfold F_X1_wordsOfLiving wordsN
  refine loop_up (fun n (x : Int32 × Int32) => F_X1_wordsOfLiving_4 N (TW a) n x.1 x.2) (fun i => (nI (sumTo (fun t => cntTo (fun i => live a i && topB a i t) 6) i), nI i)) 8 _ ?_ ?_ N 0 (Nat.zero_le _) (by omega)
  · intro n t ht
    show F_X1_wordsOfLiving_4 N (TW a) (n + 1) (nI (sumTo (fun t => cntTo (fun i => live a i && topB a i t) 6) t)) (nI t) = F_X1_wordsOfLiving_4 N (TW a) n (nI (sumTo (fun t => cntTo (fun i => live a i && topB a i t) 6) t + cntTo (fun i => live a i && topB a i t) 6)) (nI (t + 1))
    rw [F_X1_wordsOfLiving_4, if_neg (by rw [q_le (by omega) (by omega)]; omega)]
    repeat rw [q_ck ht (by decide)]
    repeat rw [q_ck ht (by decide)]
    repeat rw [q_cl (by omega)]
    try rw [TW_y]
    try rw [TW_o]
    try rw [TW_l]
    rw [q_or6, q_and6, f_bc6]
    try simp only [q_bs]
    try rw [nI_add]
    try rw [nI_add]
    congr 4
    funext i
    have h1 := hg.2.2.2.2.2.1 i t
    unfold isW topB
    rcases (show aW a i t = 0 ∨ aW a i t = 1 ∨ aW a i t = 2 by omega) with e | e | e <;> rw [e] <;> cases live a i <;> rfl
  · intro n
    show F_X1_wordsOfLiving_4 N (TW a) (n + 1) _ (nI 8) = _
    rw [F_X1_wordsOfLiving_4, if_pos (by decide)]
theorem f_winters {N : Nat} (hN : 2000 ≤ N) {a : TA} (hg : Good a) : F_X3_winters N (em a) = some (em (olderA a 5)) := by
  have hn := hg.1
  unfold F_X3_winters
  have hE : em a = em (sA a (fun c => if c < 0 then (if live a c then min 99 (aA a c + 5) else aA a c) else aA a c)) := rfl
  have hX : olderA a 5 = sA a (fun c => if c < aN a then (if live a c then min 99 (aA a c + 5) else aA a c) else aA a c) := by
    unfold olderA
    refine Prod.ext rfl (Prod.ext rfl (Prod.ext rfl (Prod.ext rfl (Prod.ext (funext fun c => ?_) rfl))))
    show (if live a c then min 99 (aA a c + 5) else aA a c) = (if c < aN a then (if live a c then min 99 (aA a c + 5) else aA a c) else aA a c)
    by_cases h : c < aN a
    · rw [if_pos h]
    · rw [if_neg h, if_neg (fun e => h (live_lt e))]
  rw [hX, hE]
  refine loop_up (fun n (x : FA × Int32) => F_X3_winters_2 N n x.1 x.2) (fun i => (em (sA a (fun c => if c < i then (if live a c then min 99 (aA a c + 5) else aA a c) else aA a c)), nI i)) (aN a) _ ?_ ?_ N 0 (Nat.zero_le _) (by omega)
  · intro n i hi
    show F_X3_winters_2 N (n + 1) (em (sA a (fun c => if c < i then (if live a c then min 99 (aA a c + 5) else aA a c) else aA a c))) (nI i) = F_X3_winters_2 N n (em (sA a (fun c => if c < i + 1 then (if live a c then min 99 (aA a c + 5) else aA a c) else aA a c))) (nI (i + 1))
    rw [← updN_lt (aA a) (fun c => if live a c then min 99 (aA a c + 5) else aA a c) i]
    have hag := hg.2.2.2.2.1 i
    have hl : live a i = !aD a i := by unfold live; rw [decide_eq_true hi]; rfl
    have h2 := ix_lt (c := i) (w := 2) (by omega) (by decide)
    have main : ∀ b : TA, b = sA a (fun c => if c < i then (if live a c then min 99 (aA a c + 5) else aA a c) else aA a c) → F_X3_winters_2 N (n + 1) (em b) (nI i) = F_X3_winters_2 N n (em (sA b (updN (aA b) i (if live a i then min 99 (aA a i + 5) else aA a i)))) (nI (i + 1)) := by
      intro b e
      have hai : aA b i = aA a i := by rw [e]; exact if_neg (Nat.lt_irrefl i)
      have hnb : aN b = aN a := by rw [e]
      have hdb : aD b = aD a := by rw [e]
      rw [F_X3_winters_2]
      try rw [q_c0]
      try rw [em_0]
      rw [hnb, if_neg (by rw [q_le (by omega) (by omega)]; omega), f_isAlive N b (by omega)]
      try simp only [q_bs]
      repeat (first | rw [i_b0] | rw [i_nb0])
      rw [hdb, hl]
      unfold F_X3_winters_38
      try rw [nI_add i 1]
      cases hd : aD a i
      · rw [if_neg (by decide)]
        try rw [f_of]
        try simp only [q_bs]
        try simp only [q_bs]
        repeat rw [q_ck h2 (by decide)]
        repeat rw [q_cl (by omega)]
        try rw [em_a]
        rw [hai]
        try rw [nI_add]
        rw [f_least N (by decide) (by omega)]
        try simp only [q_bs]
        repeat rw [q_ck h2 (by decide)]
        rw [em_sA]; rfl
      · rw [if_pos (by first | rfl | decide)]
        show _ = F_X3_winters_2 N n (em (sA b (updN (aA b) i (aA a i)))) (nI (i + 1))
        rw [← hai, updN_self]
    exact main _ rfl
  · intro n
    show F_X3_winters_2 N (n + 1) (em _) (nI (aN a)) = _
    rw [F_X3_winters_2]
    try rw [q_c0]
    try rw [em_0]
    rw [show aN (sA a (fun c => if c < aN a then (if live a c then min 99 (aA a c + 5) else aA a c) else aA a c)) = aN a from rfl, if_pos (by rw [q_le (by omega) (by omega)]; exact Nat.le_refl _)]
theorem Good_older {a : TA} (h : Good a) (v : Nat) : Good (olderA a v) := by
  obtain ⟨h1, h2, h3, h4, h5, h6, h7, h8⟩ := h
  refine ⟨h1, h2, h3, h4, fun c => ?_, h6, fun c hc => ?_, h8⟩
  · show (if live a c then min 99 (aA a c + v) else aA a c) ≤ 99
    have := h5 c
    split
    · exact Nat.min_le_left _ _
    · exact this
  · obtain ⟨t1, t2, t3, t4⟩ := h7 c hc
    refine ⟨t1, t2, ?_, t4⟩
    show (if live a c then min 99 (aA a c + v) else aA a c) = 0
    have hc : aN a ≤ c := hc
    rw [if_neg (fun e => absurd (live_lt e) (by omega))]; exact t3
theorem f_copies {N : Nat} (hN : 2000 ≤ N) {a b : TA} (ha : Good a) (hb : Good b) : F_X3_copies N (em a) (em b) = some (em a) := by
  unfold F_X3_copies
  have hz : ∀ {x : TA}, Good x → ∀ k, 74 ≤ k → emN x k = 0 := by
    intro x hx k hk
    obtain ⟨t1, t2, t3, t4, t5⟩ := Good_tail hx (c := (k - 2) / 12) (by omega)
    unfold emN
    rw [if_neg (by omega), if_neg (by omega)]
    generalize (k - 2) % 12 = w
    unfold fld
    split
    · exact t1
    · exact t2
    · exact t3
    · rw [t4]; rfl
    · exact t5 _
  have hs : ∀ i, (fun k => if k < i then em a k else em b k) = (fun k => if k < i then em a k else em b k) := fun _ => rfl
  have hE : em b = (fun k => if k < 0 then em a k else em b k) := rfl
  have hX : em a = (fun k => if k < 74 then em a k else em b k) := by
    funext k
    by_cases h : k < 74
    · rw [if_pos h]
    · rw [if_neg h]
      show nI (emN a k) = nI (emN b k)
      rw [hz ha k (by omega), hz hb k (by omega)]
  rw [hE]
  conv => rhs; rw [hX]
  refine loop_up (fun n (x : FA × Int32) => F_X3_copies_2 N (em a) n x.1 x.2) (fun i => ((fun k => if k < i then em a k else em b k), nI i)) 74 _ ?_ ?_ N 0 (Nat.zero_le _) (by omega)
  · intro n i hi
    show F_X3_copies_2 N (em a) (n + 1) (fun k => if k < i then em a k else em b k) (nI i) = F_X3_copies_2 N (em a) n (fun k => if k < i + 1 then em a k else em b k) (nI (i + 1))
    rw [F_X3_copies_2, if_neg (by rw [q_le (by decide) (by omega)]; omega)]
    repeat rw [q_ck hi (by decide)]
    repeat rw [q_ck hi (by decide)]
    repeat rw [q_cl (by omega)]
    try rw [nI_add]
    congr 1
    funext k
    show (if k = i then em a i else if k < i then em a k else em b k) = if k < i + 1 then em a k else em b k
    by_cases h : k = i
    · rw [if_pos h, if_pos (by omega), h]
    · rw [if_neg h]
      by_cases h2 : k < i
      · rw [if_pos h2, if_pos (by omega)]
      · rw [if_neg h2, if_neg (by omega)]
  · intro n
    show F_X3_copies_2 N (em a) (n + 1) (fun k => if k < 74 then em a k else em b k) (nI 74) = _
    rw [F_X3_copies_2, if_pos (by decide)]
