/-! both sides, what the book is now -/
theorem msk_say (a : TA) (t w : Nat) : mskTo (saysB a t w) 6 = 0 ↔ say a t w = 0 := msk_pos
def keepN (a : TA) (t : Nat) : Nat := (if say a t 1 = 0 then 1 else 0) + (if say a t 2 = 0 then 1 else 0)
theorem s_keeps {N : Nat} (hN : 2000 ≤ N) {g : GS} {x : XS} {y : MS} (hx : XR g x) (hy : MR g y) (hg : GI g) : Same (F_X2_keeps N x) (F_X3_keeps N y) := by
  obtain ⟨mind, pr, hm, rfl⟩ := hx
  obtain ⟨m, was, pl, ma, nu, to, se, h3, h4, rfl⟩ := hy
  have hl : livN g.1 ≤ 6 := cntTo_le _ _
  unfold F_X2_keeps F_X3_keeps
  show Same ((F_X1_howManyLive N (TW g.1)).bind _) ((F_X3_livingIn N (em g.1)).bind _)
  rw [g_howMany, f_livingIn hN hg.1]
  try simp only [q_bs]
  rw [bits_liv N hN]
  try simp only [q_bs]
  rw [i_le (by decide) (by omega), i_le (by decide) (by omega)]
  by_cases h : 2 ≤ livN g.1
  · rw [if_pos h, if_pos h]
    refine ⟨nI (sumTo (keepN g.1) 8), ?_, ?_⟩
    · refine loop_up (fun n (z : Int32 × Int32) => F_X2_keeps_18 N (xs g mind pr) n z.1 z.2) (fun i => (nI (sumTo (keepN g.1) i), nI i)) 8 _ ?_ ?_ N 0 (Nat.zero_le _) (by omega)
      · intro n t ht
        show F_X2_keeps_18 N (xs g mind pr) (n + 1) (nI (sumTo (keepN g.1) t)) (nI t) = F_X2_keeps_18 N (xs g mind pr) n (nI (sumTo (keepN g.1) t + keepN g.1 t)) (nI (t + 1))
        have m1 := msk6_lt (saysB g.1 t 1)
        have m2 := msk6_lt (saysB g.1 t 2)
        have e1 := msk_say g.1 t 1
        have e2 := msk_say g.1 t 2
        rw [F_X2_keeps_18, if_neg (by rw [q_le (by omega) (by omega)]; omega)]
        unfold F_X2_keeps_38 F_X2_keeps_52
        show ((F_X1_livingYes N (TW g.1) (nI t)).bind fun r29 => if ¬ r29 = 0 then ((F_X1_livingNo N (TW g.1) (nI t)).bind _) else ((F_X1_livingNo N (TW g.1) (nI t)).bind _)) = _
        rw [g_livingYes N ht, g_livingNo N ht]
        try simp only [q_bs]
        rw [i_ne0 (by omega), i_ne0 (by omega), i_ne0 (by omega)]
        unfold keepN
        by_cases a1 : say g.1 t 1 = 0
        · rw [if_neg (fun e => e (e1.mpr a1)), if_pos a1]
          by_cases a2 : say g.1 t 2 = 0
          · rw [if_neg (fun e => e (e2.mpr a2)), if_pos a2]
            try rw [nI_add t 1]
            try rw [nI_add]
            try rw [nI_add]
          · rw [if_pos (fun e => a2 (e2.mp e)), if_neg a2]
            try rw [nI_add t 1]
            try rw [nI_add]
        · rw [if_pos (fun e => a1 (e1.mp e)), if_neg a1]
          by_cases a2 : say g.1 t 2 = 0
          · rw [if_neg (fun e => e (e2.mpr a2)), if_pos a2]
            try rw [nI_add t 1]
            try rw [nI_add]
          · rw [if_pos (fun e => a2 (e2.mp e)), if_neg a2]
            (try rw [nI_add t 1]); rfl
      · intro n
        show F_X2_keeps_18 N (xs g mind pr) (n + 1) _ (nI 8) = _
        rw [F_X2_keeps_18, if_pos (by decide)]
    · refine loop_up (fun n (z : Int32 × Int32) => F_X3_keeps_21 N (ys g m was pl ma nu to se) n z.1 z.2) (fun i => (nI (sumTo (keepN g.1) i), nI i)) 8 _ ?_ ?_ N 0 (Nat.zero_le _) (by omega)
      · intro n t ht
        show F_X3_keeps_21 N (ys g m was pl ma nu to se) (n + 1) (nI (sumTo (keepN g.1) t)) (nI t) = F_X3_keeps_21 N (ys g m was pl ma nu to se) n (nI (sumTo (keepN g.1) t + keepN g.1 t)) (nI (t + 1))
        have s1 := say_le g.1 t 1
        have s2 := say_le g.1 t 2
        rw [F_X3_keeps_21, if_neg (by rw [q_le (by omega) (by omega)]; omega)]
        unfold F_X3_keeps_70
        show ((F_X3_isWritten N (em g.1) (nI t)).bind fun r33 => if r33 = 0 then ((F_X3_saying N (em g.1) (nI t) (nI 1)).bind fun r49 => (F_X3_saying N (em g.1) (nI t) (nI 2)).bind _) else _) = _
        rw [f_isWritten hN hg.1 ht]
        try simp only [q_bs]
        rw [f_saying hN hg.1 ht (by decide), f_saying hN hg.1 ht (by decide)]
        try simp only [q_bs]
        repeat (first | rw [i_b0] | rw [i_nb0])
        try rw [nI_add (say g.1 t 1)]
        rw [i_ne0 (by omega)]
        unfold keepN wrt
        by_cases a1 : say g.1 t 1 = 0
        · rw [decide_eq_false (show ¬ 0 < say g.1 t 1 by omega), if_pos (by first | rfl | decide), if_pos a1]
          by_cases a2 : say g.1 t 2 = 0
          · rw [if_neg (fun e => e (by omega)), if_pos a2]
            try rw [nI_add t 1]
            try rw [nI_add]
          · rw [if_pos (show ¬ say g.1 t 1 + say g.1 t 2 = 0 by omega), if_neg a2]
            try rw [nI_add t 1]
            try rw [nI_add]
        · rw [decide_eq_true (show 0 < say g.1 t 1 by omega), if_neg a1]
          by_cases a2 : say g.1 t 2 = 0
          · rw [decide_eq_false (show ¬ 0 < say g.1 t 2 by omega), if_pos (by first | rfl | decide), if_pos (show ¬ say g.1 t 1 + say g.1 t 2 = 0 by omega), if_pos a2]
            try rw [nI_add t 1]
            try rw [nI_add]
          · rw [decide_eq_true (show 0 < say g.1 t 2 by omega), if_neg (by decide), if_neg a2]
            try rw [nI_add t 1]
            try rw [nI_add]
      · intro n
        show F_X3_keeps_21 N (ys g m was pl ma nu to se) (n + 1) _ (nI 8) = _
        rw [F_X3_keeps_21, if_pos (by decide)]
  · rw [if_neg h, if_neg h]
    exact ⟨_, rfl, rfl⟩
def lessN (a : TA) (t : Nat) : Nat := min (say a t 1) (say a t 2)
theorem x_fewest {N : Nat} (hN : 2000 ≤ N) (g : GS) (mind : TA) (pr : FA) : F_X2_fewestAgainstMost N (xs g mind pr) = some (nI (sumTo (lessN g.1) 8)) := by
  unfold F_X2_fewestAgainstMost
  refine loop_up (fun n (z : Int32 × Int32) => F_X2_fewestAgainstMost_4 N (xs g mind pr) n z.1 z.2) (fun i => (nI (sumTo (lessN g.1) i), nI i)) 8 _ ?_ ?_ N 0 (Nat.zero_le _) (by omega)
  · intro n t ht
    show F_X2_fewestAgainstMost_4 N (xs g mind pr) (n + 1) (nI (sumTo (lessN g.1) t)) (nI t) = F_X2_fewestAgainstMost_4 N (xs g mind pr) n (nI (sumTo (lessN g.1) t + lessN g.1 t)) (nI (t + 1))
    have s1 := say_le g.1 t 1
    have s2 := say_le g.1 t 2
    rw [F_X2_fewestAgainstMost_4, if_neg (by rw [q_le (by omega) (by omega)]; omega)]
    show ((F_X1_livingYes N (TW g.1) (nI t)).bind fun r16 => (F_J6_bitCount_0f7a4 N r16).bind fun r19 => (F_X1_livingNo N (TW g.1) (nI t)).bind _) = _
    rw [g_livingYes N ht, g_livingNo N ht]
    try simp only [q_bs]
    rw [f_bc6, f_bc6]
    try simp only [q_bs]
    show F_X2_fewestAgainstMost_4 N (xs g mind pr) n (nI (sumTo (lessN g.1) t) + (if nI (say g.1 t 2) < nI (say g.1 t 1) then nI (say g.1 t 2) else nI (say g.1 t 1))) (nI t + nI 1) = _
    rw [i_lt (by omega) (by omega)]
    try rw [nI_add t 1]
    unfold lessN
    by_cases h : say g.1 t 2 < say g.1 t 1
    · rw [if_pos h, Nat.min_eq_right (by omega)]
      try rw [nI_add]
    · rw [if_neg h, Nat.min_eq_left (by omega)]
      try rw [nI_add]
  · intro n
    show F_X2_fewestAgainstMost_4 N (xs g mind pr) (n + 1) _ (nI 8) = _
    rw [F_X2_fewestAgainstMost_4, if_pos (by decide)]
theorem y_lesser {N : Nat} (hN : 2000 ≤ N) {g : GS} (hg : GI g) (m was : TA) (pl ma : Int32) (nu to : FA) (se : Int32) : F_X3_lesserAll N (ys g m was pl ma nu to se) = some (nI (sumTo (lessN g.1) 8)) := by
  unfold F_X3_lesserAll
  refine loop_up (fun n (z : Int32 × Int32) => F_X3_lesserAll_4 N (ys g m was pl ma nu to se) n z.1 z.2) (fun i => (nI (sumTo (lessN g.1) i), nI i)) 8 _ ?_ ?_ N 0 (Nat.zero_le _) (by omega)
  · intro n t ht
    show F_X3_lesserAll_4 N (ys g m was pl ma nu to se) (n + 1) (nI (sumTo (lessN g.1) t)) (nI t) = F_X3_lesserAll_4 N (ys g m was pl ma nu to se) n (nI (sumTo (lessN g.1) t + lessN g.1 t)) (nI (t + 1))
    have s1 := say_le g.1 t 1
    have s2 := say_le g.1 t 2
    rw [F_X3_lesserAll_4, if_neg (by rw [q_le (by omega) (by omega)]; omega)]
    show ((F_X3_saying N (em g.1) (nI t) (nI 1)).bind fun r17 => (F_X3_saying N (em g.1) (nI t) (nI 2)).bind _) = _
    rw [f_saying hN hg.1 ht (by decide), f_saying hN hg.1 ht (by decide)]
    try simp only [q_bs]
    rw [f_least N (by omega) (by omega)]
    try simp only [q_bs]
    try rw [nI_add t 1]
    try rw [nI_add]
    rfl
  · intro n
    show F_X3_lesserAll_4 N (ys g m was pl ma nu to se) (n + 1) _ (nI 8) = _
    rw [F_X3_lesserAll_4, if_pos (by decide)]
theorem s_gives {N : Nat} (hN : 2000 ≤ N) {g : GS} {x : XS} {y : MS} (hx : XR g x) (hy : MR g y) (hg : GI g) : Same (F_X2_gives N x) (F_X3_gives N y) := by
  obtain ⟨mind, pr, hm, rfl⟩ := hx
  obtain ⟨m, was, pl, ma, nu, to, se, h3, h4, rfl⟩ := hy
  unfold F_X2_gives F_X3_gives
  rw [x_fewest hN, y_lesser hN hg]
  exact ⟨_, rfl, rfl⟩
theorem m1_neg : ((-1 : Int32) < 0) := by decide
theorem ne_m1 {j : Nat} (hj : j < 2147483648) : ¬ nI j = -1 := fun e => nI_pos hj (by rw [e]; decide)
theorem s_so {N : Nat} (hN : 2000 ≤ N) {g : GS} {x : XS} {y : MS} (hx : XR g x) (hy : MR g y) (hg : GI g) (p : Int32) : Both (F_X2_so N x p) (F_X3_so N y p) := by
  have hno := both_no N hx hy hg c1
  unfold F_X2_so F_X3_so F_X3_so_18
  by_cases hp1 : p = -1
  · subst hp1
    obtain ⟨mind, pr, hm, rfl⟩ := hx
    obtain ⟨m, was, pl, ma, nu, to, se, h3, h4, rfl⟩ := hy
    rw [if_neg (fun e => e rfl), if_pos (by first | rfl | decide), if_neg (by decide), x_fewest hN, y_lesser hN hg]
    exact ⟨_, g, _, _, rfl, rfl, XR.mk mind pr hm rfl, MR.mk m was pl ma nu to se h3 h4 rfl, hg⟩
  · rw [if_pos hp1, if_neg hp1]
    rcases arg_cases p with hp | ⟨t, ht, rfl⟩
    · rw [g_noTopic_neg N hp, f_isTopic_neg N hp]; exact hno
    · rw [g_noTopic N ht, f_isTopic N ht]
      try simp only [q_bs]
      repeat (first | rw [i_b0] | rw [i_nb0])
      by_cases h : t < 8
      · obtain ⟨mind, pr, hm, rfl⟩ := hx
        obtain ⟨m, was, pl, ma, nu, to, se, h3, h4, rfl⟩ := hy
        have s1 := say_le g.1 t 1
        have s2 := say_le g.1 t 2
        have fin : ∀ v : Int32, Both (some (v, xs g mind pr)) (some (v, ys g m was pl ma nu to se)) := fun v => ⟨v, g, _, _, rfl, rfl, XR.mk mind pr hm rfl, MR.mk m was pl ma nu to se h3 h4 rfl, hg⟩
        rw [decide_eq_true h, if_pos (by first | rfl | decide), if_pos (by decide)]
        rw [i_ge0 ht]
        rw [if_pos trivial]
        show Both ((F_X1_livingYes N (TW g.1) (nI t)).bind fun r28 => (F_J6_bitCount_0f7a4 N r28).bind fun r31 => (F_X1_livingNo N (TW g.1) (nI t)).bind fun r40 => (F_J6_bitCount_0f7a4 N r40).bind fun r43 => if ¬ (r31 + r43) = 0 then (if r31 < r43 then some (nI 2, xs g mind pr) else some (nI 1, xs g mind pr)) else some (nI 0, xs g mind pr)) ((F_X3_saying N (em g.1) (nI t) (nI 1)).bind fun r33 => (F_X3_saying N (em g.1) (nI t) (nI 2)).bind fun r43 => if ¬ (r33 + r43) = 0 then (if r33 < r43 then some (nI 2, ys g m was pl ma nu to se) else some (nI 1, ys g m was pl ma nu to se)) else some (nI 0, ys g m was pl ma nu to se))
        rw [g_livingYes N h, g_livingNo N h]
        try simp only [q_bs]
        rw [f_bc6, f_bc6]
        try simp only [q_bs]
        rw [f_saying hN hg.1 h (by decide), f_saying hN hg.1 h (by decide)]
        try simp only [q_bs]
        show Both (if ¬ (nI (say g.1 t 1) + nI (say g.1 t 2)) = 0 then (if nI (say g.1 t 1) < nI (say g.1 t 2) then some (nI 2, xs g mind pr) else some (nI 1, xs g mind pr)) else some (nI 0, xs g mind pr)) _
        by_cases e1 : nI (say g.1 t 1) + nI (say g.1 t 2) = 0
        · rw [if_neg (fun e => e e1), if_neg (fun e => e e1)]; exact fin _
        · rw [if_pos e1, if_pos e1]
          by_cases e2 : nI (say g.1 t 1) < nI (say g.1 t 2)
          · rw [if_pos e2, if_pos e2]; exact fin _
          · rw [if_neg e2, if_neg e2]; exact fin _
      · rw [decide_eq_false h, if_neg (by decide), if_neg (by decide)]; exact hno
theorem y_lastsIn {N : Nat} (hN : 2000 ≤ N) (g : GS) {a : TA} (ha : Good a) (hy : aY a < 90000) (was : TA) (pl ma : Int32) (nu to : FA) (se : Int32) {set : Nat} (hs : set < 256) (cond : TA → Bool) (hc : ∀ b, (book b &&& set = 0) ↔ cond b = false) : ∃ b, Good b ∧ F_X3_lastsIn N (ys g a was pl ma nu to se) (nI set) = some (ansN (goTo cond a 61 0), ys g b was pl ma nu to se) := by
  unfold F_X3_lastsIn
  have key : ∀ k n q, n + k = 61 → k < q → ∃ b, Good b ∧ F_X3_lastsIn_2 N q (ys g (yearsF a n) was pl ma nu to se) (nI set) (nI n) = some (ansN (goTo cond a k n), ys g b was pl ma nu to se) := by
    intro k
    induction k with
    | zero =>
      intro n q hnk hq
      obtain ⟨q, rfl⟩ : ∃ z, q = z + 1 := ⟨q - 1, by omega⟩
      refine ⟨yearsF a n, Good_years ha n (by omega), ?_⟩
      rw [F_X3_lastsIn_2, if_pos (by rw [q_lt (by omega) (by omega)]; omega)]
      show some (-9, _) = some (ansN n, _)
      unfold ansN
      rw [if_neg (by omega)]
    | succ k ih =>
      intro n q hnk hq
      obtain ⟨q, rfl⟩ : ∃ z, q = z + 1 := ⟨q - 1, by omega⟩
      have hG := Good_years ha n (by omega)
      have hb : book (yearsF a n) < 256 := msk8_lt _
      have hl : book (yearsF a n) &&& set < 256 := Nat.lt_of_le_of_lt Nat.and_le_left hb
      rw [F_X3_lastsIn_2, if_neg (by rw [q_lt (by omega) (by omega)]; omega)]
      show ∃ b, Good b ∧ ((F_X3_writtenIn N (em (yearsF a n))).bind fun r12 => if ¬ (r12 &&& nI set) = 0 then ((F_X3_year N (em (yearsF a n))).bind fun r26 => F_X3_lastsIn_2 N q (em g.1, r26.2, (ys g a was pl ma nu to se).2.2) (nI set) (nI n + nI 1)) else some (nI n, ys g (yearsF a n) was pl ma nu to se)) = some (ansN (if cond (yearsF a n) then goTo cond a k (n + 1) else n), ys g b was pl ma nu to se)
      rw [f_writtenIn hN hG]
      try simp only [q_bs]
      rw [f_year hN hG (by rw [(yearsF_n a n).2]; omega)]
      try simp only [q_bs]
      rw [q_and]
      try rw [nI_add]
      rw [i_ne0 (by omega)]
      cases hcb : cond (yearsF a n)
      · have := (hc (yearsF a n)).mpr hcb
        rw [if_neg (fun e => e this), if_neg (by decide)]
        refine ⟨yearsF a n, hG, ?_⟩
        unfold ansN
        rw [if_pos (show n ≤ 60 by omega)]
      · have h0 : ¬ book (yearsF a n) &&& set = 0 := fun e => by
          have := (hc (yearsF a n)).mp e
          rw [hcb] at this; cases this
        rw [if_pos h0, if_pos (by first | rfl | decide)]
        exact ih (n + 1) q (by omega) (by omega)
  exact key 61 0 N (by omega) (by omega)
theorem book_bit (b : TA) {t : Nat} (ht : t < 8) : (book b &&& 2 ^ t = 0) ↔ wrt b t = false := by
  have e : (book b).testBit t = wrt b t := by unfold book; rw [mskTo_bit, decide_eq_true ht]; rfl
  constructor
  · intro h
    have := congrArg (fun z => z.testBit t) h
    simp only [Nat.testBit_and, e, Nat.testBit_two_pow_self, Bool.and_true, Nat.zero_testBit] at this
    exact this
  · intro h
    apply Nat.eq_of_testBit_eq
    intro i
    rw [Nat.testBit_and, Nat.testBit_two_pow, Nat.zero_testBit]
    by_cases hi : t = i
    · subst hi; rw [e, h]; rfl
    · rw [decide_eq_false hi]; simp
theorem y_lastsT {N : Nat} (hN : 2000 ≤ N) (g : GS) {a : TA} (ha : Good a) (hy : aY a < 90000) (was : TA) (pl ma : Int32) (nu to : FA) (se : Int32) {t : Nat} (ht : t < 8) : ∃ b, Good b ∧ F_X3_lastsIn N (ys g a was pl ma nu to se) ((nI 1) <<< (nI t &&& 31)) = some (ansN (endN a t), ys g b was pl ma nu to se) := by
  have hp : 2 ^ t < 256 := Nat.pow_lt_pow_right (by decide) ht (m := t) (n := 8) (a := 2)
  obtain ⟨b, hb, e⟩ := y_lastsIn hN g ha hy was pl ma nu to se hp (fun b => wrt b t) (fun b => book_bit b ht)
  refine ⟨b, hb, ?_⟩
  rw [q_shl (by omega), e]
  unfold endN
  rw [endTo_go]
theorem y_lastsOf {N : Nat} (hN : 2000 ≤ N) {g : GS} (hg : GI g) {m : TA} (hm : Good m) (was : TA) (pl ma : Int32) (nu to : FA) (se : Int32) {t : Nat} (ht : t < 8) : ∃ b, Good b ∧ F_X3_lastsOf N (ys g m was pl ma nu to se) (nI t) = some (ansN (endN g.1 t), ys g b was pl ma nu to se) := by
  have h9 := hg.2.1
  unfold F_X3_lastsOf
  obtain ⟨b, hb, e⟩ := y_lastsT hN g hg.1 (by omega) was pl ma nu to se ht
  refine ⟨b, hb, ?_⟩
  show ((F_X3_copies N (em g.1) (em m)).bind fun r8 => (F_X3_lastsIn N (em g.1, r8, (ys g m was pl ma nu to se).2.2) ((nI 1) <<< (nI t &&& 31))).bind fun r15 => some (r15.1, r15.2)) = _
  rw [f_copies hN hg.1 hm]
  try simp only [q_bs]
  show (F_X3_lastsIn N (ys g g.1 was pl ma nu to se) ((nI 1) <<< (nI t &&& 31))).bind _ = _
  rw [e]
  try simp only [q_bs]
theorem s_lasts {N : Nat} (hN : 2000 ≤ N) {g : GS} {x : XS} {y : MS} (hx : XR g x) (hy : MR g y) (hg : GI g) (p : Int32) : Both (F_X2_lasts N x p) (F_X3_lasts N y p) := by
  have hno := both_no N hx hy hg c1
  have h9 := hg.2.1
  unfold F_X2_lasts F_X3_lasts
  rcases arg_cases p with hp | ⟨t, ht, rfl⟩
  · rw [g_noTopic_neg N hp, f_isTopic_neg N hp]; exact hno
  · rw [g_noTopic N ht, f_isTopic N ht]
    try simp only [q_bs]
    repeat (first | rw [i_b0] | rw [i_nb0])
    by_cases h : t < 8
    · obtain ⟨mind, pr, hm, rfl⟩ := hx
      obtain ⟨m, was, pl, ma, nu, to, se, h3, h4, rfl⟩ := hy
      obtain ⟨b, hb, e⟩ := y_lastsOf hN hg h3 was pl ma nu to se h
      obtain ⟨b2, hb2, e2⟩ := g_endOf hN hg.1 h (by omega)
      have hle := endN_le g.1 t
      rw [decide_eq_true h, if_pos (by first | rfl | decide), if_neg (by decide), e]
      show Both ((F_X1_become N (TW mind) (TW g.1)).bind fun r21 => (F_X1_endOf N r21 (nI t)).bind fun r29 => if r29.1 ≤ nI 60 then some (r29.1, (TW g.1, r29.2, (xs g mind pr).2.2)) else some (-9, (TW g.1, r29.2, (xs g mind pr).2.2))) _
      rw [g_become N hm hg.1]
      try simp only [q_bs]
      rw [e2]
      try simp only [q_bs]
      rw [i_le (by omega) (by decide)]
      refine ⟨ansN (endN g.1 t), g, xs g b2 pr, ys g b was pl ma nu to se, ?_, rfl, XR.mk b2 pr hb2 rfl, MR.mk b was pl ma nu to se hb h4 rfl, hg⟩
      unfold ansN
      by_cases h6 : endN g.1 t ≤ 60
      · rw [if_pos h6, if_pos h6]
      · rw [if_neg h6, if_neg h6]
    · rw [decide_eq_false h, if_neg (by decide), if_pos (by first | rfl | decide)]; exact hno
