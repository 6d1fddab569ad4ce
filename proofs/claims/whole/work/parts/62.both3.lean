theorem s_citizen {N : Nat} (hN : 2000 ≤ N) {g : GS} {x : XS} {y : MS} (hx : XR g x) (hy : MR g y) (hg : GI g) (p q : Int32) : Both (F_X2_citizen N x p q) (F_X3_citizen N y p q) := by
  have hno1 := both_no N hx hy hg c1
  have hno2 := both_no N hx hy hg c2
  unfold F_X2_citizen F_X3_citizen
  have hn := hg.1.1
  rcases arg_cases p with hp | ⟨j, hj, rfl⟩
  · rw [x_noCit_neg N x hp, f_isCit_neg N y hp]; exact hno1
  · obtain ⟨mind, pr, hm, rfl⟩ := hx
    obtain ⟨m, was, pl, ma, nu, to, se, h3, h4, rfl⟩ := hy
    rw [x_noCit N g mind pr hg hj, f_isCit N _ g.1 rfl hg.1 hj]
    simp (disch := omega) only [k_0, k_1, k_2, k_3, k_4, k_6, Nat.reduceEqDiff, Nat.reduceLeDiff, Nat.reduceLT, q_le, q_lt, q_eq, q_lt0, q_ge0, q_eq0, q_gt0, q_le0, q_b0, q_ck, q_cl, nI_add, q_bs, ↓reduceIte, not_true_eq_false, not_false_eq_true, Bool.false_eq_true, reduceCtorEq, Bool.not_eq_false', decide_eq_false_iff_not, decide_eq_true_eq, Bool.not_false, Bool.not_true]
    by_cases h : j < aN g.1
    · simp only [k_0, k_1, k_2, k_3, k_4, k_6, Nat.reduceEqDiff, Nat.reduceLeDiff, Nat.reduceLT, q_bs, ↓reduceIte, not_true_eq_false, not_false_eq_true, Bool.false_eq_true, reduceCtorEq, h]
      have fin : ∀ v : Int32, Both (some (v, xs g mind pr)) (some (v, ys g m was pl ma nu to se)) := fun v => ⟨v, g, _, _, rfl, rfl, XR.mk mind pr hm rfl, MR.mk m was pl ma nu to se h3 h4 rfl, hg⟩
      have w0 := ix_lt (c := j) (w := 0) (by omega) (by decide)
      have w1 := ix_lt (c := j) (w := 1) (by omega) (by decide)
      have w2 := ix_lt (c := j) (w := 2) (by omega) (by decide)
      have w3 := ix_lt (c := j) (w := 3) (by omega) (by decide)
      rcases arg_cases q with hq | ⟨k, hk, rfl⟩
      · rw [f_isIn_neg N (by decide) hq]
        simp only [k_0, k_1, k_2, k_3, k_4, k_6, Nat.reduceEqDiff, Nat.reduceLeDiff, Nat.reduceLT, q_bs, ↓reduceIte, not_true_eq_false, not_false_eq_true, Bool.false_eq_true, reduceCtorEq, neg_ne hq (show 0 < 2147483648 by decide), neg_ne hq (show 1 < 2147483648 by decide), neg_ne hq (show 2 < 2147483648 by decide), neg_ne hq (show 3 < 2147483648 by decide), neg_ne hq (show 4 < 2147483648 by decide), neg_ne hq (show 5 < 2147483648 by decide)]
        exact hno2
      · rw [f_isIn N hk (by decide) (by decide)]
        simp (disch := omega) only [k_0, k_1, k_2, k_3, k_4, k_6, Nat.reduceEqDiff, Nat.reduceLeDiff, Nat.reduceLT, q_le, q_lt, q_eq, q_lt0, q_ge0, q_eq0, q_gt0, q_le0, q_b0, q_ck, q_cl, nI_add, q_bs, ↓reduceIte, not_true_eq_false, not_false_eq_true, Bool.false_eq_true, reduceCtorEq, Bool.not_eq_false', decide_eq_false_iff_not, decide_eq_true_eq, Bool.not_false, Bool.not_true]
        by_cases k0 : k = 0
        · subst k0
          simp (disch := omega) only [k_0, k_1, k_2, k_3, k_4, k_6, Nat.reduceEqDiff, Nat.reduceLeDiff, Nat.reduceLT, q_le, q_lt, q_eq, q_lt0, q_ge0, q_eq0, q_gt0, q_le0, q_b0, q_ck, q_cl, nI_add, q_bs, ↓reduceIte, not_true_eq_false, not_false_eq_true, Bool.false_eq_true, reduceCtorEq, Bool.not_eq_false', decide_eq_false_iff_not, decide_eq_true_eq, Bool.not_false, Bool.not_true, f_of, Nat.le_refl, Nat.zero_le, and_self]
          show Both (some (nI (aK g.1 j), _)) (some (em g.1 (ix j 0), _))
          (try rw [em_k]); exact fin _
        by_cases k1 : k = 1
        · subst k1
          simp (disch := omega) only [k_0, k_1, k_2, k_3, k_4, k_6, Nat.reduceEqDiff, Nat.reduceLeDiff, Nat.reduceLT, q_le, q_lt, q_eq, q_lt0, q_ge0, q_eq0, q_gt0, q_le0, q_b0, q_ck, q_cl, nI_add, q_bs, ↓reduceIte, not_true_eq_false, not_false_eq_true, Bool.false_eq_true, reduceCtorEq, Bool.not_eq_false', decide_eq_false_iff_not, decide_eq_true_eq, Bool.not_false, Bool.not_true, f_of, Nat.le_refl, Nat.zero_le, and_self]
          show Both (some (nI (aF g.1 j), _)) (some (em g.1 (ix j 1), _))
          (try rw [em_f]); exact fin _
        by_cases k2 : k = 2
        · subst k2
          simp (disch := omega) only [k_0, k_1, k_2, k_3, k_4, k_6, Nat.reduceEqDiff, Nat.reduceLeDiff, Nat.reduceLT, q_le, q_lt, q_eq, q_lt0, q_ge0, q_eq0, q_gt0, q_le0, q_b0, q_ck, q_cl, nI_add, q_bs, ↓reduceIte, not_true_eq_false, not_false_eq_true, Bool.false_eq_true, reduceCtorEq, Bool.not_eq_false', decide_eq_false_iff_not, decide_eq_true_eq, Bool.not_false, Bool.not_true, f_of, Nat.le_refl, Nat.zero_le, and_self]
          show Both (some (nI (aA g.1 j), _)) (some (em g.1 (ix j 2), _))
          (try rw [em_a]); exact fin _
        by_cases k3 : k = 3
        · subst k3
          have hl : live g.1 j = !aD g.1 j := by unfold live; rw [decide_eq_true h]; rfl
          rw [g_isLiving N hg.1 hj]
          simp (disch := omega) only [k_0, k_1, k_2, k_3, k_4, k_6, Nat.reduceEqDiff, Nat.reduceLeDiff, Nat.reduceLT, q_le, q_lt, q_eq, q_lt0, q_ge0, q_eq0, q_gt0, q_le0, q_b0, q_ck, q_cl, nI_add, q_bs, ↓reduceIte, not_true_eq_false, not_false_eq_true, Bool.false_eq_true, reduceCtorEq, Bool.not_eq_false', decide_eq_false_iff_not, decide_eq_true_eq, Bool.not_false, Bool.not_true, f_of, Nat.le_refl, Nat.zero_le, and_self]
          show Both _ (some (em g.1 (ix j 3), _))
          try rw [em_d]
          rw [hl]
          cases aD g.1 j
          · simp (disch := omega) only [k_0, k_1, k_2, k_3, k_4, k_6, Nat.reduceEqDiff, Nat.reduceLeDiff, Nat.reduceLT, q_le, q_lt, q_eq, q_lt0, q_ge0, q_eq0, q_gt0, q_le0, q_b0, q_ck, q_cl, nI_add, q_bs, ↓reduceIte, not_true_eq_false, not_false_eq_true, Bool.false_eq_true, reduceCtorEq, Bool.not_eq_false', decide_eq_false_iff_not, decide_eq_true_eq, Bool.not_false, Bool.not_true]; exact fin _
          · simp (disch := omega) only [k_0, k_1, k_2, k_3, k_4, k_6, Nat.reduceEqDiff, Nat.reduceLeDiff, Nat.reduceLT, q_le, q_lt, q_eq, q_lt0, q_ge0, q_eq0, q_gt0, q_le0, q_b0, q_ck, q_cl, nI_add, q_bs, ↓reduceIte, not_true_eq_false, not_false_eq_true, Bool.false_eq_true, reduceCtorEq, Bool.not_eq_false', decide_eq_false_iff_not, decide_eq_true_eq, Bool.not_false, Bool.not_true]; exact fin _
        simp only [k_0, k_1, k_2, k_3, k_4, k_6, Nat.reduceEqDiff, Nat.reduceLeDiff, Nat.reduceLT, q_bs, ↓reduceIte, not_true_eq_false, not_false_eq_true, Bool.false_eq_true, reduceCtorEq, k0, k1, k2, k3, show ¬ (0 ≤ k ∧ k ≤ 3) by omega]
        by_cases k4 : k = 4
        · subst k4
          rw [g_lifeOf N hg.1 (by omega)]
          simp (disch := omega) only [k_0, k_1, k_2, k_3, k_4, k_6, Nat.reduceEqDiff, Nat.reduceLeDiff, Nat.reduceLT, q_le, q_lt, q_eq, q_lt0, q_ge0, q_eq0, q_gt0, q_le0, q_b0, q_ck, q_cl, nI_add, q_bs, ↓reduceIte, not_true_eq_false, not_false_eq_true, Bool.false_eq_true, reduceCtorEq, Bool.not_eq_false', decide_eq_false_iff_not, decide_eq_true_eq, Bool.not_false, Bool.not_true, f_of]
          show Both _ ((F_X3_life N (em g.1 (ix j 0)) (em g.1 (ix j 1))).bind _)
          try rw [em_k]
          try rw [em_f]
          rw [f_life N (hg.1.2.2.1 j)]
          (try simp only [q_bs]); exact fin _
        by_cases k5 : k = 5
        · subst k5
          simp only [k_0, k_1, k_2, k_3, k_4, k_6, Nat.reduceEqDiff, Nat.reduceLeDiff, Nat.reduceLT, q_bs, ↓reduceIte, not_true_eq_false, not_false_eq_true, Bool.false_eq_true, reduceCtorEq]
          rw [g_top hN hg.1 (by omega)]
          try simp only [q_bs]
          show Both _ ((F_X3_wordsOf N (em g.1) (nI j)).bind _)
          rw [f_top hN hg.1 (by omega)]
          (try simp only [q_bs]); exact fin _
        simp only [k_0, k_1, k_2, k_3, k_4, k_6, Nat.reduceEqDiff, Nat.reduceLeDiff, Nat.reduceLT, q_bs, ↓reduceIte, not_true_eq_false, not_false_eq_true, Bool.false_eq_true, reduceCtorEq, k4, k5]
        exact hno2
    · simp only [k_0, k_1, k_2, k_3, k_4, k_6, Nat.reduceEqDiff, Nat.reduceLeDiff, Nat.reduceLT, q_bs, ↓reduceIte, not_true_eq_false, not_false_eq_true, Bool.false_eq_true, reduceCtorEq, h]; exact hno1
theorem bits_book (N : Nat) (hN : 2000 ≤ N) (a : TA) : F_X3_bits N (nI (book a)) = some (nI (bookN a)) := by
  have : book a < 256 := msk8_lt _
  rw [f_bits hN (by omega)]
  unfold book
  rw [pop8_msk8]; rfl
theorem bits_liv (N : Nat) (hN : 2000 ≤ N) (a : TA) : F_X3_bits N (nI (liv a)) = some (nI (livN a)) := by
  have : liv a < 64 := msk6_lt _
  rw [f_bits hN (by omega)]
  unfold liv
  rw [pop8_msk6]; rfl
theorem s_years {N : Nat} (hN : 2000 ≤ N) {g : GS} {x : XS} {y : MS} (hx : XR g x) (hy : MR g y) (hg : GI g) (p : Int32) : Both (F_X2_years N x p) (F_X3_years N y p) := by
  have hno4 := both_no N hx hy hg c4
  have hno6 := both_no N hx hy hg c6
  unfold F_X2_years F_X3_years F_X3_years_32
  rcases arg_cases p with hp | ⟨j, hj, rfl⟩
  · rw [if_neg (neg_nle hp (by decide)), if_neg (neg_nle hp (by decide))]; exact hno4
  · simp (disch := omega) only [k_0, k_1, k_2, k_3, k_4, k_6, Nat.reduceEqDiff, Nat.reduceLeDiff, Nat.reduceLT, q_le, q_lt, q_eq, q_lt0, q_ge0, q_eq0, q_gt0, q_le0, q_b0, q_ck, q_cl, nI_add, q_bs, ↓reduceIte, not_true_eq_false, not_false_eq_true, Bool.false_eq_true, reduceCtorEq, Bool.not_eq_false', decide_eq_false_iff_not, decide_eq_true_eq, Bool.not_false, Bool.not_true]
    by_cases h1 : 1 ≤ j
    · simp only [k_0, k_1, k_2, k_3, k_4, k_6, Nat.reduceEqDiff, Nat.reduceLeDiff, Nat.reduceLT, q_bs, ↓reduceIte, not_true_eq_false, not_false_eq_true, Bool.false_eq_true, reduceCtorEq, h1]
      obtain ⟨mind, pr, hm, rfl⟩ := hx
      obtain ⟨m, was, pl, ma, nu, to, se, h3, h4, rfl⟩ := hy
      have hy9 := hg.2.1
      by_cases h2 : 60 < j
      · have e : F_X1_spend N (xs g mind pr).1 (nI j) = some (nI 0, TW g.1) := by
          unfold F_X1_spend
          simp (disch := omega) only [k_0, k_1, k_2, k_3, k_4, k_6, Nat.reduceEqDiff, Nat.reduceLeDiff, Nat.reduceLT, q_le, q_lt, q_eq, q_lt0, q_ge0, q_eq0, q_gt0, q_le0, q_b0, q_ck, q_cl, nI_add, q_bs, ↓reduceIte, not_true_eq_false, not_false_eq_true, Bool.false_eq_true, reduceCtorEq, Bool.not_eq_false', decide_eq_false_iff_not, decide_eq_true_eq, Bool.not_false, Bool.not_true, h2, show ¬ j < 1 by omega]
        rw [e]
        simp only [k_0, k_1, k_2, k_3, k_4, k_6, Nat.reduceEqDiff, Nat.reduceLeDiff, Nat.reduceLT, q_bs, ↓reduceIte, not_true_eq_false, not_false_eq_true, Bool.false_eq_true, reduceCtorEq, h2]
        exact hno6
      · simp only [k_0, k_1, k_2, k_3, k_4, k_6, Nat.reduceEqDiff, Nat.reduceLeDiff, Nat.reduceLT, q_bs, ↓reduceIte, not_true_eq_false, not_false_eq_true, Bool.false_eq_true, reduceCtorEq, h2]
        show Both ((F_X1_spend N (TW g.1) (nI j)).bind _) (if em g.1 (nI 1).toNatClampNeg + nI j ≤ nI 999 then (F_X3_yearsOn N (em g.1) (nI j)).bind _ else _)
        rw [g_spend hN hg.1 (by omega) hy9]
        try simp only [q_bs]
        try rw [q_c1]
        try rw [em_1]
        try rw [nI_add]
        rw [i_le (by omega) (by decide)]
        by_cases h5 : aY g.1 + j ≤ 999
        · have hG := Good_years hg.1 j (by omega)
          have hYj : aY (yearsF g.1 j) = aY g.1 + j := (yearsF_n g.1 j).2
          rw [if_pos (show 1 ≤ j ∧ j ≤ 60 ∧ aY g.1 + j ≤ 999 by omega), if_pos h5]
          simp only [k_0, k_1, k_2, k_3, k_4, k_6, Nat.reduceEqDiff, Nat.reduceLeDiff, Nat.reduceLT, q_bs, ↓reduceIte, not_true_eq_false, not_false_eq_true, Bool.false_eq_true, reduceCtorEq, k_7]
          rw [f_yearsOn hN hg.1 (by omega) (by omega)]
          try simp only [q_bs]
          rw [f_writtenIn hN hG]
          try simp only [q_bs]
          rw [bits_book N hN]
          try simp only [q_bs]
          show Both ((F_X1_bookSize N (TW (yearsF g.1 j))).bind _) _
          rw [g_bookSize hN]
          try simp only [q_bs]
          exact ⟨_, gN g (yearsF g.1 j), _, _, rfl, rfl, XR.mk mind pr hm rfl, MR.mk m was pl ma nu to se h3 h4 rfl, hg.now hG (by omega)⟩
        · rw [if_neg (show ¬ (1 ≤ j ∧ j ≤ 60 ∧ aY g.1 + j ≤ 999) by omega), if_neg h5, if_neg (fun e => e rfl)]
          exact hno6
    · simp only [k_0, k_1, k_2, k_3, k_4, k_6, Nat.reduceEqDiff, Nat.reduceLeDiff, Nat.reduceLT, q_bs, ↓reduceIte, not_true_eq_false, not_false_eq_true, Bool.false_eq_true, reduceCtorEq, h1]; exact hno4
theorem s_count {N : Nat} (hN : 2000 ≤ N) {g : GS} {x : XS} {y : MS} (hx : XR g x) (hy : MR g y) (hg : GI g) (p : Int32) : Same (F_X2_count N x p) (F_X3_count N y p) := by
  obtain ⟨mind, pr, hm, rfl⟩ := hx
  obtain ⟨m, was, pl, ma, nu, to, se, h3, h4, rfl⟩ := hy
  have hn := hg.1.1
  unfold F_X2_count F_X3_count F_X2_count_22 F_X3_count_72
  rcases arg_cases p with hp | ⟨j, hj, rfl⟩
  · rw [f_isIn_neg N (by decide) hp]
    try simp only [q_bs]
    rw [if_pos (show (nI 0 : Int32) = 0 from rfl), if_pos (neg_lt hp (show 11 < 2147483648 by decide))]
    rw [if_neg (neg_ne hp (show 0 < 2147483648 by decide)), if_neg (neg_ne hp (show 0 < 2147483648 by decide)), if_neg (neg_ne hp (show 1 < 2147483648 by decide)), if_neg (neg_ne hp (show 1 < 2147483648 by decide)), if_neg (neg_ne hp (show 2 < 2147483648 by decide)), if_neg (neg_ne hp (show 2 < 2147483648 by decide)), if_neg (neg_ne hp (show 3 < 2147483648 by decide)), if_neg (neg_ne hp (show 3 < 2147483648 by decide)), if_neg (neg_ne hp (show 4 < 2147483648 by decide)), if_neg (neg_ne hp (show 4 < 2147483648 by decide)), if_neg (neg_ne hp (show 5 < 2147483648 by decide)), if_neg (neg_ne hp (show 5 < 2147483648 by decide)), if_neg (neg_ne hp (show 6 < 2147483648 by decide)), if_neg (neg_ne hp (show 7 < 2147483648 by decide))]
    exact ⟨_, rfl, rfl⟩
  · rw [f_isIn N hj (by decide) (by decide)]
    simp only [q_bs]
    simp only [q_b0]
    rw [i_lt hj (by decide), i_lt (by decide) hj]
    repeat rw [i_eq hj (by decide)]
    by_cases h1 : 11 ≤ j ∧ j ≤ 16
    · rw [if_neg (show ¬ j < 11 by omega), if_neg (show ¬ 16 < j by omega), decide_eq_true h1, if_neg (by decide), q_sub (by omega)]
      repeat rw [q_ck (by omega) (by decide)]
      repeat rw [q_ck (by omega) (by decide)]
      exact ⟨_, rfl, rfl⟩
    · have e : ∀ A B : Option Int32, (if j < 11 then A else if 16 < j then A else B) = A := by
        intro A B
        by_cases h2 : j < 11
        · rw [if_pos h2]
        · rw [if_neg h2, if_pos (by omega)]
      rw [e, decide_eq_false h1, if_pos (show false = false from rfl)]
      by_cases k0 : j = 0
      · subst k0
        rw [if_pos (Eq.refl 0), if_pos (Eq.refl 0)]
        repeat rw [q_ck (by decide) (by decide)]
        exact ⟨_, rfl, rfl⟩
      rw [if_neg k0, if_neg k0]
      by_cases k1 : j = 1
      · subst k1
        rw [if_pos (Eq.refl 1), if_pos (Eq.refl 1)]
        repeat rw [q_ck (by decide) (by decide)]
        exact ⟨_, rfl, rfl⟩
      rw [if_neg k1, if_neg k1]
      by_cases k2 : j = 2
      · subst k2
        rw [if_pos (Eq.refl 2), if_pos (Eq.refl 2)]
        show Same ((F_X1_howManyLive N (TW g.1)).bind _) ((F_X3_livingIn N (em g.1)).bind _)
        rw [g_howMany, f_livingIn hN hg.1]
        try simp only [q_bs]
        try simp only [q_bs]
        rw [bits_liv N hN]
        exact ⟨_, rfl, rfl⟩
      rw [if_neg k2, if_neg k2]
      by_cases k3 : j = 3
      · subst k3
        rw [if_pos (Eq.refl 3), if_pos (Eq.refl 3)]
        show Same ((F_X1_bookSize N (TW g.1)).bind _) ((F_X3_writtenIn N (em g.1)).bind _)
        rw [g_bookSize hN, f_writtenIn hN hg.1]
        try simp only [q_bs]
        try simp only [q_bs]
        rw [bits_book N hN]
        exact ⟨_, rfl, rfl⟩
      rw [if_neg k3, if_neg k3]
      by_cases k4 : j = 4
      · subst k4
        rw [if_pos (Eq.refl 4), if_pos (Eq.refl 4)]
        show Same ((F_X1_wordsOfLiving N (TW g.1)).bind _) _
        rw [g_words hN hg.1]
        try simp only [q_bs]
        refine ⟨_, rfl, ?_⟩
        have hw : wordsN g.1 = sumTo (fun c => if live g.1 c then topN g.1 c else 0) (aN g.1) := by
          have h1 : wordsN g.1 = sumTo (fun i => cntTo (fun t => live g.1 i && topB g.1 i t) 8) 6 := sumTo_swap (fun i t => live g.1 i && topB g.1 i t) 6 8
          have h2 : ∀ i, cntTo (fun t => live g.1 i && topB g.1 i t) 8 = if live g.1 i then topN g.1 i else 0 := by
            intro i
            cases live g.1 i
            · exact (cntTo_ge (n := 0) (fun _ _ => rfl) 8 (by decide)).trans rfl
            · rfl
          rw [h1, sumTo_congr (fun i _ => h2 i)]
          exact sumTo_ge (fun c hc => by rw [live_ge hc]; rfl) 6 hn
        rw [hw]
        refine loop_up (fun n (z : Int32 × Int32) => F_X3_count_103 N (ys g m was pl ma nu to se) n z.1 z.2) (fun i => (nI (sumTo (fun c => if live g.1 c then topN g.1 c else 0) i), nI i)) (aN g.1) _ ?_ ?_ N 0 (Nat.zero_le _) (by omega)
        · intro n i hi
          show F_X3_count_103 N (ys g m was pl ma nu to se) (n + 1) (nI (sumTo (fun c => if live g.1 c then topN g.1 c else 0) i)) (nI i) = F_X3_count_103 N (ys g m was pl ma nu to se) n (nI (sumTo (fun c => if live g.1 c then topN g.1 c else 0) i + (if live g.1 i then topN g.1 i else 0))) (nI (i + 1))
          have hl : live g.1 i = !aD g.1 i := by unfold live; rw [decide_eq_true hi]; rfl
          rw [F_X3_count_103]
          show (if em g.1 (nI 0).toNatClampNeg ≤ nI i then _ else (F_X3_isAlive N (em g.1) (nI i)).bind fun r119 => if r119 = 0 then _ else (F_X3_wordsOf N (em g.1) (nI i)).bind _) = _
          try rw [q_c0]
          try rw [em_0]
          rw [if_neg (by rw [q_le (by omega) (by omega)]; omega), f_isAlive N g.1 (by omega)]
          try simp only [q_bs]
          repeat (first | rw [i_b0] | rw [i_nb0])
          rw [f_top hN hg.1 (by omega)]
          try simp only [q_bs]
          rw [hl]
          unfold F_X3_count_137
          try rw [nI_add i 1]
          try rw [nI_add]
          try rw [nI_add]
          cases aD g.1 i
          · rw [if_neg (by decide)]; rfl
          · rw [if_pos (by first | rfl | decide)]; rfl
        · intro n
          show F_X3_count_103 N (ys g m was pl ma nu to se) (n + 1) _ (nI (aN g.1)) = _
          rw [F_X3_count_103]
          show (if em g.1 (nI 0).toNatClampNeg ≤ nI (aN g.1) then _ else _) = _
          try rw [q_c0]
          try rw [em_0]
          rw [if_pos (by rw [q_le (by omega) (by omega)]; exact Nat.le_refl _)]
      rw [if_neg k4, if_neg k4]
      by_cases k5 : j = 5
      · subst k5
        rw [if_pos (Eq.refl 5), if_pos (Eq.refl 5)]
        show Same ((F_X1_agesOfLiving N (TW g.1)).bind _) ((F_X3_agesAll N (em g.1)).bind _)
        rw [g_ages hN hg.1, f_ages hN hg.1]
        exact ⟨_, rfl, rfl⟩
      rw [if_neg k5, if_neg k5]
      by_cases k6 : j = 6
      · subst k6
        rw [if_pos (Eq.refl 6)]
        exact ⟨_, rfl, rfl⟩
      rw [if_neg k6]
      by_cases k7 : j = 7
      · subst k7
        rw [if_pos (Eq.refl 7)]
        exact ⟨_, rfl, rfl⟩
      rw [if_neg k7]
      exact ⟨_, rfl, rfl⟩
theorem y_takes {N : Nat} (hN : 2000 ≤ N) {g : GS} (hg : GI g) {m : TA} (hm : Good m) (was : TA) (pl ma : Int32) (nu to : FA) (se : Int32) {n : Nat} (hn : n ≤ 60) : F_X3_takes N (ys g m was pl ma nu to se) (nI n) = some (ys g (yearsF g.1 n) was pl ma nu to se) := by
  have h9 := hg.2.1
  unfold F_X3_takes
  show (F_X3_copies N (em g.1) (em m)).bind _ = _
  rw [f_copies hN hg.1 hm]
  try simp only [q_bs]
  rw [f_yearsOn hN hg.1 (by omega) (by omega)]
  try simp only [q_bs]
theorem s_writtenThen {N : Nat} (hN : 2000 ≤ N) {g : GS} {x : XS} {y : MS} (hx : XR g x) (hy : MR g y) (hg : GI g) (p : Int32) : Both (F_X2_writtenThen N x p) (F_X3_writtenThen N y p) := by
  have hno4 := both_no N hx hy hg c4
  have hno6 := both_no N hx hy hg c6
  have h9 := hg.2.1
  unfold F_X2_writtenThen F_X3_writtenThen
  rcases arg_cases p with hp | ⟨j, hj, rfl⟩
  · rw [if_neg (neg_ge hp), f_wrong_neg N hp]
    try simp only [q_bs]
    rw [if_neg (by decide)]; exact hno4
  · rw [i_ge0 hj]
    rw [if_pos trivial, f_wrong N hj (by decide)]
    try simp only [q_bs]
    rw [i_le hj (by decide)]
    by_cases h : j ≤ 60
    · obtain ⟨mind, pr, hm, rfl⟩ := hx
      obtain ⟨m, was, pl, ma, nu, to, se, h3, h4, rfl⟩ := hy
      have hG := Good_years hg.1 j (by omega)
      rw [if_pos h, if_pos h, if_pos (by decide), y_takes hN hg h3 was pl ma nu to se h]
      try simp only [q_bs]
      show Both ((F_X1_become N (TW mind) (TW g.1)).bind _) ((F_X3_writtenIn N (em (yearsF g.1 j))).bind _)
      rw [g_become N hm hg.1]
      try simp only [q_bs]
      rw [g_pass hN hg.1 (by omega) (by omega)]
      try simp only [q_bs]
      rw [g_book hN]
      try simp only [q_bs]
      rw [f_writtenIn hN hG]
      try simp only [q_bs]
      exact ⟨_, g, _, _, rfl, rfl, XR.mk (yearsF g.1 j) pr hG rfl, MR.mk (yearsF g.1 j) was pl ma nu to se hG h4 rfl, hg⟩
    · rw [if_neg h, if_neg h, if_neg (by decide)]; exact hno6
theorem s_deadThen {N : Nat} (hN : 2000 ≤ N) {g : GS} {x : XS} {y : MS} (hx : XR g x) (hy : MR g y) (hg : GI g) (p : Int32) : Both (F_X2_deadThen N x p) (F_X3_deadThen N y p) := by
  have hno4 := both_no N hx hy hg c4
  have hno6 := both_no N hx hy hg c6
  have h9 := hg.2.1
  unfold F_X2_deadThen F_X3_deadThen
  rcases arg_cases p with hp | ⟨j, hj, rfl⟩
  · rw [if_neg (neg_ge hp), f_wrong_neg N hp]
    try simp only [q_bs]
    rw [if_neg (by decide)]; exact hno4
  · rw [i_ge0 hj]
    rw [if_pos trivial, f_wrong N hj (by decide)]
    try simp only [q_bs]
    rw [i_le hj (by decide)]
    by_cases h : j ≤ 60
    · obtain ⟨mind, pr, hm, rfl⟩ := hx
      obtain ⟨m, was, pl, ma, nu, to, se, h3, h4, rfl⟩ := hy
      have hG := Good_years hg.1 j (by omega)
      rw [if_pos h, if_pos h, if_pos (by decide), y_takes hN hg h3 was pl ma nu to se h]
      try simp only [q_bs]
      show Both ((F_X1_become N (TW mind) (TW g.1)).bind _) ((F_X3_livingIn N (em (yearsF g.1 j))).bind _)
      rw [g_become N hm hg.1]
      try simp only [q_bs]
      rw [g_pass hN hg.1 (by omega) (by omega)]
      try simp only [q_bs]
      rw [f_livingIn hN hG]
      try simp only [q_bs]
      exact ⟨_, g, _, _, rfl, rfl, XR.mk (yearsF g.1 j) pr hG rfl, MR.mk (yearsF g.1 j) was pl ma nu to se hG h4 rfl, hg⟩
    · rw [if_neg h, if_neg h, if_neg (by decide)]; exact hno6
theorem s_wordThen {N : Nat} (hN : 2000 ≤ N) {g : GS} {x : XS} {y : MS} (hx : XR g x) (hy : MR g y) (hg : GI g) (p q w : Int32) : Both (F_X2_wordThen N x p q w) (F_X3_wordThen N y p q w) := by
  have hno1 := both_no N hx hy hg c1
  have hno4 := both_no N hx hy hg c4
  have hno6 := both_no N hx hy hg c6
  have h9 := hg.2.1
  have hn := hg.1.1
  unfold F_X2_wordThen F_X3_wordThen F_X2_wordThen_15 F_X3_wordThen_25
  rcases arg_cases p with hp | ⟨j, hj, rfl⟩
  · rw [x_noCit_neg N x hp, f_isCit_neg N y hp]; exact hno1
  · obtain ⟨mind, pr, hm, rfl⟩ := hx
    obtain ⟨m, was, pl, ma, nu, to, se, h3, h4, rfl⟩ := hy
    rw [x_noCit N g mind pr hg hj, f_isCit N _ g.1 rfl hg.1 hj]
    simp (disch := omega) only [k_0, k_1, k_2, k_3, k_4, k_6, Nat.reduceEqDiff, Nat.reduceLeDiff, Nat.reduceLT, q_le, q_lt, q_eq, q_lt0, q_ge0, q_eq0, q_gt0, q_le0, q_b0, q_ck, q_cl, nI_add, q_bs, ↓reduceIte, not_true_eq_false, not_false_eq_true, Bool.false_eq_true, reduceCtorEq, Bool.not_eq_false', decide_eq_false_iff_not, decide_eq_true_eq, Bool.not_false, Bool.not_true]
    by_cases h : j < aN g.1
    · simp only [k_0, k_1, k_2, k_3, k_4, k_6, Nat.reduceEqDiff, Nat.reduceLeDiff, Nat.reduceLT, q_bs, ↓reduceIte, not_true_eq_false, not_false_eq_true, Bool.false_eq_true, reduceCtorEq, h]
      rcases arg_cases q with hq | ⟨t, ht, rfl⟩
      · rw [g_noTopic_neg N hq, f_isTopic_neg N hq]; exact hno1
      · rw [g_noTopic N ht, f_isTopic N ht]
        simp (disch := omega) only [k_0, k_1, k_2, k_3, k_4, k_6, Nat.reduceEqDiff, Nat.reduceLeDiff, Nat.reduceLT, q_le, q_lt, q_eq, q_lt0, q_ge0, q_eq0, q_gt0, q_le0, q_b0, q_ck, q_cl, nI_add, q_bs, ↓reduceIte, not_true_eq_false, not_false_eq_true, Bool.false_eq_true, reduceCtorEq, Bool.not_eq_false', decide_eq_false_iff_not, decide_eq_true_eq, Bool.not_false, Bool.not_true]
        by_cases h2 : t < 8
        · simp only [k_0, k_1, k_2, k_3, k_4, k_6, Nat.reduceEqDiff, Nat.reduceLeDiff, Nat.reduceLT, q_bs, ↓reduceIte, not_true_eq_false, not_false_eq_true, Bool.false_eq_true, reduceCtorEq, h2]
          rcases arg_cases w with hw | ⟨n, hv, rfl⟩
          · rw [f_wrong_neg N hw]
            simp only [k_0, k_1, k_2, k_3, k_4, k_6, Nat.reduceEqDiff, Nat.reduceLeDiff, Nat.reduceLT, q_bs, ↓reduceIte, not_true_eq_false, not_false_eq_true, Bool.false_eq_true, reduceCtorEq, neg_ge hw]
            exact hno4
          · rw [f_wrong N hv (by decide)]
            simp (disch := omega) only [k_0, k_1, k_2, k_3, k_4, k_6, Nat.reduceEqDiff, Nat.reduceLeDiff, Nat.reduceLT, q_le, q_lt, q_eq, q_lt0, q_ge0, q_eq0, q_gt0, q_le0, q_b0, q_ck, q_cl, nI_add, q_bs, ↓reduceIte, not_true_eq_false, not_false_eq_true, Bool.false_eq_true, reduceCtorEq, Bool.not_eq_false', decide_eq_false_iff_not, decide_eq_true_eq, Bool.not_false, Bool.not_true]
            by_cases h6 : n ≤ 60
            · have h5 := ix_lt (c := j) (w := 4 + t) (by omega) (by omega)
              have hG := Good_years hg.1 n (by omega)
              have hR := Good_yearsR hg.1 h2 n (by omega)
              have hS := (sim_years h2 (sim_rf t g.1) n).2.2.2.2.2.2 j
              simp only [k_0, k_1, k_2, k_3, k_4, k_6, Nat.reduceEqDiff, Nat.reduceLeDiff, Nat.reduceLT, q_bs, ↓reduceIte, not_true_eq_false, not_false_eq_true, Bool.false_eq_true, reduceCtorEq, h6]
              rw [y_takes hN hg h3 was pl ma nu to se h6]
              simp (disch := omega) only [k_0, k_1, k_2, k_3, k_4, k_6, Nat.reduceEqDiff, Nat.reduceLeDiff, Nat.reduceLT, q_le, q_lt, q_eq, q_lt0, q_ge0, q_eq0, q_gt0, q_le0, q_b0, q_ck, q_cl, nI_add, q_bs, ↓reduceIte, not_true_eq_false, not_false_eq_true, Bool.false_eq_true, reduceCtorEq, Bool.not_eq_false', decide_eq_false_iff_not, decide_eq_true_eq, Bool.not_false, Bool.not_true, f_of]
              show Both ((F_X1_become N (TW mind) (TW g.1)).bind _) (some (em (yearsF g.1 n) (ix j (4 + t)), _))
              rw [g_become N hm hg.1]
              try simp only [q_bs]
              rw [g_passFor hN hg.1 h2 (by omega) (by omega)]
              try simp only [q_bs]
              rw [g_wordOf N hR (by omega) h2]
              try simp only [q_bs]
              try rw [em_w _ j h2]
              rw [hS]
              exact ⟨_, g, _, _, rfl, rfl, XR.mk (yearsR g.1 t n) pr hR rfl, MR.mk (yearsF g.1 n) was pl ma nu to se hG h4 rfl, hg⟩
            · simp only [k_0, k_1, k_2, k_3, k_4, k_6, Nat.reduceEqDiff, Nat.reduceLeDiff, Nat.reduceLT, q_bs, ↓reduceIte, not_true_eq_false, not_false_eq_true, Bool.false_eq_true, reduceCtorEq, h6]; exact hno6
        · simp only [k_0, k_1, k_2, k_3, k_4, k_6, Nat.reduceEqDiff, Nat.reduceLeDiff, Nat.reduceLT, q_bs, ↓reduceIte, not_true_eq_false, not_false_eq_true, Bool.false_eq_true, reduceCtorEq, h2]; exact hno1
    · simp only [k_0, k_1, k_2, k_3, k_4, k_6, Nat.reduceEqDiff, Nat.reduceLeDiff, Nat.reduceLT, q_bs, ↓reduceIte, not_true_eq_false, not_false_eq_true, Bool.false_eq_true, reduceCtorEq, h]; exact hno1
