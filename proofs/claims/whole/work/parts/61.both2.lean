theorem Good_age1 {a : TA} (h : Good a) {c v : Nat} (hc : c < aN a) (hv : v ≤ 99) : Good (sA a (updN (aA a) c v)) := by
  obtain ⟨h1, h2, h3, h4, h5, h6, h7, h8⟩ := h
  refine ⟨h1, h2, h3, h4, fun i => ?_, h6, fun i hi => ?_, h8⟩
  · show updN (aA a) c v i ≤ 99
    unfold updN
    split
    · exact hv
    · exact h5 i
  · obtain ⟨t1, t2, t3, t4⟩ := h7 i hi
    refine ⟨t1, t2, ?_, t4⟩
    have hi : aN a ≤ i := hi
    exact (updN_n _ _ (by omega)).trans t3
theorem Good_dead1 {a : TA} (h : Good a) {c : Nat} (hc : c < aN a) : Good (sD a (updN (aD a) c true)) := by
  obtain ⟨h1, h2, h3, h4, h5, h6, h7, h8⟩ := h
  refine ⟨h1, h2, h3, h4, h5, h6, fun i hi => ?_, h8⟩
  obtain ⟨t1, t2, t3, t4, t5⟩ := h7 i hi
  have hi : aN a ≤ i := hi
  exact ⟨t1, t2, t3, (updN_n _ _ (by omega)).trans t4, t5⟩
theorem Good_kf {a : TA} (h : Good a) {c k f : Nat} (hc : c < aN a) (hk : k ≤ 5) (hf : f ≤ 9) : Good (sF (sK a (updN (aK a) c k)) (updN (aF a) c f)) := by
  obtain ⟨h1, h2, h3, h4, h5, h6, h7, h8⟩ := h
  refine ⟨h1, h2, fun i => ?_, fun i => ?_, h5, h6, fun i hi => ?_, h8⟩
  · show updN (aK a) c k i ≤ 5
    unfold updN
    split
    · exact hk
    · exact h3 i
  · show updN (aF a) c f i ≤ 9
    unfold updN
    split
    · exact hf
    · exact h4 i
  · obtain ⟨t1, t2, t3, t4⟩ := h7 i hi
    have hi : aN a ≤ i := hi
    exact ⟨(updN_n _ _ (by omega)).trans t1, (updN_n _ _ (by omega)).trans t2, t3, t4⟩
theorem XR.mk {g : GS} {x : XS} (mind : TA) (pr : FA) (h : Good mind) (e : x = xs g mind pr) : XR g x := ⟨mind, pr, h, e⟩
theorem MR.mk {g : GS} {y : MS} (m was : TA) (pl ma : Int32) (nu to : FA) (se : Int32) (h1 : Good m) (h2 : Good was) (e : y = ys g m was pl ma nu to se) : MR g y := ⟨m, was, pl, ma, nu, to, se, h1, h2, e⟩
theorem GI.now {g : GS} (h : GI g) {a : TA} (ha : Good a) (hy : aY a ≤ 999) : GI (gN g a) := ⟨ha, hy, h.2.2⟩
theorem TW_upA (a : TA) {c v : Nat} : ((TW a).1, (TW a).2.1, upd (TW a).2.2.1 c (nI v), (TW a).2.2.2.1, (TW a).2.2.2.2.1, (TW a).2.2.2.2.2.1, (TW a).2.2.2.2.2.2.1, (TW a).2.2.2.2.2.2.2) = TW (sA a (updN (aA a) c v)) := TW_ext (fun _ => rfl) (fun _ => rfl) (fun i => by
  show (if i = c then nI v else nI (aA a i)) = nI (if i = c then v else aA a i)
  split <;> rfl) (fun _ => rfl) (fun _ => rfl) rfl rfl rfl
theorem TW_upKF (a : TA) {c k f : Nat} : (upd (TW a).1 c (nI k), upd (TW a).2.1 c (nI f), (TW a).2.2.1, (TW a).2.2.2.1, (TW a).2.2.2.2.1, (TW a).2.2.2.2.2.1, (TW a).2.2.2.2.2.2.1, (TW a).2.2.2.2.2.2.2) = TW (sF (sK a (updN (aK a) c k)) (updN (aF a) c f)) := TW_ext (fun i => by
  show (if i = c then nI k else nI (aK a i)) = nI (if i = c then k else aK a i)
  split <;> rfl) (fun i => by
  show (if i = c then nI f else nI (aF a i)) = nI (if i = c then f else aF a i)
  split <;> rfl) (fun _ => rfl) (fun _ => rfl) (fun _ => rfl) rfl rfl rfl
theorem s_says (N : Nat) {g : GS} {x : XS} {y : MS} (hx : XR g x) (hy : MR g y) (hg : GI g) (p q w : Int32) : Both (F_X2_says N x p q w) (F_X3_says N y p q w) := by
  have hno1 := both_no N hx hy hg c1
  have hno2 := both_no N hx hy hg c2
  have hno3 := both_no N hx hy hg c3
  unfold F_X2_says F_X3_says F_X2_says_15 F_X2_says_30 F_X3_says_50
  have hn := hg.1.1
  rcases arg_cases p with hp | ⟨j, hj, rfl⟩
  · rw [x_noCit_neg N x hp, f_isCit_neg N y hp]; exact hno1
  · obtain ⟨mind, pr, hm, rfl⟩ := hx
    obtain ⟨m, was, pl, ma, nu, to, se, h3, h4, rfl⟩ := hy
    rw [x_noCit N g mind pr hg hj, f_isCit N _ g.1 rfl hg.1 hj]
    simp (disch := omega) only [k_0, k_1, k_2, k_3, k_4, k_6, Nat.reduceEqDiff, Nat.reduceLeDiff, Nat.reduceLT, q_le, q_lt, q_eq, q_lt0, q_ge0, q_eq0, q_gt0, q_le0, q_b0, q_ck, q_cl, nI_add, q_bs, ↓reduceIte, not_true_eq_false, not_false_eq_true, Bool.false_eq_true, reduceCtorEq, Bool.not_eq_false', decide_eq_false_iff_not, decide_eq_true_eq, Bool.not_false, Bool.not_true]
    by_cases h : j < aN g.1
    · simp only [k_0, k_1, k_2, k_3, k_4, k_6, Nat.reduceEqDiff, Nat.reduceLeDiff, Nat.reduceLT, q_bs, ↓reduceIte, not_true_eq_false, not_false_eq_true, Bool.false_eq_true, reduceCtorEq, h]
      rcases arg_cases q with hq | ⟨t, ht, rfl⟩
      · rw [g_noTopic_neg N hq, f_isTopic_neg N hq]; exact hno1
      · rw [g_noTopic N ht, f_isTopic N ht]
        simp (disch := omega) only [k_0, k_1, k_2, k_3, k_4, k_6, Nat.reduceEqDiff, Nat.reduceLeDiff, Nat.reduceLT, q_le, q_lt, q_eq, q_lt0, q_ge0, q_eq0, q_gt0, q_le0, q_b0, q_ck, q_cl, nI_add, q_bs, ↓reduceIte, not_true_eq_false, not_false_eq_true, Bool.false_eq_true, reduceCtorEq, Bool.not_eq_false', decide_eq_false_iff_not, decide_eq_true_eq, Bool.not_false, Bool.not_true]
        by_cases h2 : t < 8
        · simp only [k_0, k_1, k_2, k_3, k_4, k_6, Nat.reduceEqDiff, Nat.reduceLeDiff, Nat.reduceLT, q_bs, ↓reduceIte, not_true_eq_false, not_false_eq_true, Bool.false_eq_true, reduceCtorEq, h2]
          rcases arg_cases w with hw | ⟨v, hv, rfl⟩
          · rw [f_isIn_neg N (by decide) hw]
            simp only [k_0, k_1, k_2, k_3, k_4, k_6, Nat.reduceEqDiff, Nat.reduceLeDiff, Nat.reduceLT, q_bs, ↓reduceIte, not_true_eq_false, not_false_eq_true, Bool.false_eq_true, reduceCtorEq, hw]
            exact hno2
          · rw [f_isIn N hv (by decide) (by decide)]
            simp (disch := omega) only [k_0, k_1, k_2, k_3, k_4, k_6, Nat.reduceEqDiff, Nat.reduceLeDiff, Nat.reduceLT, q_le, q_lt, q_eq, q_lt0, q_ge0, q_eq0, q_gt0, q_le0, q_b0, q_ck, q_cl, nI_add, q_bs, ↓reduceIte, not_true_eq_false, not_false_eq_true, Bool.false_eq_true, reduceCtorEq, Bool.not_eq_false', decide_eq_false_iff_not, decide_eq_true_eq, Bool.not_false, Bool.not_true]
            by_cases h6 : v < 3
            · have h5 := ix_lt (c := j) (w := 4 + t) (by omega) (by omega)
              have ha : F_X3_isAlive N (em g.1) (nI j) = some (bI (!aD g.1 j)) := f_isAlive N g.1 (by omega)
              have hl : live g.1 j = !aD g.1 j := by unfold live; rw [decide_eq_true h]; rfl
              simp only [k_0, k_1, k_2, k_3, k_4, k_6, Nat.reduceEqDiff, Nat.reduceLeDiff, Nat.reduceLT, q_bs, ↓reduceIte, not_true_eq_false, not_false_eq_true, Bool.false_eq_true, reduceCtorEq, h6, show 0 ≤ v ∧ v ≤ 2 by omega]
              rw [g_isLiving N hg.1 hj, ha, hl]
              simp (disch := omega) only [k_0, k_1, k_2, k_3, k_4, k_6, Nat.reduceEqDiff, Nat.reduceLeDiff, Nat.reduceLT, q_le, q_lt, q_eq, q_lt0, q_ge0, q_eq0, q_gt0, q_le0, q_b0, q_ck, q_cl, nI_add, q_bs, ↓reduceIte, not_true_eq_false, not_false_eq_true, Bool.false_eq_true, reduceCtorEq, Bool.not_eq_false', decide_eq_false_iff_not, decide_eq_true_eq, Bool.not_false, Bool.not_true]
              cases hd : aD g.1 j
              · rw [g_wordOf N hg.1 (by omega) h2]
                simp (disch := omega) only [k_0, k_1, k_2, k_3, k_4, k_6, Nat.reduceEqDiff, Nat.reduceLeDiff, Nat.reduceLT, q_le, q_lt, q_eq, q_lt0, q_ge0, q_eq0, q_gt0, q_le0, q_b0, q_ck, q_cl, nI_add, q_bs, ↓reduceIte, not_true_eq_false, not_false_eq_true, Bool.false_eq_true, reduceCtorEq, Bool.not_eq_false', decide_eq_false_iff_not, decide_eq_true_eq, Bool.not_false, Bool.not_true]
                rw [g_put N g.1 (by omega) h2 (by omega)]
                simp (disch := omega) only [k_0, k_1, k_2, k_3, k_4, k_6, Nat.reduceEqDiff, Nat.reduceLeDiff, Nat.reduceLT, q_le, q_lt, q_eq, q_lt0, q_ge0, q_eq0, q_gt0, q_le0, q_b0, q_ck, q_cl, nI_add, q_bs, ↓reduceIte, not_true_eq_false, not_false_eq_true, Bool.false_eq_true, reduceCtorEq, Bool.not_eq_false', decide_eq_false_iff_not, decide_eq_true_eq, Bool.not_false, Bool.not_true, f_of]
                refine ⟨_, gN g (sW g.1 (updW (aW g.1) j t v)), _, _, rfl, ?_, XR.mk mind pr hm rfl, MR.mk m was pl ma nu to se h3 h4 rfl, hg.now (Good_put hg.1 h h2 (by omega)) hg.2.1⟩
                show some (em g.1 (ix j (4 + t)), (upd (em g.1) (ix j (4 + t)) (nI v), _)) = _
                rw [em_sW g.1 j t v h2]
                try rw [em_w g.1 j h2]
              · simp only [k_0, k_1, k_2, k_3, k_4, k_6, Nat.reduceEqDiff, Nat.reduceLeDiff, Nat.reduceLT, q_bs, ↓reduceIte, not_true_eq_false, not_false_eq_true, Bool.false_eq_true, reduceCtorEq]; exact hno3
            · simp only [k_0, k_1, k_2, k_3, k_4, k_6, Nat.reduceEqDiff, Nat.reduceLeDiff, Nat.reduceLT, q_bs, ↓reduceIte, not_true_eq_false, not_false_eq_true, Bool.false_eq_true, reduceCtorEq, h6, show ¬ (0 ≤ v ∧ v ≤ 2) by omega]; exact hno2
        · simp only [k_0, k_1, k_2, k_3, k_4, k_6, Nat.reduceEqDiff, Nat.reduceLeDiff, Nat.reduceLT, q_bs, ↓reduceIte, not_true_eq_false, not_false_eq_true, Bool.false_eq_true, reduceCtorEq, h2]; exact hno1
    · simp only [k_0, k_1, k_2, k_3, k_4, k_6, Nat.reduceEqDiff, Nat.reduceLeDiff, Nat.reduceLT, q_bs, ↓reduceIte, not_true_eq_false, not_false_eq_true, Bool.false_eq_true, reduceCtorEq, h]; exact hno1
theorem s_ages (N : Nat) {g : GS} {x : XS} {y : MS} (hx : XR g x) (hy : MR g y) (hg : GI g) (p q : Int32) : Both (F_X2_ages N x p q) (F_X3_ages N y p q) := by
  have hno1 := both_no N hx hy hg c1
  have hno4 := both_no N hx hy hg c4
  have hno6 := both_no N hx hy hg c6
  unfold F_X2_ages F_X3_ages F_X3_ages_18
  have hn := hg.1.1
  rcases arg_cases p with hp | ⟨j, hj, rfl⟩
  · rw [x_noCit_neg N x hp, f_isCit_neg N y hp]; exact hno1
  · obtain ⟨mind, pr, hm, rfl⟩ := hx
    obtain ⟨m, was, pl, ma, nu, to, se, h3, h4, rfl⟩ := hy
    rw [x_noCit N g mind pr hg hj, f_isCit N _ g.1 rfl hg.1 hj]
    simp (disch := omega) only [k_0, k_1, k_2, k_3, k_4, k_6, Nat.reduceEqDiff, Nat.reduceLeDiff, Nat.reduceLT, q_le, q_lt, q_eq, q_lt0, q_ge0, q_eq0, q_gt0, q_le0, q_b0, q_ck, q_cl, nI_add, q_bs, ↓reduceIte, not_true_eq_false, not_false_eq_true, Bool.false_eq_true, reduceCtorEq, Bool.not_eq_false', decide_eq_false_iff_not, decide_eq_true_eq, Bool.not_false, Bool.not_true]
    by_cases h : j < aN g.1
    · simp only [k_0, k_1, k_2, k_3, k_4, k_6, Nat.reduceEqDiff, Nat.reduceLeDiff, Nat.reduceLT, q_bs, ↓reduceIte, not_true_eq_false, not_false_eq_true, Bool.false_eq_true, reduceCtorEq, h]
      rcases arg_cases q with hq | ⟨v, hv, rfl⟩
      · rw [f_wrong_neg N hq]
        simp only [k_0, k_1, k_2, k_3, k_4, k_6, Nat.reduceEqDiff, Nat.reduceLeDiff, Nat.reduceLT, q_bs, ↓reduceIte, not_true_eq_false, not_false_eq_true, Bool.false_eq_true, reduceCtorEq, neg_ge hq]
        exact hno4
      · rw [f_wrong N hv (by decide)]
        simp (disch := omega) only [k_0, k_1, k_2, k_3, k_4, k_6, Nat.reduceEqDiff, Nat.reduceLeDiff, Nat.reduceLT, q_le, q_lt, q_eq, q_lt0, q_ge0, q_eq0, q_gt0, q_le0, q_b0, q_ck, q_cl, nI_add, q_bs, ↓reduceIte, not_true_eq_false, not_false_eq_true, Bool.false_eq_true, reduceCtorEq, Bool.not_eq_false', decide_eq_false_iff_not, decide_eq_true_eq, Bool.not_false, Bool.not_true]
        by_cases h2 : v ≤ 99
        · have h5 := ix_lt (c := j) (w := 2) (by omega) (by decide)
          simp only [k_0, k_1, k_2, k_3, k_4, k_6, Nat.reduceEqDiff, Nat.reduceLeDiff, Nat.reduceLT, q_bs, ↓reduceIte, not_true_eq_false, not_false_eq_true, Bool.false_eq_true, reduceCtorEq, h2]
          simp (disch := omega) only [k_0, k_1, k_2, k_3, k_4, k_6, Nat.reduceEqDiff, Nat.reduceLeDiff, Nat.reduceLT, q_le, q_lt, q_eq, q_lt0, q_ge0, q_eq0, q_gt0, q_le0, q_b0, q_ck, q_cl, nI_add, q_bs, ↓reduceIte, not_true_eq_false, not_false_eq_true, Bool.false_eq_true, reduceCtorEq, Bool.not_eq_false', decide_eq_false_iff_not, decide_eq_true_eq, Bool.not_false, Bool.not_true, f_of]
          refine ⟨nI (aA g.1 j), gN g (sA g.1 (updN (aA g.1) j v)), _, _, ?_, ?_, XR.mk mind pr hm rfl, MR.mk m was pl ma nu to se h3 h4 rfl, hg.now (Good_age1 hg.1 h h2) hg.2.1⟩
          · exact congrArg (fun z => some (nI (aA g.1 j), (z, _))) (TW_upA g.1)
          · show some (em g.1 (ix j 2), (upd (em g.1) (ix j 2) (nI v), _)) = _
            rw [em_sA]
            try rw [em_a]
        · simp only [k_0, k_1, k_2, k_3, k_4, k_6, Nat.reduceEqDiff, Nat.reduceLeDiff, Nat.reduceLT, q_bs, ↓reduceIte, not_true_eq_false, not_false_eq_true, Bool.false_eq_true, reduceCtorEq, h2]; exact hno6
    · simp only [k_0, k_1, k_2, k_3, k_4, k_6, Nat.reduceEqDiff, Nat.reduceLeDiff, Nat.reduceLT, q_bs, ↓reduceIte, not_true_eq_false, not_false_eq_true, Bool.false_eq_true, reduceCtorEq, h]; exact hno1
theorem s_dies {N : Nat} (hN : 2000 ≤ N) {g : GS} {x : XS} {y : MS} (hx : XR g x) (hy : MR g y) (hg : GI g) (p : Int32) : Both (F_X2_dies N x p) (F_X3_dies N y p) := by
  have hno1 := both_no N hx hy hg c1
  have hno3 := both_no N hx hy hg c3
  unfold F_X2_dies F_X3_dies
  have hn := hg.1.1
  rcases arg_cases p with hp | ⟨j, hj, rfl⟩
  · rw [x_noCit_neg N x hp, f_isCit_neg N y hp]; exact hno1
  · obtain ⟨mind, pr, hm, rfl⟩ := hx
    obtain ⟨m, was, pl, ma, nu, to, se, h3, h4, rfl⟩ := hy
    rw [x_noCit N g mind pr hg hj, f_isCit N _ g.1 rfl hg.1 hj]
    simp (disch := omega) only [k_0, k_1, k_2, k_3, k_4, k_6, Nat.reduceEqDiff, Nat.reduceLeDiff, Nat.reduceLT, q_le, q_lt, q_eq, q_lt0, q_ge0, q_eq0, q_gt0, q_le0, q_b0, q_ck, q_cl, nI_add, q_bs, ↓reduceIte, not_true_eq_false, not_false_eq_true, Bool.false_eq_true, reduceCtorEq, Bool.not_eq_false', decide_eq_false_iff_not, decide_eq_true_eq, Bool.not_false, Bool.not_true]
    by_cases h : j < aN g.1
    · have h5 := ix_lt (c := j) (w := 3) (by omega) (by decide)
      have ha : F_X3_isAlive N (em g.1) (nI j) = some (bI (!aD g.1 j)) := f_isAlive N g.1 (by omega)
      have hl : live g.1 j = !aD g.1 j := by unfold live; rw [decide_eq_true h]; rfl
      simp only [k_0, k_1, k_2, k_3, k_4, k_6, Nat.reduceEqDiff, Nat.reduceLeDiff, Nat.reduceLT, q_bs, ↓reduceIte, not_true_eq_false, not_false_eq_true, Bool.false_eq_true, reduceCtorEq, h]
      rw [g_bury N hg.1 hj, ha, hl]
      simp (disch := omega) only [k_0, k_1, k_2, k_3, k_4, k_6, Nat.reduceEqDiff, Nat.reduceLeDiff, Nat.reduceLT, q_le, q_lt, q_eq, q_lt0, q_ge0, q_eq0, q_gt0, q_le0, q_b0, q_ck, q_cl, nI_add, q_bs, ↓reduceIte, not_true_eq_false, not_false_eq_true, Bool.false_eq_true, reduceCtorEq, Bool.not_eq_false', decide_eq_false_iff_not, decide_eq_true_eq, Bool.not_false, Bool.not_true]
      cases hd : aD g.1 j
      · have hb := Good_dead1 hg.1 h
        have hlv : liv (sD g.1 (updN (aD g.1) j true)) < 64 := msk6_lt _
        simp (disch := omega) only [k_0, k_1, k_2, k_3, k_4, k_6, Nat.reduceEqDiff, Nat.reduceLeDiff, Nat.reduceLT, q_le, q_lt, q_eq, q_lt0, q_ge0, q_eq0, q_gt0, q_le0, q_b0, q_ck, q_cl, nI_add, q_bs, ↓reduceIte, not_true_eq_false, not_false_eq_true, Bool.false_eq_true, reduceCtorEq, Bool.not_eq_false', decide_eq_false_iff_not, decide_eq_true_eq, Bool.not_false, Bool.not_true, f_of]
        show Both ((F_X1_howManyLive N (TW (sD g.1 (updN (aD g.1) j true)))).bind _) ((F_X3_livingIn N (upd (em g.1) (ix j 3) (nI true.toNat))).bind _)
        rw [em_sD, g_howMany, f_livingIn hN hb]
        try simp only [q_bs]
        try simp only [q_bs]
        rw [f_bits hN (by omega)]
        try simp only [q_bs]
        refine ⟨_, gN g (sD g.1 (updN (aD g.1) j true)), _, _, rfl, ?_, XR.mk mind pr hm rfl, MR.mk m was pl ma nu to se h3 h4 rfl, hg.now hb hg.2.1⟩
        show some (nI (pop8 (mskTo (live (sD g.1 (updN (aD g.1) j true))) 6)), upd (em g.1) (ix j 3) (nI true.toNat), _) = _
        rw [pop8_msk6, em_sD]; rfl
      · simp only [k_0, k_1, k_2, k_3, k_4, k_6, Nat.reduceEqDiff, Nat.reduceLeDiff, Nat.reduceLT, q_bs, ↓reduceIte, not_true_eq_false, not_false_eq_true, Bool.false_eq_true, reduceCtorEq]; exact hno3
    · simp only [k_0, k_1, k_2, k_3, k_4, k_6, Nat.reduceEqDiff, Nat.reduceLeDiff, Nat.reduceLT, q_bs, ↓reduceIte, not_true_eq_false, not_false_eq_true, Bool.false_eq_true, reduceCtorEq, h]; exact hno1
theorem s_turn (N : Nat) {g : GS} {x : XS} {y : MS} (hx : XR g x) (hy : MR g y) (hg : GI g) (p q w : Int32) : Both (F_X2_turn N x p q w) (F_X3_turn N y p q w) := by
  have hno1 := both_no N hx hy hg c1
  have hno2 := both_no N hx hy hg c2
  have hno4 := both_no N hx hy hg c4
  have hno6 := both_no N hx hy hg c6
  unfold F_X2_turn F_X3_turn F_X2_turn_24 F_X3_turn_32
  have hn := hg.1.1
  rcases arg_cases p with hp | ⟨j, hj, rfl⟩
  · rw [x_noCit_neg N x hp, f_isCit_neg N y hp]; exact hno1
  · obtain ⟨mind, pr, hm, rfl⟩ := hx
    obtain ⟨m, was, pl, ma, nu, to, se, h3, h4, rfl⟩ := hy
    rw [x_noCit N g mind pr hg hj, f_isCit N _ g.1 rfl hg.1 hj]
    simp (disch := omega) only [k_0, k_1, k_2, k_3, k_4, k_6, Nat.reduceEqDiff, Nat.reduceLeDiff, Nat.reduceLT, q_le, q_lt, q_eq, q_lt0, q_ge0, q_eq0, q_gt0, q_le0, q_b0, q_ck, q_cl, nI_add, q_bs, ↓reduceIte, not_true_eq_false, not_false_eq_true, Bool.false_eq_true, reduceCtorEq, Bool.not_eq_false', decide_eq_false_iff_not, decide_eq_true_eq, Bool.not_false, Bool.not_true]
    by_cases h : j < aN g.1
    · simp only [k_0, k_1, k_2, k_3, k_4, k_6, Nat.reduceEqDiff, Nat.reduceLeDiff, Nat.reduceLT, q_bs, ↓reduceIte, not_true_eq_false, not_false_eq_true, Bool.false_eq_true, reduceCtorEq, h]
      rcases arg_cases q with hq | ⟨k, hk, rfl⟩
      · rw [f_isIn_neg N (by decide) hq]
        simp only [k_0, k_1, k_2, k_3, k_4, k_6, Nat.reduceEqDiff, Nat.reduceLeDiff, Nat.reduceLT, q_bs, ↓reduceIte, not_true_eq_false, not_false_eq_true, Bool.false_eq_true, reduceCtorEq, hq]
        exact hno2
      · rw [f_isIn N hk (by decide) (by decide)]
        simp (disch := omega) only [k_0, k_1, k_2, k_3, k_4, k_6, Nat.reduceEqDiff, Nat.reduceLeDiff, Nat.reduceLT, q_le, q_lt, q_eq, q_lt0, q_ge0, q_eq0, q_gt0, q_le0, q_b0, q_ck, q_cl, nI_add, q_bs, ↓reduceIte, not_true_eq_false, not_false_eq_true, Bool.false_eq_true, reduceCtorEq, Bool.not_eq_false', decide_eq_false_iff_not, decide_eq_true_eq, Bool.not_false, Bool.not_true]
        by_cases h2 : k < 6
        · simp only [k_0, k_1, k_2, k_3, k_4, k_6, Nat.reduceEqDiff, Nat.reduceLeDiff, Nat.reduceLT, q_bs, ↓reduceIte, not_true_eq_false, not_false_eq_true, Bool.false_eq_true, reduceCtorEq, h2, show 0 ≤ k ∧ k ≤ 5 by omega]
          rcases arg_cases w with hw | ⟨v, hv, rfl⟩
          · rw [f_wrong_neg N hw]
            simp only [k_0, k_1, k_2, k_3, k_4, k_6, Nat.reduceEqDiff, Nat.reduceLeDiff, Nat.reduceLT, q_bs, ↓reduceIte, not_true_eq_false, not_false_eq_true, Bool.false_eq_true, reduceCtorEq, neg_ge hw]
            exact hno4
          · rw [f_wrong N hv (by decide)]
            simp (disch := omega) only [k_0, k_1, k_2, k_3, k_4, k_6, Nat.reduceEqDiff, Nat.reduceLeDiff, Nat.reduceLT, q_le, q_lt, q_eq, q_lt0, q_ge0, q_eq0, q_gt0, q_le0, q_b0, q_ck, q_cl, nI_add, q_bs, ↓reduceIte, not_true_eq_false, not_false_eq_true, Bool.false_eq_true, reduceCtorEq, Bool.not_eq_false', decide_eq_false_iff_not, decide_eq_true_eq, Bool.not_false, Bool.not_true]
            by_cases h6 : v < 10
            · have h5 := ix_lt (c := j) (w := 0) (by omega) (by decide)
              have h7 := ix_lt (c := j) (w := 1) (by omega) (by decide)
              simp only [k_0, k_1, k_2, k_3, k_4, k_6, Nat.reduceEqDiff, Nat.reduceLeDiff, Nat.reduceLT, q_bs, ↓reduceIte, not_true_eq_false, not_false_eq_true, Bool.false_eq_true, reduceCtorEq, h6, show v ≤ 9 by omega]
              simp (disch := omega) only [k_0, k_1, k_2, k_3, k_4, k_6, Nat.reduceEqDiff, Nat.reduceLeDiff, Nat.reduceLT, q_le, q_lt, q_eq, q_lt0, q_ge0, q_eq0, q_gt0, q_le0, q_b0, q_ck, q_cl, nI_add, q_bs, ↓reduceIte, not_true_eq_false, not_false_eq_true, Bool.false_eq_true, reduceCtorEq, Bool.not_eq_false', decide_eq_false_iff_not, decide_eq_true_eq, Bool.not_false, Bool.not_true, f_of]
              refine ⟨nI 10 * nI (aK g.1 j) + nI (aF g.1 j), gN g (sF (sK g.1 (updN (aK g.1) j k)) (updN (aF g.1) j v)), _, _, ?_, ?_, XR.mk mind pr hm rfl, MR.mk m was pl ma nu to se h3 h4 rfl, hg.now (Good_kf hg.1 h (by omega) (by omega)) hg.2.1⟩
              · exact congrArg (fun z => some (nI 10 * nI (aK g.1 j) + nI (aF g.1 j), (z, _))) (TW_upKF g.1)
              · show some (nI 10 * em g.1 (ix j 0) + em g.1 (ix j 1), (upd (upd (em g.1) (ix j 0) (nI k)) (ix j 1) (nI v), _)) = _
                rw [em_sK, em_sF]
                try rw [em_k]
                try rw [em_f]
            · simp only [k_0, k_1, k_2, k_3, k_4, k_6, Nat.reduceEqDiff, Nat.reduceLeDiff, Nat.reduceLT, q_bs, ↓reduceIte, not_true_eq_false, not_false_eq_true, Bool.false_eq_true, reduceCtorEq, h6, show ¬ v ≤ 9 by omega]; exact hno6
        · simp only [k_0, k_1, k_2, k_3, k_4, k_6, Nat.reduceEqDiff, Nat.reduceLeDiff, Nat.reduceLT, q_bs, ↓reduceIte, not_true_eq_false, not_false_eq_true, Bool.false_eq_true, reduceCtorEq, h2, show ¬ (0 ≤ k ∧ k ≤ 5) by omega]; exact hno2
    · simp only [k_0, k_1, k_2, k_3, k_4, k_6, Nat.reduceEqDiff, Nat.reduceLeDiff, Nat.reduceLT, q_bs, ↓reduceIte, not_true_eq_false, not_false_eq_true, Bool.false_eq_true, reduceCtorEq, h]; exact hno1
