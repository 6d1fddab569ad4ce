/-! both sides, the calls that change little -/
theorem k_0 : (nI 0 = 0) = True := eq_true (by decide)
theorem k_1 : ((-1 : Int32) = 0) = False := eq_false (by decide)
theorem k_2 : ((-2 : Int32) = 0) = False := eq_false (by decide)
theorem k_3 : ((-3 : Int32) = 0) = False := eq_false (by decide)
theorem k_4 : ((-4 : Int32) = 0) = False := eq_false (by decide)
theorem k_6 : ((-6 : Int32) = 0) = False := eq_false (by decide)
theorem k_7 : (nI 1 = 0) = False := eq_false (by decide)
theorem arg_cases (p : Int32) : p < 0 ∨ ∃ j, j < 2147483648 ∧ p = nI j := by
  by_cases h : p < 0
  · exact Or.inl h
  · exact Or.inr (nI_of h)
abbrev GS : Type := TA × TA × Bool × FA × Nat × FA × Nat × FA
abbrev xs (g : GS) (mind : TA) (pr : FA) : XS := (TW g.1, TW mind, TW g.2.1, bI g.2.2.1, (g.2.2.2.1, nI g.2.2.2.2.1), g.2.2.2.2.2.1, nI g.2.2.2.2.2.2.1, g.2.2.2.2.2.2.2, pr)
abbrev ys (g : GS) (m was : TA) (pl ma : Int32) (nu to : FA) (se : Int32) : MS := (em g.1, em m, em g.2.1, em was, bI g.2.2.1, g.2.2.2.1, g.2.2.2.2.2.1, g.2.2.2.2.2.2.2, nI g.2.2.2.2.1, nI g.2.2.2.2.2.2.1, pl, ma, nu, to, se)
def XR (g : GS) (x : XS) : Prop := ∃ (mind : TA) (pr : FA), Good mind ∧ x = xs g mind pr
def MR (g : GS) (y : MS) : Prop := ∃ (m was : TA) (pl ma : Int32) (nu to : FA) (se : Int32), Good m ∧ Good was ∧ y = ys g m was pl ma nu to se
def GI (g : GS) : Prop := Good g.1 ∧ aY g.1 ≤ 999 ∧ Good g.2.1 ∧ aY g.2.1 ≤ 999 ∧ g.2.2.2.2.1 ≤ 96 ∧ g.2.2.2.2.2.2.1 ≤ 16
def Both {α : Type} (A : Option (α × XS)) (B : Option (α × MS)) : Prop := ∃ (v : α) (g : GS) (x : XS) (y : MS), A = some (v, x) ∧ B = some (v, y) ∧ XR g x ∧ MR g y ∧ GI g
def Same {α : Type} (A B : Option α) : Prop := ∃ v, A = some v ∧ B = some v
def rfU (rf : FA) (p : Int32) : FA := upd rf (-p).toNatClampNeg (rf (-p).toNatClampNeg + nI 1)
abbrev gN (g : GS) (a : TA) : GS := (a, g.2)
abbrev gT (g : GS) (a : TA) (b : Bool) : GS := (g.1, a, b, g.2.2.2)
abbrev gL (g : GS) (lt : FA) (ln : Nat) : GS := (g.1, g.2.1, g.2.2.1, lt, ln, g.2.2.2.2.2)
abbrev gW (g : GS) (rw : FA) (rn : Nat) : GS := (g.1, g.2.1, g.2.2.1, g.2.2.2.1, g.2.2.2.2.1, rw, rn, g.2.2.2.2.2.2.2)
abbrev gR (g : GS) (rf : FA) : GS := (g.1, g.2.1, g.2.2.1, g.2.2.2.1, g.2.2.2.2.1, g.2.2.2.2.2.1, g.2.2.2.2.2.2.1, rf)
def isCode (p : Int32) : Prop := p = -1 ∨ p = -2 ∨ p = -3 ∨ p = -4 ∨ p = -6
theorem code_ok {p : Int32} (h : isCode p) : ¬ (-p) < nI 1 ∧ ¬ nI 7 ≤ -p ∧ ¬ ((-p) < 0 ∨ 7 ≤ (-p).toNatClampNeg) ∧ ¬ p = 0 := by
  rcases h with rfl | rfl | rfl | rfl | rfl <;> decide
theorem x_refuse (N : Nat) (g : GS) (mind : TA) (pr : FA) {p : Int32} (h : isCode p) : F_X2_refuse N (xs g mind pr) p = some (p, xs (gR g (rfU g.2.2.2.2.2.2.2 p)) mind pr) := by
  obtain ⟨h1, h2, h3, -⟩ := code_ok h
  unfold F_X2_refuse
  rw [if_neg h1, if_neg h2]
  exact (if_neg h3).trans (if_neg h3)
theorem y_no (N : Nat) (g : GS) (m was : TA) (pl ma : Int32) (nu to : FA) (se : Int32) {p : Int32} (h : isCode p) : F_X3_no N (ys g m was pl ma nu to se) p = some (p, ys (gR g (rfU g.2.2.2.2.2.2.2 p)) m was pl ma nu to se) := by
  obtain ⟨h1, h2, h3, -⟩ := code_ok h
  unfold F_X3_no
  exact (if_neg h3).trans (if_neg h3)
theorem both_no (N : Nat) {g : GS} {x : XS} {y : MS} (hx : XR g x) (hy : MR g y) (hg : GI g) {p : Int32} (h : isCode p) : Both ((F_X2_refuse N x p).bind fun r => some (r.1, r.2)) ((F_X3_no N y p).bind fun r => some (r.1, r.2)) := by
  obtain ⟨mind, pr, hm, rfl⟩ := hx
  obtain ⟨m, was, pl, ma, nu, to, se, h1, h2, rfl⟩ := hy
  rw [x_refuse N g mind pr h, y_no N g m was pl ma nu to se h]
  exact ⟨_, _, _, _, rfl, rfl, ⟨mind, pr, hm, rfl⟩, ⟨m, was, pl, ma, nu, to, se, h1, h2, rfl⟩, hg⟩
theorem c1 : isCode (-1) := Or.inl rfl
theorem c2 : isCode (-2) := Or.inr (Or.inl rfl)
theorem c3 : isCode (-3) := Or.inr (Or.inr (Or.inl rfl))
theorem c4 : isCode (-4) := Or.inr (Or.inr (Or.inr (Or.inl rfl)))
theorem c6 : isCode (-6) := Or.inr (Or.inr (Or.inr (Or.inr rfl)))
theorem neg_ge {p : Int32} (h : p < 0) : ¬ 0 ≤ p := fun e => Int32.lt_irrefl (Int32.lt_of_lt_of_le h e)
theorem neg_lt {p : Int32} (h : p < 0) {k : Nat} (hk : k < 2147483648) : p < nI k := Int32.lt_of_lt_of_le h (nI_pos' hk)
theorem neg_nle {p : Int32} (h : p < 0) {k : Nat} (hk : k < 2147483648) : ¬ nI k ≤ p := fun e => neg_ge h (Int32.le_trans (nI_pos' hk) e)
theorem neg_ngt {p : Int32} (h : p < 0) {k : Nat} (hk : k < 2147483648) : ¬ nI k < p := fun e => neg_ge h (Int32.le_of_lt (Int32.lt_of_le_of_lt (nI_pos' hk) e))
theorem neg_ne {p : Int32} (h : p < 0) {k : Nat} (hk : k < 2147483648) : ¬ p = nI k := fun e => by subst e; exact nI_pos hk h
theorem x_noCit (N : Nat) (g : GS) (mind : TA) (pr : FA) (hg : GI g) {j : Nat} (hj : j < 2147483648) : F_X2_noCitizen N (xs g mind pr) (nI j) = some (bI (!decide (j < aN g.1))) := by
  have hn := hg.1.1
  unfold F_X2_noCitizen
  rw [i_lt0 hj]
  rw [if_neg (fun h => h)]
  show (if nI j < nI (aN g.1) then _ else _) = _
  rw [i_lt hj (by omega)]
  by_cases h : j < aN g.1
  · rw [if_pos h, decide_eq_true h]; rfl
  · rw [if_neg h, decide_eq_false h]; rfl
theorem x_noCit_neg (N : Nat) (x : XS) {p : Int32} (hp : p < 0) : F_X2_noCitizen N x p = some (nI 1) := by
  unfold F_X2_noCitizen
  rw [if_pos hp]
theorem f_wrong (N : Nat) {j k : Nat} (hj : j < 2147483648) (hk : k < 2147483648) : F_X3_wrongBy N (nI j) (nI k) = some (if j ≤ k then nI 0 else -6) := by
  unfold F_X3_wrongBy
  rw [i_ge0 hj]
  rw [if_pos trivial]
  rw [i_le hj hk]
  split <;> rfl
theorem f_wrong_neg (N : Nat) {p q : Int32} (hp : p < 0) : F_X3_wrongBy N p q = some (-4) := by
  unfold F_X3_wrongBy
  rw [if_neg (neg_ge hp)]
theorem s_letter (N : Nat) {g : GS} {x : XS} {y : MS} (hx : XR g x) (hy : MR g y) (hg : GI g) (p : Int32) : Both (F_X2_letter N x p) (F_X3_letter N y p) := by
  have hno4 := both_no N hx hy hg c4
  have hno6 := both_no N hx hy hg c6
  unfold F_X2_letter F_X3_letter F_X2_letter_30 F_X3_letter_27
  rcases arg_cases p with hp | ⟨j, hj, rfl⟩
  · rw [if_neg (neg_ge hp), if_neg (neg_ge hp)]
    exact hno4
  · simp only [k_0, k_1, k_2, k_3, k_4, k_6, Nat.reduceEqDiff, Nat.reduceLeDiff, Nat.reduceLT, q_bs, ↓reduceIte, not_true_eq_false, not_false_eq_true, Bool.false_eq_true, reduceCtorEq, q_ge0 hj]
    by_cases h2 : nI 255 < nI j
    · rw [if_pos h2, if_pos h2]; exact hno6
    · rw [if_neg h2, if_neg h2]
      obtain ⟨mind, pr, hm, rfl⟩ := hx
      obtain ⟨m, was, pl, ma, nu, to, se, h3, h4, rfl⟩ := hy
      have hl := hg.2.2.2.2.1
      show Both (if nI g.2.2.2.2.1 < nI 96 then _ else _) (if ¬ nI g.2.2.2.2.1 = nI 96 then _ else _)
      rw [i_lt (by omega) (by decide)]
      first | rw [i_eq (by omega) (by decide)] | rw [i_ne (by omega) (by decide)]
      by_cases h5 : g.2.2.2.2.1 < 96
      · rw [if_pos h5, if_pos (by omega)]
        unfold F_X0_append
        show Both (Option.bind (if nI g.2.2.2.2.1 < nI 96 then ckI (nI g.2.2.2.2.1) 96 _ else _) _) (ckI (nI g.2.2.2.2.1) 96 _)
        rw [i_lt (by omega) (by decide)]
        rw [if_pos h5]
        repeat rw [q_ck h5 (by decide)]
        repeat rw [q_ck h5 (by decide)]
        try simp only [q_bs]
        refine ⟨_, gL g (upd g.2.2.2.1 (nI g.2.2.2.2.1).toNatClampNeg (nI j)) (g.2.2.2.2.1 + 1), _, _, rfl, rfl, ⟨mind, pr, hm, ?_⟩, ⟨m, was, pl, ma, nu, to, se, h3, h4, ?_⟩, hg.1, hg.2.1, hg.2.2.1, hg.2.2.2.1, ?_, hg.2.2.2.2.2⟩
        · show (_, _, _, _, (_, nI g.2.2.2.2.1 + nI 1), _) = _
          try rw [nI_add]
        · show (_, _, _, _, _, _, _, _, nI g.2.2.2.2.1 + nI 1, _) = _
          try rw [nI_add]
        · show g.2.2.2.2.1 + 1 ≤ 96
          omega
      · rw [if_neg h5, if_neg (by omega)]; exact hno6
theorem s_word (N : Nat) {g : GS} {x : XS} {y : MS} (hx : XR g x) (hy : MR g y) (hg : GI g) (p q : Int32) : Both (F_X2_word N x p q) (F_X3_word N y p q) := by
  have hno := both_no N hx hy hg c1
  unfold F_X2_word F_X3_word F_X2_word_15 F_X3_word_30
  have hn := hg.1.1
  rcases arg_cases p with hp | ⟨j, hj, rfl⟩
  · rw [x_noCit_neg N x hp, f_isCit_neg N y hp]; exact hno
  · obtain ⟨mind, pr, hm, rfl⟩ := hx
    obtain ⟨m, was, pl, ma, nu, to, se, h3, h4, rfl⟩ := hy
    rw [x_noCit N g mind pr hg hj, f_isCit N _ g.1 rfl hg.1 hj]
    try simp only [q_bs]
    try simp only [q_bs]
    repeat (first | rw [i_b0] | rw [i_nb0])
    repeat (first | rw [i_b0] | rw [i_nb0])
    by_cases h : j < aN g.1
    · rw [decide_eq_true h, if_neg (by decide), if_neg (by decide)]
      rcases arg_cases q with hq | ⟨t, ht, rfl⟩
      · rw [g_noTopic_neg N hq, f_isTopic_neg N hq]; exact hno
      · rw [g_noTopic N ht, f_isTopic N ht]
        try simp only [q_bs]
        try simp only [q_bs]
        repeat (first | rw [i_b0] | rw [i_nb0])
        repeat (first | rw [i_b0] | rw [i_nb0])
        by_cases h2 : t < 8
        · have h5 := ix_lt (c := j) (w := 4 + t) (by omega) (by omega)
          rw [decide_eq_true h2, if_pos (by first | rfl | decide), if_neg (by decide), g_wordOf N hg.1 (by omega) h2]
          try simp only [q_bs]
          try rw [nI_add 4 t]
          try rw [f_of]
          try simp only [q_bs]
          repeat rw [q_ck h5 (by decide)]
          repeat rw [q_cl (by omega)]
          refine ⟨_, g, _, _, rfl, ?_, ⟨mind, pr, hm, rfl⟩, ⟨m, was, pl, ma, nu, to, se, h3, h4, rfl⟩, hg⟩
          exact congrArg (fun z => some (z, _)) (em_w g.1 j h2)
        · rw [decide_eq_false h2, if_neg (by decide), if_pos (by first | rfl | decide)]; exact hno
    · rw [decide_eq_false h, if_pos (by decide), if_pos (by first | rfl | decide)]; exact hno
theorem s_written {N : Nat} (hN : 2000 ≤ N) {g : GS} {x : XS} {y : MS} (hx : XR g x) (hy : MR g y) (hg : GI g) : Same (F_X2_written N x) (F_X3_written N y) := by
  obtain ⟨mind, pr, hm, rfl⟩ := hx
  obtain ⟨m, was, pl, ma, nu, to, se, h3, h4, rfl⟩ := hy
  unfold F_X2_written F_X3_written
  show Same ((F_X1_book N (TW g.1)).bind _) ((F_X3_writtenIn N (em g.1)).bind _)
  rw [g_book hN, f_writtenIn hN hg.1]
  exact ⟨_, rfl, rfl⟩
theorem s_row (N : Nat) {g : GS} {x : XS} {y : MS} (hx : XR g x) (hy : MR g y) (hg : GI g) (p : Int32) : Both (F_X2_row N x p) (F_X3_row N y p) := by
  have hno4 := both_no N hx hy hg c4
  have hno6 := both_no N hx hy hg c6
  unfold F_X2_row F_X3_row F_X2_row_26 F_X3_row_23
  rcases arg_cases p with hp | ⟨j, hj, rfl⟩
  · rw [if_neg (neg_ge hp), f_wrong_neg N hp]
    try simp only [q_bs]
    rw [if_pos (by decide), if_neg (by decide)]
    exact hno4
  · rw [f_wrong N hj (by decide)]
    simp only [k_0, k_1, k_2, k_3, k_4, k_6, Nat.reduceEqDiff, Nat.reduceLeDiff, Nat.reduceLT, q_bs, ↓reduceIte, not_true_eq_false, not_false_eq_true, Bool.false_eq_true, reduceCtorEq, q_ge0 hj, (q_lt (show 99 < 2147483648 by decide) hj)]
    by_cases h : j ≤ 99
    · simp only [k_0, k_1, k_2, k_3, k_4, k_6, Nat.reduceEqDiff, Nat.reduceLeDiff, Nat.reduceLT, q_bs, ↓reduceIte, not_true_eq_false, not_false_eq_true, Bool.false_eq_true, reduceCtorEq, h, show ¬ 99 < j by omega]
      obtain ⟨mind, pr, hm, rfl⟩ := hx
      obtain ⟨m, was, pl, ma, nu, to, se, h3, h4, rfl⟩ := hy
      have hr := hg.2.2.2.2.2
      simp only [k_0, k_1, k_2, k_3, k_4, k_6, Nat.reduceEqDiff, Nat.reduceLeDiff, Nat.reduceLT, q_bs, ↓reduceIte, not_true_eq_false, not_false_eq_true, Bool.false_eq_true, reduceCtorEq]
      show Both (if nI g.2.2.2.2.2.2.1 < nI 16 then ckI (nI g.2.2.2.2.2.2.1) 16 _ else _) (if ¬ nI g.2.2.2.2.2.2.1 = nI 16 then ckI (nI g.2.2.2.2.2.2.1) 16 _ else _)
      rw [i_lt (by omega) (by decide), i_ne (by omega) (by decide)]
      by_cases h5 : g.2.2.2.2.2.2.1 < 16
      · rw [if_pos h5, if_pos (by omega)]
        repeat rw [q_ck h5 (by decide)]
        repeat rw [q_ck h5 (by decide)]
        refine ⟨_, gW g (upd g.2.2.2.2.2.1 (nI g.2.2.2.2.2.2.1).toNatClampNeg (nI j)) (g.2.2.2.2.2.2.1 + 1), _, _, rfl, rfl, ⟨mind, pr, hm, ?_⟩, ⟨m, was, pl, ma, nu, to, se, h3, h4, ?_⟩, hg.1, hg.2.1, hg.2.2.1, hg.2.2.2.1, hg.2.2.2.2.1, ?_⟩
        · show (_, _, _, _, _, _, nI g.2.2.2.2.2.2.1 + nI 1, _) = _
          try rw [nI_add]
        · show (_, _, _, _, _, _, _, _, _, nI g.2.2.2.2.2.2.1 + nI 1, _) = _
          try rw [nI_add]
        · show g.2.2.2.2.2.2.1 + 1 ≤ 16
          omega
      · rw [if_neg h5, if_neg (by omega)]; exact hno6
    · simp only [k_0, k_1, k_2, k_3, k_4, k_6, Nat.reduceEqDiff, Nat.reduceLeDiff, Nat.reduceLT, q_bs, ↓reduceIte, not_true_eq_false, not_false_eq_true, Bool.false_eq_true, reduceCtorEq, h, show 99 < j by omega]
      exact hno6
theorem s_clear (N : Nat) {g : GS} {x : XS} {y : MS} (hx : XR g x) (hy : MR g y) (hg : GI g) : Both (F_X2_clear N x) (F_X3_clear N y) := by
  obtain ⟨mind, pr, hm, rfl⟩ := hx
  obtain ⟨m, was, pl, ma, nu, to, se, h3, h4, rfl⟩ := hy
  exact ⟨_, gW g g.2.2.2.2.2.1 0, _, _, rfl, rfl, ⟨mind, pr, hm, rfl⟩, ⟨m, was, pl, ma, nu, to, se, h3, h4, rfl⟩, hg.1, hg.2.1, hg.2.2.1, hg.2.2.2.1, hg.2.2.2.2.1, Nat.zero_le _⟩
theorem s_image {N : Nat} (hN : 2000 ≤ N) {g : GS} {x : XS} {y : MS} (hx : XR g x) (hy : MR g y) (hg : GI g) : Both (F_X2_image N x) (F_X3_image N y) := by
  obtain ⟨mind, pr, hm, rfl⟩ := hx
  obtain ⟨m, was, pl, ma, nu, to, se, h3, h4, rfl⟩ := hy
  unfold F_X2_image F_X3_image
  show Both ((F_X1_become N (TW g.2.1) (TW g.1)).bind _) ((F_X3_copies N (em g.1) (em g.2.1)).bind _)
  rw [g_become N hg.2.2.1 hg.1, f_copies hN hg.1 hg.2.2.1]
  exact ⟨_, gT g g.1 true, _, _, rfl, rfl, ⟨mind, pr, hm, rfl⟩, ⟨m, was, pl, ma, nu, to, se, h3, h4, rfl⟩, hg.1, hg.2.1, hg.1, hg.2.1, hg.2.2.2.2⟩
theorem s_on {N : Nat} (hN : 2000 ≤ N) {g : GS} {x : XS} {y : MS} (hx : XR g x) (hy : MR g y) (hg : GI g) : Both (F_X2_on N x) (F_X3_on N y) := by
  have hno := both_no N hx hy hg c3
  obtain ⟨mind, pr, hm, rfl⟩ := hx
  obtain ⟨m, was, pl, ma, nu, to, se, h3, h4, rfl⟩ := hy
  unfold F_X2_on F_X3_on
  show Both (if ¬ bI g.2.2.1 = 0 then (F_X1_become N (TW g.1) (TW g.2.1)).bind _ else _) (if ¬ bI g.2.2.1 = 0 then (F_X3_copies N (em g.2.1) (em g.1)).bind _ else _)
  repeat (first | rw [i_b0] | rw [i_nb0])
  by_cases h : g.2.2.1 = false
  · rw [if_neg (fun e => e h), if_neg (fun e => e h)]; exact hno
  · rw [if_pos h, if_pos h, g_become N hg.1 hg.2.2.1, f_copies hN hg.2.2.1 hg.1]
    exact ⟨_, gN g g.2.1, _, _, rfl, rfl, ⟨mind, pr, hm, rfl⟩, ⟨m, was, pl, ma, nu, to, se, h3, h4, rfl⟩, hg.2.2.1, hg.2.2.2.1, hg.2.2.1, hg.2.2.2.1, hg.2.2.2.2⟩
