/-! both sides, who had better live, who is heir -/
theorem min_x {α : Type} {o : Option (Nat × Nat)} (ho : BO o) (c : Nat) {v : Nat} (hv : v < 100) (k : Int32 → Int32 → α) : (if encF o = -9 then k (nI c) (nI v) else if encV (-9) o ≤ nI v then k (encF o) (encV (-9) o) else k (nI c) (nI v)) = k (encF (minN o c v)) (encV (-9) (minN o c v)) := by
  cases o with
  | none => exact if_pos rfl
  | some p =>
    have hp := ho p rfl
    have h9 : ¬ nI p.1 = -9 := fun e => nI_pos (n := p.1) (by omega) (by rw [e]; decide)
    show (if nI p.1 = -9 then k (nI c) (nI v) else if nI p.2 ≤ nI v then k (nI p.1) (nI p.2) else k (nI c) (nI v)) = k (encF (if v < p.2 then some (c, v) else some p)) (encV (-9) (if v < p.2 then some (c, v) else some p))
    rw [if_neg h9, i_le (by omega) (by omega)]
    by_cases h : p.2 ≤ v
    · rw [if_pos h, if_neg (by omega)]; rfl
    · rw [if_neg h, if_pos (by omega)]; rfl
theorem min_lt {α : Type} {o : Option (Nat × Nat)} (ho : BO o) (c : Nat) {v : Nat} (hv : v < 100) (k : Int32 → Int32 → α) : (if nI v < encV (nI 1000000000) o then k (nI c) (nI v) else k (encF o) (encV (nI 1000000000) o)) = k (encF (minN o c v)) (encV (nI 1000000000) (minN o c v)) := by
  cases o with
  | none => exact if_pos (nI_lt (by omega) (by decide))
  | some p =>
    have hp := ho p rfl
    show (if nI v < nI p.2 then k (nI c) (nI v) else k (nI p.1) (nI p.2)) = k (encF (if v < p.2 then some (c, v) else some p)) (encV (nI 1000000000) (if v < p.2 then some (c, v) else some p))
    rw [i_lt (by omega) (by omega)]
    by_cases h : v < p.2
    · rw [if_pos h, if_pos h]; rfl
    · rw [if_neg h, if_neg h]; rfl
theorem bookN_le (a : TA) : bookN a ≤ 8 := cntTo_le _ _
def deadA (a : TA) (c : Nat) : TA := sD a (updN (aD a) c true)
def livI (a : TA) (n : Nat) : Nat → Option (Nat × Nat)
  | 0 => none
  | c + 1 => if live a c then minN (livI a n c) c (bookN (yearsF (deadA a c) n)) else livI a n c
theorem livI_BO (a : TA) (n : Nat) : ∀ c, c ≤ 6 → BO (livI a n c) := by
  intro c
  induction c with
  | zero => intro _; exact BO_none
  | succ c ih =>
    intro h
    have hb := bookN_le (yearsF (deadA a c) n)
    show BO (if _ then _ else _)
    split
    · exact BO_min (ih (by omega)) (by omega) (by omega)
    · exact ih (by omega)
theorem x_lives {N : Nat} (hN : 2000 ≤ N) {g : GS} (hg : GI g) {mind : TA} (hm : Good mind) (pr : FA) {n w : Nat} (hn6 : n ≤ 60) (hw : w ≤ 1) : ∃ b, Good b ∧ F_X2_lives_50 N N (xs g mind pr) (nI n) (nI w) (-9) (-9) (nI 0) = some (pickV (livI g.1 n (aN g.1)) w, xs g b pr) := by
  have hn := hg.1.1
  have h9 := hg.2.1
  refine loop_ex (fun q (z : XS × Int32 × Int32 × Int32) => F_X2_lives_50 N q z.1 (nI n) (nI w) z.2.1 z.2.2.1 z.2.2.2) (fun i z => ∃ b, Good b ∧ z = (xs g b pr, encF (livI g.1 n i), encV (-9) (livI g.1 n i), nI i)) (fun r => ∃ b, Good b ∧ r = some (pickV (livI g.1 n (aN g.1)) w, xs g b pr)) (aN g.1) ?_ ?_ N 0 (xs g mind pr, -9, -9, nI 0) (Nat.zero_le _) (by omega) ⟨mind, hm, rfl⟩
  · rintro q c z hc ⟨b, hb, rfl⟩
    have hB := livI_BO g.1 n c (by omega)
    have hD : Good (deadA g.1 c) := Good_dead1 hg.1 hc
    have hY := Good_years hD n (show aY g.1 + n < 100000 by omega)
    have hbn := bookN_le (yearsF (deadA g.1 c) n)
    have key : ∃ b3, Good b3 ∧ F_X2_lives_50 N (q + 1) (xs g b pr) (nI n) (nI w) (encF (livI g.1 n c)) (encV (-9) (livI g.1 n c)) (nI c) = F_X2_lives_50 N q (xs g b3 pr) (nI n) (nI w) (encF (livI g.1 n (c + 1))) (encV (-9) (livI g.1 n (c + 1))) (nI (c + 1)) := by
      show ∃ b3, Good b3 ∧ _ = F_X2_lives_50 N q (xs g b3 pr) (nI n) (nI w) (encF (if live g.1 c then minN (livI g.1 n c) c (bookN (yearsF (deadA g.1 c) n)) else livI g.1 n c)) (encV (-9) (if live g.1 c then minN (livI g.1 n c) c (bookN (yearsF (deadA g.1 c) n)) else livI g.1 n c)) (nI (c + 1))
      rw [F_X2_lives_50]
      unfold F_X2_lives_128 F_X2_lives_135
      show ∃ b3, Good b3 ∧ (if nI (aN g.1) ≤ nI c then _ else (F_X1_isLiving N (TW g.1) (nI c)).bind fun r68 => if ¬ r68 = 0 then (F_X1_become N (TW b) (TW g.1)).bind fun r85 => (F_X1_bury N r85 (nI c)).bind fun r94 => (F_X1_pass N r94.2 (nI n)).bind fun r103 => (F_X1_bookSize N r103).bind _ else _) = _
      rw [if_neg (by rw [q_le (by omega) (by omega)]; omega), g_isLiving N hg.1 (by omega)]
      try simp only [q_bs]
      rw [g_become N hb hg.1]
      try simp only [q_bs]
      rw [g_bury N hg.1 (by omega)]
      try simp only [q_bs]
      try rw [nI_add]
      cases hl : live g.1 c
      · rw [if_neg (fun e => e rfl), if_neg (by decide)]
        exact ⟨b, hb, rfl⟩
      · rw [if_pos (show ¬ bI true = 0 by decide), if_pos (rfl : true = true)]
        show ∃ b3, Good b3 ∧ ((F_X1_pass N (TW (deadA g.1 c)) (nI n)).bind _) = _
        rw [g_pass hN hD (by omega) (show aY g.1 + n < 100000 by omega)]
        try simp only [q_bs]
        rw [g_bookSize hN]
        try simp only [q_bs]
        exact ⟨_, hY, min_x hB c (by omega) (fun p r => F_X2_lives_50 N q (xs g (yearsF (deadA g.1 c) n) pr) (nI n) (nI w) p r (nI (c + 1)))⟩
    obtain ⟨b3, hb3, e3⟩ := key
    exact Or.inl ⟨(xs g b3 pr, encF (livI g.1 n (c + 1)), encV (-9) (livI g.1 n (c + 1)), nI (c + 1)), ⟨b3, hb3, rfl⟩, e3⟩
  · rintro q z ⟨b, hb, rfl⟩
    refine ⟨b, hb, ?_⟩
    show F_X2_lives_50 N (q + 1) (xs g b pr) (nI n) (nI w) (encF (livI g.1 n (aN g.1))) (encV (-9) (livI g.1 n (aN g.1))) (nI (aN g.1)) = _
    rw [F_X2_lives_50]
    refine (if_pos (nI_le (Nat.le_refl _) (by omega))).trans ?_
    unfold F_X2_lives_141
    generalize livI g.1 n (aN g.1) = o
    rcases (show w = 0 ∨ w = 1 by omega) with rfl | rfl
    · rw [if_neg (fun e => e rfl)]
      cases o <;> rfl
    · rw [if_pos (by decide)]
      cases o <;> rfl
theorem y_behind {N : Nat} (hN : 2000 ≤ N) (g : GS) {a : TA} (ha : Good a) (was : TA) (pl ma : Int32) (nu to : FA) (se : Int32) {n : Nat} (hn : n ≤ 60) (hy : aY a + n < 100000) : F_X3_writtenBehind N (ys g a was pl ma nu to se) (nI n) = some (nI (bookN (yearsF a n)), ys g (yearsF a n) was pl ma nu to se) := by
  have hG := Good_years ha n hy
  unfold F_X3_writtenBehind
  show ((F_X3_yearsOn N (em a) (nI n)).bind _) = _
  rw [f_yearsOn hN ha (by omega) hy]
  try simp only [q_bs]
  rw [f_writtenIn hN hG]
  try simp only [q_bs]
  rw [bits_book N hN]
  try simp only [q_bs]
theorem pick_y {α : Type} {o : Option (Nat × Nat)} (ho : BO o) {E : Int32} {w : Nat} (hw : w ≤ 1) (y : α) : (if encF o < 0 then some (encF o, y) else if ¬ nI w = 0 then some (encV E o, y) else some (encF o, y)) = some (pickV o w, y) := by
  cases o with
  | none => exact if_pos (by show (-9 : Int32) < 0; decide)
  | some p =>
    have hp := ho p rfl
    refine (if_neg (nI_pos (by omega))).trans ?_
    rcases (show w = 0 ∨ w = 1 by omega) with rfl | rfl
    · exact if_neg (fun e => e rfl)
    · exact if_pos (by decide)
theorem y_lives {N : Nat} (hN : 2000 ≤ N) {g : GS} (hg : GI g) {m : TA} (hm : Good m) (was : TA) (pl ma : Int32) (nu to : FA) (se : Int32) {n w : Nat} (hn6 : n ≤ 60) (hw : w ≤ 1) : ∃ b, Good b ∧ F_X3_lives_44 N N (ys g m was pl ma nu to se) (nI n) (nI w) (-9) (nI 1000000000) (nI 0) = some (pickV (livI g.1 n (aN g.1)) w, ys g b was pl ma nu to se) := by
  have hn := hg.1.1
  have h9 := hg.2.1
  refine loop_ex (fun q (z : MS × Int32 × Int32 × Int32) => F_X3_lives_44 N q z.1 (nI n) (nI w) z.2.1 z.2.2.1 z.2.2.2) (fun i z => ∃ b, Good b ∧ z = (ys g b was pl ma nu to se, encF (livI g.1 n i), encV (nI 1000000000) (livI g.1 n i), nI i)) (fun r => ∃ b, Good b ∧ r = some (pickV (livI g.1 n (aN g.1)) w, ys g b was pl ma nu to se)) (aN g.1) ?_ ?_ N 0 (ys g m was pl ma nu to se, -9, nI 1000000000, nI 0) (Nat.zero_le _) (by omega) ⟨m, hm, rfl⟩
  · rintro q c z hc ⟨b, hb, rfl⟩
    have hB := livI_BO g.1 n c (by omega)
    have hD : Good (deadA g.1 c) := Good_dead1 hg.1 hc
    have hY := Good_years hD n (show aY g.1 + n < 100000 by omega)
    have hbn := bookN_le (yearsF (deadA g.1 c) n)
    have w3 := ix_lt (c := c) (w := 3) (by omega) (by decide)
    have key : ∃ b3, Good b3 ∧ F_X3_lives_44 N (q + 1) (ys g b was pl ma nu to se) (nI n) (nI w) (encF (livI g.1 n c)) (encV (nI 1000000000) (livI g.1 n c)) (nI c) = F_X3_lives_44 N q (ys g b3 was pl ma nu to se) (nI n) (nI w) (encF (livI g.1 n (c + 1))) (encV (nI 1000000000) (livI g.1 n (c + 1))) (nI (c + 1)) := by
      show ∃ b3, Good b3 ∧ _ = F_X3_lives_44 N q (ys g b3 was pl ma nu to se) (nI n) (nI w) (encF (if live g.1 c then minN (livI g.1 n c) c (bookN (yearsF (deadA g.1 c) n)) else livI g.1 n c)) (encV (nI 1000000000) (if live g.1 c then minN (livI g.1 n c) c (bookN (yearsF (deadA g.1 c) n)) else livI g.1 n c)) (nI (c + 1))
      rw [F_X3_lives_44]
      unfold F_X3_lives_118
      show ∃ b3, Good b3 ∧ (if em g.1 (nI 0).toNatClampNeg ≤ nI c then _ else (F_X3_isAlive N (em g.1) (nI c)).bind fun r61 => if ¬ r61 = 0 then (F_X3_copies N (em g.1) (em b)).bind fun r78 => (F_X3_of N (nI c) (nI 3)).bind fun r88 => ckI r88 74 ((F_X3_writtenBehind N (em g.1, upd r78 r88.toNatClampNeg (nI true.toNat), (ys g b was pl ma nu to se).2.2) (nI n)).bind _) else _) = _
      try rw [q_c0]
      try rw [em_0]
      rw [if_neg (by rw [q_le (by omega) (by omega)]; omega), f_isAlive N g.1 (by omega)]
      try simp only [q_bs]
      rw [f_copies hN hg.1 hb]
      try simp only [q_bs]
      try rw [f_of]
      try simp only [q_bs]
      repeat rw [q_ck w3 (by decide)]
      rw [nI_clamp (show ix c 3 < 2 ^ 31 by omega), em_sD, live_al hc]
      try rw [nI_add]
      cases aD g.1 c
      · rw [if_pos (show ¬ bI (!false) = 0 by decide), if_pos (show (!false) = true from rfl)]
        show ∃ b3, Good b3 ∧ ((F_X3_writtenBehind N (ys g (deadA g.1 c) was pl ma nu to se) (nI n)).bind _) = _
        rw [y_behind hN g hD was pl ma nu to se hn6 (show aY g.1 + n < 100000 by omega)]
        try simp only [q_bs]
        exact ⟨_, hY, min_lt hB c (by omega) (fun p r => F_X3_lives_44 N q (ys g (yearsF (deadA g.1 c) n) was pl ma nu to se) (nI n) (nI w) p r (nI (c + 1)))⟩
      · rw [if_neg (fun e => e rfl), if_neg (show ¬ (!true) = true by decide)]
        exact ⟨b, hb, rfl⟩
    obtain ⟨b3, hb3, e3⟩ := key
    exact Or.inl ⟨(ys g b3 was pl ma nu to se, encF (livI g.1 n (c + 1)), encV (nI 1000000000) (livI g.1 n (c + 1)), nI (c + 1)), ⟨b3, hb3, rfl⟩, e3⟩
  · rintro q z ⟨b, hb, rfl⟩
    refine ⟨b, hb, ?_⟩
    show F_X3_lives_44 N (q + 1) (ys g b was pl ma nu to se) (nI n) (nI w) (encF (livI g.1 n (aN g.1))) (encV (nI 1000000000) (livI g.1 n (aN g.1))) (nI (aN g.1)) = _
    rw [F_X3_lives_44]
    show (if em g.1 (nI 0).toNatClampNeg ≤ nI (aN g.1) then _ else _) = _
    try rw [q_c0]
    try rw [em_0]
    refine (if_pos (nI_le (Nat.le_refl _) (by omega))).trans ?_
    unfold F_X3_lives_124
    exact pick_y (livI_BO g.1 n (aN g.1) hn) hw _
theorem s_lives {N : Nat} (hN : 2000 ≤ N) {g : GS} {x : XS} {y : MS} (hx : XR g x) (hy : MR g y) (hg : GI g) (p q : Int32) : Both (F_X2_lives N x p q) (F_X3_lives N y p q) := by
  have hno2 := both_no N hx hy hg c2
  have hno4 := both_no N hx hy hg c4
  have hno6 := both_no N hx hy hg c6
  unfold F_X2_lives F_X3_lives F_X2_lives_33 F_X3_lives_23
  rcases arg_cases p with hp | ⟨n, hn, rfl⟩
  · rw [f_wrong_neg N hp]
    simp only [k_0, k_1, k_2, k_3, k_4, k_6, Nat.reduceEqDiff, Nat.reduceLeDiff, Nat.reduceLT, q_bs, ↓reduceIte, not_true_eq_false, not_false_eq_true, Bool.false_eq_true, reduceCtorEq, neg_ge hp]
    exact hno4
  · rw [f_wrong N hn (by decide)]
    simp (disch := omega) only [k_0, k_1, k_2, k_3, k_4, k_6, Nat.reduceEqDiff, Nat.reduceLeDiff, Nat.reduceLT, q_le, q_lt, q_eq, q_lt0, q_ge0, q_eq0, q_gt0, q_le0, q_b0, q_ck, q_cl, nI_add, q_bs, ↓reduceIte, not_true_eq_false, not_false_eq_true, Bool.false_eq_true, reduceCtorEq, Bool.not_eq_false', decide_eq_false_iff_not, decide_eq_true_eq, Bool.not_false, Bool.not_true]
    by_cases h : n ≤ 60
    · simp only [k_0, k_1, k_2, k_3, k_4, k_6, Nat.reduceEqDiff, Nat.reduceLeDiff, Nat.reduceLT, q_bs, ↓reduceIte, not_true_eq_false, not_false_eq_true, Bool.false_eq_true, reduceCtorEq, h]
      rcases arg_cases q with hq | ⟨w, hw, rfl⟩
      · rw [f_isIn_neg N (by decide) hq]
        simp only [k_0, k_1, k_2, k_3, k_4, k_6, Nat.reduceEqDiff, Nat.reduceLeDiff, Nat.reduceLT, q_bs, ↓reduceIte, not_true_eq_false, not_false_eq_true, Bool.false_eq_true, reduceCtorEq, hq]
        exact hno2
      · rw [f_isIn N hw (by decide) (by decide)]
        simp (disch := omega) only [k_0, k_1, k_2, k_3, k_4, k_6, Nat.reduceEqDiff, Nat.reduceLeDiff, Nat.reduceLT, q_le, q_lt, q_eq, q_lt0, q_ge0, q_eq0, q_gt0, q_le0, q_b0, q_ck, q_cl, nI_add, q_bs, ↓reduceIte, not_true_eq_false, not_false_eq_true, Bool.false_eq_true, reduceCtorEq, Bool.not_eq_false', decide_eq_false_iff_not, decide_eq_true_eq, Bool.not_false, Bool.not_true]
        by_cases h1 : w ≤ 1
        · simp only [k_0, k_1, k_2, k_3, k_4, k_6, Nat.reduceEqDiff, Nat.reduceLeDiff, Nat.reduceLT, q_bs, ↓reduceIte, not_true_eq_false, not_false_eq_true, Bool.false_eq_true, reduceCtorEq, h1, show 0 ≤ w ∧ w ≤ 1 by omega]
          obtain ⟨mind, pr, hm, rfl⟩ := hx
          obtain ⟨m, was, pl, ma, nu, to, se, h3, h4, rfl⟩ := hy
          obtain ⟨b, hb, e⟩ := x_lives hN hg hm pr h h1
          obtain ⟨m2, hm2, e2⟩ := y_lives hN hg h3 was pl ma nu to se h h1
          rw [e, e2]
          exact ⟨_, g, _, _, rfl, rfl, XR.mk b pr hb rfl, MR.mk m2 was pl ma nu to se hm2 h4 rfl, hg⟩
        · simp only [k_0, k_1, k_2, k_3, k_4, k_6, Nat.reduceEqDiff, Nat.reduceLeDiff, Nat.reduceLT, q_bs, ↓reduceIte, not_true_eq_false, not_false_eq_true, Bool.false_eq_true, reduceCtorEq, h1, show ¬ (0 ≤ w ∧ w ≤ 1) by omega]
          exact hno2
    · simp only [k_0, k_1, k_2, k_3, k_4, k_6, Nat.reduceEqDiff, Nat.reduceLeDiff, Nat.reduceLT, q_bs, ↓reduceIte, not_true_eq_false, not_false_eq_true, Bool.false_eq_true, reduceCtorEq, h]; exact hno6
def widA (a : TA) (c : Nat) : TA := sK a (updN (aK a) c 2)
theorem Good_k1 {a : TA} (h : Good a) {c k : Nat} (hc : c < aN a) (hk : k ≤ 5) : Good (sK a (updN (aK a) c k)) := by
  obtain ⟨h1, h2, h3, h4, h5, h6, h7, h8⟩ := h
  refine ⟨h1, h2, fun i => ?_, h4, h5, h6, fun i hi => ?_, h8⟩
  · show updN (aK a) c k i ≤ 5
    unfold updN
    split
    · exact hk
    · exact h3 i
  · obtain ⟨t1, t2, t3, t4⟩ := h7 i hi
    have hi : aN a ≤ i := hi
    exact ⟨(updN_n _ _ (by omega)).trans t1, t2, t3, t4⟩
theorem Good_f1 {a : TA} (h : Good a) {c f : Nat} (hc : c < aN a) (hf : f ≤ 9) : Good (sF a (updN (aF a) c f)) := by
  obtain ⟨h1, h2, h3, h4, h5, h6, h7, h8⟩ := h
  refine ⟨h1, h2, h3, fun i => ?_, h5, h6, fun i hi => ?_, h8⟩
  · show updN (aF a) c f i ≤ 9
    unfold updN
    split
    · exact hf
    · exact h4 i
  · obtain ⟨t1, t2, t3, t4⟩ := h7 i hi
    have hi : aN a ≤ i := hi
    exact ⟨t1, (updN_n _ _ (by omega)).trans t2, t3, t4⟩
theorem TW_upK (a : TA) {c k : Nat} : (upd (TW a).1 c (nI k), (TW a).2.1, (TW a).2.2.1, (TW a).2.2.2.1, (TW a).2.2.2.2.1, (TW a).2.2.2.2.2.1, (TW a).2.2.2.2.2.2.1, (TW a).2.2.2.2.2.2.2) = TW (sK a (updN (aK a) c k)) := TW_ext (fun i => by
  show (if i = c then nI k else nI (aK a i)) = nI (if i = c then k else aK a i)
  split <;> rfl) (fun _ => rfl) (fun _ => rfl) (fun _ => rfl) (fun _ => rfl) rfl rfl rfl
theorem TW_upF (a : TA) {c f : Nat} : ((TW a).1, upd (TW a).2.1 c (nI f), (TW a).2.2.1, (TW a).2.2.2.1, (TW a).2.2.2.2.1, (TW a).2.2.2.2.2.1, (TW a).2.2.2.2.2.2.1, (TW a).2.2.2.2.2.2.2) = TW (sF a (updN (aF a) c f)) := TW_ext (fun _ => rfl) (fun i => by
  show (if i = c then nI f else nI (aF a i)) = nI (if i = c then f else aF a i)
  split <;> rfl) (fun _ => rfl) (fun _ => rfl) (fun _ => rfl) rfl rfl rfl
def heiI (a : TA) (n : Nat) : Nat → Nat × Int32
  | 0 => (bookN (yearsF a n), -9)
  | c + 1 => if live a c = true ∧ (heiI a n c).1 < bookN (yearsF (widA a c) n) then (bookN (yearsF (widA a c) n), nI c) else heiI a n c
theorem heiI_le (a : TA) (n : Nat) : ∀ c, (heiI a n c).1 ≤ 8 := by
  intro c
  induction c with
  | zero => exact bookN_le _
  | succ c ih =>
    show (if _ then _ else _ : Nat × Int32).1 ≤ 8
    split
    · exact bookN_le _
    · exact ih
theorem x_heir {N : Nat} (hN : 2000 ≤ N) {g : GS} (hg : GI g) {mind : TA} (hm : Good mind) (pr : FA) {n : Nat} (hn6 : n ≤ 60) : ∃ b, Good b ∧ F_X2_heir_57 N N (xs g mind pr) (nI n) (nI (bookN (yearsF g.1 n))) (-9) (nI 0) = some ((heiI g.1 n (aN g.1)).2, xs g b pr) := by
  have hn := hg.1.1
  have h9 := hg.2.1
  refine loop_ex (fun q (z : XS × Int32 × Int32 × Int32) => F_X2_heir_57 N q z.1 (nI n) z.2.1 z.2.2.1 z.2.2.2) (fun i z => ∃ b, Good b ∧ z = (xs g b pr, nI (heiI g.1 n i).1, (heiI g.1 n i).2, nI i)) (fun r => ∃ b, Good b ∧ r = some ((heiI g.1 n (aN g.1)).2, xs g b pr)) (aN g.1) ?_ ?_ N 0 (xs g mind pr, nI (bookN (yearsF g.1 n)), -9, nI 0) (Nat.zero_le _) (by omega) ⟨mind, hm, rfl⟩
  · rintro q c z hc ⟨b, hb, rfl⟩
    have hB := heiI_le g.1 n c
    have hK := Good_k1 hg.1 hc (k := 2) (by decide)
    have hD : Good (widA g.1 c) := hK
    have hY := Good_years hD n (show aY g.1 + n < 100000 by omega)
    have hbn := bookN_le (yearsF (widA g.1 c) n)
    have key : ∃ b3, Good b3 ∧ F_X2_heir_57 N (q + 1) (xs g b pr) (nI n) (nI (heiI g.1 n c).1) (heiI g.1 n c).2 (nI c) = F_X2_heir_57 N q (xs g b3 pr) (nI n) (nI (heiI g.1 n (c + 1)).1) (heiI g.1 n (c + 1)).2 (nI (c + 1)) := by
      show ∃ b3, Good b3 ∧ _ = F_X2_heir_57 N q (xs g b3 pr) (nI n) (nI (if live g.1 c = true ∧ (heiI g.1 n c).1 < bookN (yearsF (widA g.1 c) n) then (bookN (yearsF (widA g.1 c) n), nI c) else heiI g.1 n c).1) (if live g.1 c = true ∧ (heiI g.1 n c).1 < bookN (yearsF (widA g.1 c) n) then (bookN (yearsF (widA g.1 c) n), nI c) else heiI g.1 n c).2 (nI (c + 1))
      rw [F_X2_heir_57]
      unfold F_X2_heir_136
      show ∃ b3, Good b3 ∧ (if nI (aN g.1) ≤ nI c then _ else (F_X1_isLiving N (TW g.1) (nI c)).bind fun r75 => if ¬ r75 = 0 then (F_X1_become N (TW b) (TW g.1)).bind fun r92 => ckI (nI c) 6 ((F_X1_pass N (upd r92.1 (nI c).toNatClampNeg (nI 2), r92.2.1, r92.2.2.1, r92.2.2.2.1, r92.2.2.2.2.1, r92.2.2.2.2.2.1, r92.2.2.2.2.2.2.1, r92.2.2.2.2.2.2.2) (nI n)).bind fun r111 => (F_X1_bookSize N r111).bind fun r118 => if r118 ≤ nI (heiI g.1 n c).1 then _ else (F_X1_bookSize N r111).bind _) else _) = _
      rw [if_neg (by rw [q_le (by omega) (by omega)]; omega), g_isLiving N hg.1 (by omega)]
      try simp only [q_bs]
      rw [g_become N hb hg.1]
      try simp only [q_bs]
      repeat rw [q_ck (show c < 6 by omega) (by decide)]
      rw [nI_clamp (show c < 2 ^ 31 by omega), TW_upK, g_pass hN hK (by omega) (show aY g.1 + n < 100000 by omega)]
      try simp only [q_bs]
      rw [g_bookSize hN]
      try simp only [q_bs]
      try rw [nI_add]
      cases hl : live g.1 c
      · rw [if_neg (fun e => e rfl), if_neg (fun e => by cases e.1)]
        exact ⟨b, hb, rfl⟩
      · rw [if_pos (show ¬ bI true = 0 by decide)]
        show ∃ b3, Good b3 ∧ (if nI (bookN (yearsF (widA g.1 c) n)) ≤ nI (heiI g.1 n c).1 then _ else _) = _
        rw [i_le (by omega) (by omega)]
        by_cases h : bookN (yearsF (widA g.1 c) n) ≤ (heiI g.1 n c).1
        · rw [if_pos h, if_neg (fun e => by have := e.2; omega)]
          exact ⟨_, hY, rfl⟩
        · rw [if_neg h, if_pos (show true = true ∧ (heiI g.1 n c).1 < bookN (yearsF (widA g.1 c) n) from ⟨rfl, by omega⟩)]
          exact ⟨_, hY, rfl⟩
    obtain ⟨b3, hb3, e3⟩ := key
    exact Or.inl ⟨(xs g b3 pr, nI (heiI g.1 n (c + 1)).1, (heiI g.1 n (c + 1)).2, nI (c + 1)), ⟨b3, hb3, rfl⟩, e3⟩
  · rintro q z ⟨b, hb, rfl⟩
    refine ⟨b, hb, ?_⟩
    show F_X2_heir_57 N (q + 1) (xs g b pr) (nI n) _ _ (nI (aN g.1)) = _
    rw [F_X2_heir_57]
    exact if_pos (nI_le (Nat.le_refl _) (by omega))
theorem y_heir {N : Nat} (hN : 2000 ≤ N) {g : GS} (hg : GI g) {m : TA} (hm : Good m) (was : TA) (pl ma : Int32) (nu to : FA) (se : Int32) {n : Nat} (hn6 : n ≤ 60) : ∃ b, Good b ∧ F_X3_heir_41 N N (ys g m was pl ma nu to se) (nI n) (nI (bookN (yearsF g.1 n))) (-9) (nI 0) = some ((heiI g.1 n (aN g.1)).2, ys g b was pl ma nu to se) := by
  have hn := hg.1.1
  have h9 := hg.2.1
  refine loop_ex (fun q (z : MS × Int32 × Int32 × Int32) => F_X3_heir_41 N q z.1 (nI n) z.2.1 z.2.2.1 z.2.2.2) (fun i z => ∃ b, Good b ∧ z = (ys g b was pl ma nu to se, nI (heiI g.1 n i).1, (heiI g.1 n i).2, nI i)) (fun r => ∃ b, Good b ∧ r = some ((heiI g.1 n (aN g.1)).2, ys g b was pl ma nu to se)) (aN g.1) ?_ ?_ N 0 (ys g m was pl ma nu to se, nI (bookN (yearsF g.1 n)), -9, nI 0) (Nat.zero_le _) (by omega) ⟨m, hm, rfl⟩
  · rintro q c z hc ⟨b, hb, rfl⟩
    have hB := heiI_le g.1 n c
    have hK := Good_k1 hg.1 hc (k := 2) (by decide)
    have hD : Good (widA g.1 c) := hK
    have hY := Good_years hD n (show aY g.1 + n < 100000 by omega)
    have hbn := bookN_le (yearsF (widA g.1 c) n)
    have w0 := ix_lt (c := c) (w := 0) (by omega) (by decide)
    have key : ∃ b3, Good b3 ∧ F_X3_heir_41 N (q + 1) (ys g b was pl ma nu to se) (nI n) (nI (heiI g.1 n c).1) (heiI g.1 n c).2 (nI c) = F_X3_heir_41 N q (ys g b3 was pl ma nu to se) (nI n) (nI (heiI g.1 n (c + 1)).1) (heiI g.1 n (c + 1)).2 (nI (c + 1)) := by
      show ∃ b3, Good b3 ∧ _ = F_X3_heir_41 N q (ys g b3 was pl ma nu to se) (nI n) (nI (if live g.1 c = true ∧ (heiI g.1 n c).1 < bookN (yearsF (widA g.1 c) n) then (bookN (yearsF (widA g.1 c) n), nI c) else heiI g.1 n c).1) (if live g.1 c = true ∧ (heiI g.1 n c).1 < bookN (yearsF (widA g.1 c) n) then (bookN (yearsF (widA g.1 c) n), nI c) else heiI g.1 n c).2 (nI (c + 1))
      rw [F_X3_heir_41]
      unfold F_X3_heir_113
      show ∃ b3, Good b3 ∧ (if em g.1 (nI 0).toNatClampNeg ≤ nI c then _ else (F_X3_isAlive N (em g.1) (nI c)).bind fun r58 => if ¬ r58 = 0 then (F_X3_copies N (em g.1) (em b)).bind fun r75 => (F_X3_of N (nI c) (nI 0)).bind fun r85 => ckI r85 74 ((F_X3_writtenBehind N (em g.1, upd r75 r85.toNatClampNeg (nI 2), (ys g b was pl ma nu to se).2.2) (nI n)).bind _) else _) = _
      try rw [q_c0]
      try rw [em_0]
      rw [if_neg (by rw [q_le (by omega) (by omega)]; omega), f_isAlive N g.1 (by omega)]
      try simp only [q_bs]
      rw [f_copies hN hg.1 hb]
      try simp only [q_bs]
      try rw [f_of]
      try simp only [q_bs]
      repeat rw [q_ck w0 (by decide)]
      rw [nI_clamp (show ix c 0 < 2 ^ 31 by omega), em_sK, live_al hc]
      try rw [nI_add]
      cases aD g.1 c
      · rw [if_pos (show ¬ bI (!false) = 0 by decide)]
        show ∃ b3, Good b3 ∧ ((F_X3_writtenBehind N (ys g (widA g.1 c) was pl ma nu to se) (nI n)).bind _) = _
        rw [y_behind hN g hD was pl ma nu to se hn6 (show aY g.1 + n < 100000 by omega)]
        try simp only [q_bs]
        show ∃ b3, Good b3 ∧ (if nI (heiI g.1 n c).1 < nI (bookN (yearsF (widA g.1 c) n)) then _ else _) = _
        rw [i_lt (by omega) (by omega)]
        by_cases h : (heiI g.1 n c).1 < bookN (yearsF (widA g.1 c) n)
        · rw [if_pos h, if_pos (show (!false) = true ∧ (heiI g.1 n c).1 < bookN (yearsF (widA g.1 c) n) from ⟨rfl, h⟩)]
          exact ⟨_, hY, rfl⟩
        · rw [if_neg h, if_neg (fun e => h e.2)]
          exact ⟨_, hY, rfl⟩
      · rw [if_neg (fun e => e rfl), if_neg (fun e => by cases e.1)]
        exact ⟨b, hb, rfl⟩
    obtain ⟨b3, hb3, e3⟩ := key
    exact Or.inl ⟨(ys g b3 was pl ma nu to se, nI (heiI g.1 n (c + 1)).1, (heiI g.1 n (c + 1)).2, nI (c + 1)), ⟨b3, hb3, rfl⟩, e3⟩
  · rintro q z ⟨b, hb, rfl⟩
    refine ⟨b, hb, ?_⟩
    show F_X3_heir_41 N (q + 1) (ys g b was pl ma nu to se) (nI n) _ _ (nI (aN g.1)) = _
    rw [F_X3_heir_41]
    show (if em g.1 (nI 0).toNatClampNeg ≤ nI (aN g.1) then _ else _) = _
    try rw [q_c0]
    try rw [em_0]
    exact if_pos (nI_le (Nat.le_refl _) (by omega))
theorem s_heir {N : Nat} (hN : 2000 ≤ N) {g : GS} {x : XS} {y : MS} (hx : XR g x) (hy : MR g y) (hg : GI g) (p : Int32) : Both (F_X2_heir N x p) (F_X3_heir N y p) := by
  have hno4 := both_no N hx hy hg c4
  have hno6 := both_no N hx hy hg c6
  have h9 := hg.2.1
  unfold F_X2_heir F_X3_heir
  rcases arg_cases p with hp | ⟨n, hn, rfl⟩
  · rw [f_wrong_neg N hp]
    simp only [k_0, k_1, k_2, k_3, k_4, k_6, Nat.reduceEqDiff, Nat.reduceLeDiff, Nat.reduceLT, q_bs, ↓reduceIte, not_true_eq_false, not_false_eq_true, Bool.false_eq_true, reduceCtorEq, neg_ge hp]
    exact hno4
  · rw [f_wrong N hn (by decide)]
    simp (disch := omega) only [k_0, k_1, k_2, k_3, k_4, k_6, Nat.reduceEqDiff, Nat.reduceLeDiff, Nat.reduceLT, q_le, q_lt, q_eq, q_lt0, q_ge0, q_eq0, q_gt0, q_le0, q_b0, q_ck, q_cl, nI_add, q_bs, ↓reduceIte, not_true_eq_false, not_false_eq_true, Bool.false_eq_true, reduceCtorEq, Bool.not_eq_false', decide_eq_false_iff_not, decide_eq_true_eq, Bool.not_false, Bool.not_true]
    by_cases h : n ≤ 60
    · simp only [k_0, k_1, k_2, k_3, k_4, k_6, Nat.reduceEqDiff, Nat.reduceLeDiff, Nat.reduceLT, q_bs, ↓reduceIte, not_true_eq_false, not_false_eq_true, Bool.false_eq_true, reduceCtorEq, h]
      obtain ⟨mind, pr, hm, rfl⟩ := hx
      obtain ⟨m, was, pl, ma, nu, to, se, h3, h4, rfl⟩ := hy
      have hG := Good_years hg.1 n (by omega)
      obtain ⟨b, hb, e⟩ := x_heir hN hg hG pr h
      obtain ⟨m2, hm2, e2⟩ := y_heir hN hg hG was pl ma nu to se h
      show Both ((F_X1_become N (TW mind) (TW g.1)).bind fun r32 => (F_X1_pass N r32 (nI n)).bind fun r40 => (F_X1_bookSize N r40).bind fun r47 => F_X2_heir_57 N N (TW g.1, r40, (xs g mind pr).2.2) (nI n) r47 (-9) (nI 0)) ((F_X3_copies N (em g.1) (em m)).bind fun r25 => (F_X3_writtenBehind N (em g.1, r25, (ys g m was pl ma nu to se).2.2) (nI n)).bind fun r30 => F_X3_heir_41 N N r30.2 (nI n) r30.1 (-9) (nI 0))
      rw [g_become N hm hg.1]
      try simp only [q_bs]
      rw [g_pass hN hg.1 (by omega) (by omega)]
      try simp only [q_bs]
      rw [g_bookSize hN]
      try simp only [q_bs]
      rw [f_copies hN hg.1 h3]
      try simp only [q_bs]
      show Both (F_X2_heir_57 N N (xs g (yearsF g.1 n) pr) (nI n) (nI (bookN (yearsF g.1 n))) (-9) (nI 0)) ((F_X3_writtenBehind N (ys g g.1 was pl ma nu to se) (nI n)).bind _)
      rw [y_behind hN g hg.1 was pl ma nu to se h (by omega)]
      try simp only [q_bs]
      rw [e, e2]
      exact ⟨_, g, _, _, rfl, rfl, XR.mk b pr hb rfl, MR.mk m2 was pl ma nu to se hm2 h4 rfl, hg⟩
    · simp only [k_0, k_1, k_2, k_3, k_4, k_6, Nat.reduceEqDiff, Nat.reduceLeDiff, Nat.reduceLT, q_bs, ↓reduceIte, not_true_eq_false, not_false_eq_true, Bool.false_eq_true, reduceCtorEq, h]; exact hno6
