/-! both sides, towns by lot -/
def lotM (w : Nat) (b : TA) : Nat := if w = 0 then bookN b else livN b
def lotS (a : TA) (w : Nat) (z : Int32) : Nat → Nat × Int32
  | 0 => (0, z)
  | i + 1 => ((lotS a w z i).1 + lotM w (yearsF (drawA a (lotS a w z i).2 (aN a)).1 10), (drawA a (lotS a w z i).2 (aN a)).2)
theorem x_lots {N : Nat} (hN : 2000 ≤ N) {g : GS} (hg : GI g) {mind : TA} (hm : Good mind) (pr : FA) (z : Int32) {n w : Nat} (hn : n ≤ 20) (hw : w ≤ 1) : ∃ b, Good b ∧ F_X2_lots_50 N N (xs g mind pr) (nI n) (nI w) (nI 0) z (nI 0) = some (nI (lotS g.1 w z n).1, xs g b pr) := by
  have h9 := hg.2.1
  refine loop_ex (fun q (y : XS × Int32 × Int32 × Int32) => F_X2_lots_50 N q y.1 (nI n) (nI w) y.2.1 y.2.2.1 y.2.2.2) (fun i y => ∃ b, Good b ∧ y = (xs g b pr, nI (lotS g.1 w z i).1, (lotS g.1 w z i).2, nI i)) (fun r => ∃ b, Good b ∧ r = some (nI (lotS g.1 w z n).1, xs g b pr)) n ?_ ?_ N 0 (xs g mind pr, nI 0, z, nI 0) (Nat.zero_le _) (by omega) ⟨mind, hm, rfl⟩
  · rintro q i y hi ⟨b, hb, rfl⟩
    have hD := Good_drawA hg.1 (lotS g.1 w z i).2 (aN g.1) (Nat.le_refl _)
    have hDY := (drawA_n g.1 (lotS g.1 w z i).2 (aN g.1)).2.1
    have hY := Good_years hD 10 (by omega)
    refine Or.inl ⟨(xs g (yearsF (drawA g.1 (lotS g.1 w z i).2 (aN g.1)).1 10) pr, nI (lotS g.1 w z (i + 1)).1, (lotS g.1 w z (i + 1)).2, nI (i + 1)), ⟨_, hY, rfl⟩, ?_⟩
    show F_X2_lots_50 N (q + 1) (xs g b pr) (nI n) (nI w) (nI (lotS g.1 w z i).1) (lotS g.1 w z i).2 (nI i) = F_X2_lots_50 N q (xs g (yearsF (drawA g.1 (lotS g.1 w z i).2 (aN g.1)).1 10) pr) (nI n) (nI w) (nI ((lotS g.1 w z i).1 + lotM w (yearsF (drawA g.1 (lotS g.1 w z i).2 (aN g.1)).1 10))) (drawA g.1 (lotS g.1 w z i).2 (aN g.1)).2 (nI (i + 1))
    rw [F_X2_lots_50, if_neg (by rw [q_le (by omega) (by omega)]; omega)]
    unfold F_X2_lots_110
    show ((F_X1_become N (TW b) (TW g.1)).bind fun r64 => (F_X1_drawWords N r64 (lotS g.1 w z i).2).bind fun r73 => (F_X1_pass N r73.2 (nI 10)).bind fun r84 => if ¬ nI w = 0 then (F_X1_howManyLive N r84).bind _ else (F_X1_bookSize N r84).bind _) = _
    rw [g_become N hb hg.1]
    try simp only [q_bs]
    rw [g_draw hN hg.1]
    try simp only [q_bs]
    rw [g_pass hN hD (by decide) (by omega)]
    try simp only [q_bs]
    rw [g_howMany, g_bookSize hN]
    try simp only [q_bs]
    try simp only [q_bs]
    try rw [nI_add i 1]
    try rw [nI_add]
    try rw [nI_add]
    rcases (show w = 0 ∨ w = 1 by omega) with rfl | rfl
    · rw [if_neg (fun e => e rfl)]
      rfl
    · rw [if_pos (by decide)]
      rfl
  · rintro q y ⟨b, hb, rfl⟩
    refine ⟨b, hb, ?_⟩
    show F_X2_lots_50 N (q + 1) (xs g b pr) (nI n) (nI w) _ _ (nI n) = _
    rw [F_X2_lots_50]
    exact if_pos (nI_le (Nat.le_refl _) (by omega))
theorem y_drawn (N : Nat) (g : GS) (b was : TA) (pl ma : Int32) (nu to : FA) (z : Int32) : F_X3_drawn N (ys g b was pl ma nu to z) (nI 3) = some (nI (dv (nz z)), ys g b was pl ma nu to (nz z)) := by
  have h := dv_is (nz z)
  unfold F_X3_drawn
  try rw [q_ckZ (by decide) (by decide)]
  show some ((((nz z &&& nI 2147483647) / nI 256) - ((nz z &&& nI 2147483647) / nI 256) / nI 3 * nI 3), _) = _
  rw [h]
  rfl
theorem y_drawC {N : Nat} (hN : 2000 ≤ N) {g : GS} (hg : GI g) (b was : TA) (pl ma : Int32) (nu to : FA) (z x1 x3 x4 x5 : Int32) {c : Nat} (hc : c < aN g.1) (hl : aD g.1 c = false) (k52 : MS → Int32 → Int32 → Int32 → Int32 → Option (Int32 × MS)) (k72 : MS → Int32 → Int32 → Int32 → Int32 → Int32 → Option (Int32 × MS)) : F_X3_lots_86 N k52 k72 N (ys g b was pl ma nu to z) x1 x3 x4 x5 (nI c) (nI 0) = k72 (ys g (drawC b c z 8).1 was pl ma nu to (drawC b c z 8).2) x1 x3 x4 x5 (nI (c + 1)) := by
  have hn := hg.1.1
  refine loop_up (fun q (y : MS × Int32) => F_X3_lots_86 N k52 k72 q y.1 x1 x3 x4 x5 (nI c) y.2) (fun t => (ys g (drawC b c z t).1 was pl ma nu to (drawC b c z t).2, nI t)) 8 _ ?_ ?_ N 0 (Nat.zero_le _) (by omega)
  · intro q t ht
    show F_X3_lots_86 N k52 k72 (q + 1) (ys g (drawC b c z t).1 was pl ma nu to (drawC b c z t).2) x1 x3 x4 x5 (nI c) (nI t) = F_X3_lots_86 N k52 k72 q (ys g (sW (drawC b c z t).1 (updW (aW (drawC b c z t).1) c t (dv (nz (drawC b c z t).2)))) was pl ma nu to (nz (drawC b c z t).2)) x1 x3 x4 x5 (nI c) (nI (t + 1))
    generalize drawC b c z t = q2
    obtain ⟨b2, w2⟩ := q2
    have h5 := ix_lt (c := c) (w := 4 + t) (by omega) (by omega)
    rw [F_X3_lots_86, if_neg (by rw [q_le (by decide) (by omega)]; omega)]
    show ((F_X3_isAlive N (em g.1) (nI c)).bind fun r99 => if r99 = 0 then _ else (F_X3_of N (nI c) (nI 4 + nI t)).bind fun r115 => (F_X3_drawn N (ys g b2 was pl ma nu to w2) (nI 3)).bind _) = _
    rw [f_isAlive N g.1 (by omega), hl]
    try simp only [q_bs]
    rw [if_neg (show ¬ bI (!false) = 0 by decide)]
    try rw [nI_add 4 t]
    try rw [f_of]
    try simp only [q_bs]
    rw [y_drawn]
    try simp only [q_bs]
    repeat rw [q_ck h5 (by decide)]
    rw [nI_clamp (show ix c (4 + t) < 2 ^ 31 by omega)]
    show F_X3_lots_86 N k52 k72 q (em g.1, upd (em b2) (ix c (4 + t)) (nI (dv (nz w2))), (ys g b2 was pl ma nu to (nz w2)).2.2) x1 x3 x4 x5 (nI c) (nI t + nI 1) = _
    rw [em_sW b2 c t (dv (nz w2)) ht]
    try rw [nI_add]
  · intro q
    show F_X3_lots_86 N k52 k72 (q + 1) (ys g (drawC b c z 8).1 was pl ma nu to (drawC b c z 8).2) x1 x3 x4 x5 (nI c) (nI 8) = _
    rw [F_X3_lots_86, if_pos (by decide)]
    unfold F_X3_lots_130
    try rw [nI_add]
theorem y_drawA {N : Nat} (hN : 2000 ≤ N) {g : GS} (hg : GI g) (was : TA) (pl ma : Int32) (nu to : FA) (z x1 x3 x4 x5 : Int32) (k52 : MS → Int32 → Int32 → Int32 → Int32 → Option (Int32 × MS)) : F_X3_lots_72 N k52 N (ys g g.1 was pl ma nu to z) x1 x3 x4 x5 (nI 0) = F_X3_lots_136 N k52 (ys g (drawA g.1 z (aN g.1)).1 was pl ma nu to (drawA g.1 z (aN g.1)).2) x1 x3 x4 x5 := by
  have hn := hg.1.1
  refine loop_up (fun q (y : MS × Int32) => F_X3_lots_72 N k52 q y.1 x1 x3 x4 x5 y.2) (fun c => (ys g (drawA g.1 z c).1 was pl ma nu to (drawA g.1 z c).2, nI c)) (aN g.1) _ ?_ ?_ N 0 (Nat.zero_le _) (by omega)
  · intro q c hc
    show F_X3_lots_72 N k52 (q + 1) (ys g (drawA g.1 z c).1 was pl ma nu to (drawA g.1 z c).2) x1 x3 x4 x5 (nI c) = F_X3_lots_72 N k52 q (ys g (if live g.1 c then drawC (drawA g.1 z c).1 c (drawA g.1 z c).2 8 else drawA g.1 z c).1 was pl ma nu to (if live g.1 c then drawC (drawA g.1 z c).1 c (drawA g.1 z c).2 8 else drawA g.1 z c).2) x1 x3 x4 x5 (nI (c + 1))
    generalize drawA g.1 z c = q2
    obtain ⟨b2, w2⟩ := q2
    rw [F_X3_lots_72]
    show (if em g.1 (nI 0).toNatClampNeg ≤ nI c then _ else _) = _
    try rw [q_c0]
    try rw [em_0]
    rw [if_neg (by rw [q_le (by omega) (by omega)]; omega), live_al hc]
    cases hl : aD g.1 c
    · rw [if_pos (show (!false) = true from rfl)]
      exact y_drawC hN hg b2 was pl ma nu to w2 x1 x3 x4 x5 hc hl k52 (fun ctW cx1 cx3 cx4 cx5 cx6 => F_X3_lots_72 N k52 q ctW cx1 cx3 cx4 cx5 cx6)
    · rw [if_neg (show ¬ (!true) = true by decide)]
      obtain ⟨k, hk⟩ : ∃ k, N = k + 1 := ⟨N - 1, by omega⟩
      have key : ∀ k72 : MS → Int32 → Int32 → Int32 → Int32 → Int32 → Option (Int32 × MS), F_X3_lots_86 N k52 k72 (k + 1) (ys g b2 was pl ma nu to w2) x1 x3 x4 x5 (nI c) (nI 0) = k72 (ys g b2 was pl ma nu to w2) x1 x3 x4 x5 (nI (c + 1)) := by
        intro k72
        rw [F_X3_lots_86, if_neg (by decide)]
        unfold F_X3_lots_130
        show ((F_X3_isAlive N (em g.1) (nI c)).bind fun r99 => if r99 = 0 then _ else _) = _
        rw [f_isAlive N g.1 (by omega), hl]
        try simp only [q_bs]
        rw [if_pos (show bI (!true) = 0 from rfl)]
        try rw [nI_add]
      rw [← hk] at key
      exact key _
  · intro q
    show F_X3_lots_72 N k52 (q + 1) (ys g (drawA g.1 z (aN g.1)).1 was pl ma nu to (drawA g.1 z (aN g.1)).2) x1 x3 x4 x5 (nI (aN g.1)) = _
    rw [F_X3_lots_72]
    show (if em g.1 (nI 0).toNatClampNeg ≤ nI (aN g.1) then _ else _) = _
    try rw [q_c0]
    try rw [em_0]
    exact if_pos (nI_le (Nat.le_refl _) (by omega))
theorem y_lots {N : Nat} (hN : 2000 ≤ N) {g : GS} (hg : GI g) {m : TA} (hm : Good m) (was : TA) (pl ma : Int32) (nu to : FA) (z : Int32) {n w : Nat} (hn : n ≤ 20) (hw : w ≤ 1) : ∃ b s2, Good b ∧ F_X3_lots_52 N N (ys g m was pl ma nu to z) (nI n) (nI w) (nI 0) (nI 0) = some (nI (lotS g.1 w z n).1, ys g b was pl ma nu to s2) := by
  have h9 := hg.2.1
  refine loop_ex (fun q (y : MS × Int32 × Int32) => F_X3_lots_52 N q y.1 (nI n) (nI w) y.2.1 y.2.2) (fun i y => ∃ b, Good b ∧ y = (ys g b was pl ma nu to (lotS g.1 w z i).2, nI (lotS g.1 w z i).1, nI i)) (fun r => ∃ b s2, Good b ∧ r = some (nI (lotS g.1 w z n).1, ys g b was pl ma nu to s2)) n ?_ ?_ N 0 (ys g m was pl ma nu to z, nI 0, nI 0) (Nat.zero_le _) (by omega) ⟨m, hm, rfl⟩
  · rintro q i y hi ⟨b, hb, rfl⟩
    have hD := Good_drawA hg.1 (lotS g.1 w z i).2 (aN g.1) (Nat.le_refl _)
    have hDY := (drawA_n g.1 (lotS g.1 w z i).2 (aN g.1)).2.1
    have hY := Good_years hD 10 (by omega)
    refine Or.inl ⟨(ys g (yearsF (drawA g.1 (lotS g.1 w z i).2 (aN g.1)).1 10) was pl ma nu to (lotS g.1 w z (i + 1)).2, nI (lotS g.1 w z (i + 1)).1, nI (i + 1)), ⟨_, hY, rfl⟩, ?_⟩
    show F_X3_lots_52 N (q + 1) (ys g b was pl ma nu to (lotS g.1 w z i).2) (nI n) (nI w) (nI (lotS g.1 w z i).1) (nI i) = F_X3_lots_52 N q (ys g (yearsF (drawA g.1 (lotS g.1 w z i).2 (aN g.1)).1 10) was pl ma nu to (drawA g.1 (lotS g.1 w z i).2 (aN g.1)).2) (nI n) (nI w) (nI ((lotS g.1 w z i).1 + lotM w (yearsF (drawA g.1 (lotS g.1 w z i).2 (aN g.1)).1 10))) (nI (i + 1))
    rw [F_X3_lots_52, if_neg (by rw [q_le (by omega) (by omega)]; omega)]
    show ((F_X3_copies N (em g.1) (em b)).bind _) = _
    rw [f_copies hN hg.1 hb]
    try simp only [q_bs]
    refine (y_drawA hN hg was pl ma nu to (lotS g.1 w z i).2 (nI n) (nI w) (nI (lotS g.1 w z i).1) (nI i) _).trans ?_
    generalize drawA g.1 (lotS g.1 w z i).2 (aN g.1) = d at *
    obtain ⟨b2, w2⟩ := d
    have hD : Good b2 := hD
    have hY : Good (yearsF b2 10) := hY
    have hDY : aY b2 = aY g.1 := hDY
    unfold F_X3_lots_136 F_X3_lots_165
    rw [y_behind hN g hD was pl ma nu to w2 (by decide) (by omega)]
    try simp only [q_bs]
    show (if ¬ nI w = 0 then (F_X3_livingIn N (em (yearsF b2 10))).bind _ else _) = _
    rw [f_livingIn hN hY]
    try simp only [q_bs]
    rw [bits_liv N hN]
    try simp only [q_bs]
    try rw [nI_add i 1]
    try rw [nI_add]
    try rw [nI_add]
    rcases (show w = 0 ∨ w = 1 by omega) with rfl | rfl
    · rw [if_neg (fun e => e rfl)]
      rfl
    · rw [if_pos (by decide)]
      rfl
  · rintro q y ⟨b, hb, rfl⟩
    refine ⟨b, (lotS g.1 w z n).2, hb, ?_⟩
    show F_X3_lots_52 N (q + 1) (ys g b was pl ma nu to (lotS g.1 w z n).2) (nI n) (nI w) _ (nI n) = _
    rw [F_X3_lots_52]
    exact if_pos (nI_le (Nat.le_refl _) (by omega))
theorem s_lots {N : Nat} (hN : 2000 ≤ N) {g : GS} {x : XS} {y : MS} (hx : XR g x) (hy : MR g y) (hg : GI g) (p q r : Int32) : Both (F_X2_lots N x p q r) (F_X3_lots N y p q r) := by
  have hno2 := both_no N hx hy hg c2
  have hno4 := both_no N hx hy hg c4
  have hno6 := both_no N hx hy hg c6
  unfold F_X2_lots F_X3_lots F_X2_lots_34
  rcases arg_cases p with hp | ⟨n, hn, rfl⟩
  · rw [if_neg (neg_nle hp (by decide)), if_neg (neg_nle hp (by decide))]; exact hno4
  · rw [i_le (by decide) hn, i_le (by decide) hn, i_le hn (by decide), i_le hn (by decide)]
    by_cases h1 : 1 ≤ n
    · rw [if_pos h1, if_pos h1]
      by_cases h2 : n ≤ 20
      · rw [if_pos h2, if_pos h2]
        rcases arg_cases r with hr | ⟨w, hw, rfl⟩
        · rw [f_isIn_neg N (by decide) hr]
          simp only [k_0, k_1, k_2, k_3, k_4, k_6, Nat.reduceEqDiff, Nat.reduceLeDiff, Nat.reduceLT, q_bs, ↓reduceIte, not_true_eq_false, not_false_eq_true, Bool.false_eq_true, reduceCtorEq, hr]
          exact hno2
        · rw [f_isIn N hw (by decide) (by decide)]
          simp (disch := omega) only [k_0, k_1, k_2, k_3, k_4, k_6, Nat.reduceEqDiff, Nat.reduceLeDiff, Nat.reduceLT, q_le, q_lt, q_eq, q_lt0, q_ge0, q_eq0, q_gt0, q_le0, q_b0, q_ck, q_cl, nI_add, q_bs, ↓reduceIte, not_true_eq_false, not_false_eq_true, Bool.false_eq_true, reduceCtorEq, Bool.not_eq_false', decide_eq_false_iff_not, decide_eq_true_eq, Bool.not_false, Bool.not_true]
          by_cases h6 : w ≤ 1
          · simp only [k_0, k_1, k_2, k_3, k_4, k_6, Nat.reduceEqDiff, Nat.reduceLeDiff, Nat.reduceLT, q_bs, ↓reduceIte, not_true_eq_false, not_false_eq_true, Bool.false_eq_true, reduceCtorEq, h6, show 0 ≤ w ∧ w ≤ 1 by omega]
            obtain ⟨mind, pr, hm, rfl⟩ := hx
            obtain ⟨m, was, pl, ma, nu, to, se, h3, h4, rfl⟩ := hy
            obtain ⟨b, hb, e⟩ := x_lots hN hg hm pr q h2 h6
            obtain ⟨m2, s2, hm2, e2⟩ := y_lots hN hg h3 was pl ma nu to q h2 h6
            show Both _ (F_X3_lots_52 N N (ys g m was pl ma nu to q) (nI n) (nI w) (nI 0) (nI 0))
            rw [e, e2]
            exact ⟨_, g, _, _, rfl, rfl, XR.mk b pr hb rfl, MR.mk m2 was pl ma nu to s2 hm2 h4 rfl, hg⟩
          · simp only [k_0, k_1, k_2, k_3, k_4, k_6, Nat.reduceEqDiff, Nat.reduceLeDiff, Nat.reduceLT, q_bs, ↓reduceIte, not_true_eq_false, not_false_eq_true, Bool.false_eq_true, reduceCtorEq, h6, show ¬ (0 ≤ w ∧ w ≤ 1) by omega]
            exact hno2
      · rw [if_neg h2, if_neg h2]; exact hno6
    · rw [if_neg h1, if_neg h1]; exact hno4
