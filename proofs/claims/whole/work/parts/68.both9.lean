/-! both sides, what is judged by rows -/
def judN (rw : FA) (a : TA) : Nat → Nat → Int32
  | 0, _ => -9
  | k + 1, n => if nI (bookN (yearsF a n)) = rw n then judN rw a k (n + 1) else nI n
theorem x_judge {N : Nat} (hN : 2000 ≤ N) {g : GS} (hg : GI g) (pr : FA) {rn : Nat} (hr : rn ≤ 16) : ∃ b, Good b ∧ F_X2_judge_18 N N (xs g g.1 pr) (nI rn) (nI 0) = some (judN g.2.2.2.2.2.1 g.1 rn 0, xs g b pr) := by
  have h9 := hg.2.1
  have key : ∀ k n q, n + k = rn → k < q → ∃ b, Good b ∧ F_X2_judge_18 N q (xs g (yearsF g.1 n) pr) (nI rn) (nI n) = some (judN g.2.2.2.2.2.1 g.1 k n, xs g b pr) := by
    intro k
    induction k with
    | zero =>
      intro n q hnk hq
      obtain ⟨q, rfl⟩ : ∃ z, q = z + 1 := ⟨q - 1, by omega⟩
      refine ⟨yearsF g.1 n, Good_years hg.1 n (by omega), ?_⟩
      rw [F_X2_judge_18, if_pos (by rw [q_le (by omega) (by omega)]; omega)]
      rfl
    | succ k ih =>
      intro n q hnk hq
      obtain ⟨q, rfl⟩ : ∃ z, q = z + 1 := ⟨q - 1, by omega⟩
      have hG := Good_years hg.1 n (by omega)
      obtain ⟨b, hb, e⟩ := ih (n + 1) q (by omega) (by omega)
      rw [F_X2_judge_18, if_neg (by rw [q_le (by omega) (by omega)]; omega)]
      show ∃ b, Good b ∧ ((F_X1_bookSize N (TW (yearsF g.1 n))).bind fun r27 => ckI (nI n) 16 (if r27 = g.2.2.2.2.2.1 (nI n).toNatClampNeg then ((F_X1_pass N (TW (yearsF g.1 n)) (nI 1)).bind fun r46 => F_X2_judge_18 N q (TW g.1, r46, (xs g g.1 pr).2.2) (nI rn) (nI n + nI 1)) else some (nI n, xs g (yearsF g.1 n) pr))) = some ((if nI (bookN (yearsF g.1 n)) = g.2.2.2.2.2.1 n then judN g.2.2.2.2.2.1 g.1 k (n + 1) else nI n), xs g b pr)
      rw [g_bookSize hN]
      try simp only [q_bs]
      repeat rw [q_ck (show n < 16 by omega) (by decide)]
      rw [nI_clamp (show n < 2 ^ 31 by omega), g_pass hN hG (by decide) (by rw [(yearsF_n g.1 n).2]; omega)]
      try simp only [q_bs]
      try rw [nI_add]
      by_cases h : nI (bookN (yearsF g.1 n)) = g.2.2.2.2.2.1 n
      · rw [if_pos h, if_pos h]
        exact ⟨b, hb, e⟩
      · rw [if_neg h, if_neg h]
        exact ⟨_, hG, rfl⟩
  exact key rn 0 N (by omega) (by omega)
theorem y_judge {N : Nat} (hN : 2000 ≤ N) {g : GS} (hg : GI g) (was : TA) (pl ma : Int32) (nu to : FA) (se : Int32) {rn : Nat} (hr : rn ≤ 16) : ∃ b, Good b ∧ F_X3_judge_23 N N (ys g g.1 was pl ma nu to se) (nI rn) (nI 0) = some (judN g.2.2.2.2.2.1 g.1 rn 0, ys g b was pl ma nu to se) := by
  have h9 := hg.2.1
  have key : ∀ k n q, n + k = rn → k < q → ∃ b, Good b ∧ F_X3_judge_23 N q (ys g (yearsF g.1 n) was pl ma nu to se) (nI rn) (nI n) = some (judN g.2.2.2.2.2.1 g.1 k n, ys g b was pl ma nu to se) := by
    intro k
    induction k with
    | zero =>
      intro n q hnk hq
      obtain ⟨q, rfl⟩ : ∃ z, q = z + 1 := ⟨q - 1, by omega⟩
      refine ⟨yearsF g.1 n, Good_years hg.1 n (by omega), ?_⟩
      rw [F_X3_judge_23, if_pos (by rw [q_le (by omega) (by omega)]; omega)]
      rfl
    | succ k ih =>
      intro n q hnk hq
      obtain ⟨q, rfl⟩ : ∃ z, q = z + 1 := ⟨q - 1, by omega⟩
      have hG := Good_years hg.1 n (by omega)
      obtain ⟨b, hb, e⟩ := ih (n + 1) q (by omega) (by omega)
      rw [F_X3_judge_23, if_neg (by rw [q_le (by omega) (by omega)]; omega)]
      show ∃ b, Good b ∧ ((F_X3_writtenIn N (em (yearsF g.1 n))).bind fun r32 => (F_X3_bits N r32).bind fun r35 => ckI (nI n) 16 (if r35 = g.2.2.2.2.2.1 (nI n).toNatClampNeg then ((F_X3_year N (em (yearsF g.1 n))).bind fun r53 => F_X3_judge_23 N q (em g.1, r53.2, (ys g g.1 was pl ma nu to se).2.2) (nI rn) (nI n + nI 1)) else some (nI n, ys g (yearsF g.1 n) was pl ma nu to se))) = some ((if nI (bookN (yearsF g.1 n)) = g.2.2.2.2.2.1 n then judN g.2.2.2.2.2.1 g.1 k (n + 1) else nI n), ys g b was pl ma nu to se)
      rw [f_writtenIn hN hG]
      try simp only [q_bs]
      rw [bits_book N hN]
      try simp only [q_bs]
      repeat rw [q_ck (show n < 16 by omega) (by decide)]
      rw [nI_clamp (show n < 2 ^ 31 by omega), f_year hN hG (by rw [(yearsF_n g.1 n).2]; omega)]
      try simp only [q_bs]
      try rw [nI_add]
      by_cases h : nI (bookN (yearsF g.1 n)) = g.2.2.2.2.2.1 n
      · rw [if_pos h, if_pos h]
        exact ⟨b, hb, e⟩
      · rw [if_neg h, if_neg h]
        exact ⟨_, hG, rfl⟩
  exact key rn 0 N (by omega) (by omega)
theorem s_judge {N : Nat} (hN : 2000 ≤ N) {g : GS} {x : XS} {y : MS} (hx : XR g x) (hy : MR g y) (hg : GI g) : Both (F_X2_judge N x) (F_X3_judge N y) := by
  obtain ⟨mind, pr, hm, rfl⟩ := hx
  obtain ⟨m, was, pl, ma, nu, to, se, h3, h4, rfl⟩ := hy
  have hg2 : GI (gW g g.2.2.2.2.2.1 0) := ⟨hg.1, hg.2.1, hg.2.2.1, hg.2.2.2.1, hg.2.2.2.2.1, Nat.zero_le _⟩
  obtain ⟨b, hb, e⟩ := x_judge hN hg2 pr hg.2.2.2.2.2
  obtain ⟨m2, hm2, e2⟩ := y_judge hN hg2 was pl ma nu to se hg.2.2.2.2.2
  unfold F_X2_judge F_X3_judge F_X2_clear
  show Both ((F_X1_become N (TW mind) (TW g.1)).bind fun r13 => F_X2_judge_18 N N (TW g.1, r13, (xs (gW g g.2.2.2.2.2.1 0) mind pr).2.2) (nI g.2.2.2.2.2.2.1) (nI 0)) ((F_X3_copies N (em g.1) (em m)).bind fun r18 => F_X3_judge_23 N N (em g.1, r18, (ys (gW g g.2.2.2.2.2.1 0) m was pl ma nu to se).2.2) (nI g.2.2.2.2.2.2.1) (nI 0))
  rw [g_become N hm hg.1]
  try simp only [q_bs]
  rw [f_copies hN hg.1 h3]
  try simp only [q_bs]
  exact ⟨_, gW g g.2.2.2.2.2.1 0, _, _, e, e2, XR.mk b pr hb rfl, MR.mk m2 was pl ma nu to se hm2 h4 rfl, hg2⟩
def allW (rw : FA) (b : TA) (c t : Nat) : Nat → Nat → Bool
  | 0, _ => true
  | k + 1, n => decide (nI (aW (yearsF b n) c t) = rw n) && allW rw b c t k (n + 1)
theorem x_says {N : Nat} (hN : 2000 ≤ N) {g : GS} (hg : GI g) {a : TA} (ha : Good a) (hy : aY a ≤ 999) (pr : FA) {c t : Nat} (hc : c < 6) (ht : t < 8) : ∃ b, Good b ∧ F_X2_mindSaysRow N (xs g a pr) (nI c) (nI t) = some (bI (allW g.2.2.2.2.2.1 a c t g.2.2.2.2.2.2.1 0), xs g b pr) := by
  have hr := hg.2.2.2.2.2
  unfold F_X2_mindSaysRow
  have key : ∀ k n q, n + k = g.2.2.2.2.2.2.1 → k < q → ∃ b, Good b ∧ F_X2_mindSaysRow_2 N q (xs g (yearsR a t n) pr) (nI c) (nI t) (nI n) = some (bI (allW g.2.2.2.2.2.1 a c t k n), xs g b pr) := by
    intro k
    induction k with
    | zero =>
      intro n q hnk hq
      obtain ⟨q, rfl⟩ : ∃ z, q = z + 1 := ⟨q - 1, by omega⟩
      refine ⟨yearsR a t n, Good_yearsR ha ht n (by omega), ?_⟩
      rw [F_X2_mindSaysRow_2, if_pos (by show nI g.2.2.2.2.2.2.1 ≤ nI n; rw [q_le (by omega) (by omega)]; omega)]
      rfl
    | succ k ih =>
      intro n q hnk hq
      obtain ⟨q, rfl⟩ : ∃ z, q = z + 1 := ⟨q - 1, by omega⟩
      have hG := Good_yearsR ha ht n (by omega)
      have hS := (sim_years ht (sim_rf t a) n).2.2.2.2.2.2 c
      obtain ⟨b, hb, e⟩ := ih (n + 1) q (by omega) (by omega)
      rw [F_X2_mindSaysRow_2, if_neg (by show ¬ nI g.2.2.2.2.2.2.1 ≤ nI n; rw [q_le (by omega) (by omega)]; omega)]
      show ∃ b, Good b ∧ ((F_X1_wordOf N (TW (yearsR a t n)) (nI c) (nI t)).bind fun r16 => ckI (nI n) 16 (if r16 = g.2.2.2.2.2.1 (nI n).toNatClampNeg then ((F_X1_passFor N (TW (yearsR a t n)) (nI t) (nI 1)).bind fun r36 => F_X2_mindSaysRow_2 N q (TW g.1, r36, (xs g a pr).2.2) (nI c) (nI t) (nI n + nI 1)) else some (nI 0, xs g (yearsR a t n) pr))) = some (bI (decide (nI (aW (yearsF a n) c t) = g.2.2.2.2.2.1 n) && allW g.2.2.2.2.2.1 a c t k (n + 1)), xs g b pr)
      rw [g_wordOf N hG hc ht]
      try simp only [q_bs]
      repeat rw [q_ck (show n < 16 by omega) (by decide)]
      rw [nI_clamp (show n < 2 ^ 31 by omega), g_passFor hN hG ht (by decide) (by rw [(yearsR_n a t n).2]; omega)]
      try simp only [q_bs]
      try rw [nI_add]
      rw [hS]
      by_cases h : nI (aW (yearsF a n) c t) = g.2.2.2.2.2.1 n
      · rw [if_pos h, decide_eq_true h, Bool.true_and]
        exact ⟨b, hb, e⟩
      · rw [if_neg h, decide_eq_false h, Bool.false_and]
        exact ⟨_, hG, rfl⟩
  exact key _ 0 N (Nat.zero_add _) (by omega)
theorem bI_and1 (b : Bool) : bI b &&& nI 1 = bI b := by cases b <;> decide
theorem bI_and0 (b : Bool) : bI b &&& nI 0 = bI false := by cases b <;> decide
theorem y_says {N : Nat} (hN : 2000 ≤ N) {g : GS} (hg : GI g) {a : TA} (ha : Good a) (hy : aY a ≤ 999) (was : TA) (pl ma : Int32) (nu to : FA) (se : Int32) {c t : Nat} (hc : c < 6) (ht : t < 8) (w x5 x6 : Int32) (k54 : MS → Int32 → Int32 → Int32 → Int32 → Int32 → Option (Int32 × MS)) : ∃ b, Good b ∧ F_X3_whatIs_99 N k54 N (ys g a was pl ma nu to se) (nI c) (nI t) w x5 x6 (nI 1) (nI 0) = F_X3_whatIs_155 N k54 (ys g b was pl ma nu to se) (nI c) (nI t) w x5 x6 (bI (allW g.2.2.2.2.2.1 a c t g.2.2.2.2.2.2.1 0)) := by
  have hr := hg.2.2.2.2.2
  have h5 := ix_lt (c := c) (w := 4 + t) hc (by omega)
  have key : ∀ k n q acc, n + k = g.2.2.2.2.2.2.1 → k < q → ∃ b, Good b ∧ F_X3_whatIs_99 N k54 q (ys g (yearsF a n) was pl ma nu to se) (nI c) (nI t) w x5 x6 (bI acc) (nI n) = F_X3_whatIs_155 N k54 (ys g b was pl ma nu to se) (nI c) (nI t) w x5 x6 (bI (acc && allW g.2.2.2.2.2.1 a c t k n)) := by
    intro k
    induction k with
    | zero =>
      intro n q acc hnk hq
      obtain ⟨q, rfl⟩ : ∃ z, q = z + 1 := ⟨q - 1, by omega⟩
      refine ⟨yearsF a n, Good_years ha n (by omega), ?_⟩
      rw [F_X3_whatIs_99, if_pos (by show nI g.2.2.2.2.2.2.1 ≤ nI n; rw [q_le (by omega) (by omega)]; omega), show allW g.2.2.2.2.2.1 a c t 0 n = true from rfl, Bool.and_true]
    | succ k ih =>
      intro n q acc hnk hq
      obtain ⟨q, rfl⟩ : ∃ z, q = z + 1 := ⟨q - 1, by omega⟩
      have hG := Good_years ha n (by omega)
      rw [F_X3_whatIs_99, if_neg (by show ¬ nI g.2.2.2.2.2.2.1 ≤ nI n; rw [q_le (by omega) (by omega)]; omega)]
      unfold F_X3_whatIs_137
      show ∃ b, Good b ∧ ((F_X3_of N (nI c) (nI 4 + nI t)).bind fun r118 => ckI r118 74 (ckI (nI n) 16 (if ¬ em (yearsF a n) r118.toNatClampNeg = g.2.2.2.2.2.1 (nI n).toNatClampNeg then ((F_X3_year N (em (yearsF a n))).bind fun r144 => F_X3_whatIs_99 N k54 q (em g.1, r144.2, (ys g a was pl ma nu to se).2.2) (nI c) (nI t) w x5 x6 (bI acc &&& nI 0) (nI n + nI 1)) else ((F_X3_year N (em (yearsF a n))).bind fun r144 => F_X3_whatIs_99 N k54 q (em g.1, r144.2, (ys g a was pl ma nu to se).2.2) (nI c) (nI t) w x5 x6 (bI acc &&& nI 1) (nI n + nI 1))))) = F_X3_whatIs_155 N k54 (ys g b was pl ma nu to se) (nI c) (nI t) w x5 x6 (bI (acc && (decide (nI (aW (yearsF a n) c t) = g.2.2.2.2.2.1 n) && allW g.2.2.2.2.2.1 a c t k (n + 1))))
      try rw [nI_add 4 t]
      try rw [f_of]
      try simp only [q_bs]
      repeat rw [q_ck h5 (by decide)]
      repeat rw [q_ck (show n < 16 by omega) (by decide)]
      rw [nI_clamp (show n < 2 ^ 31 by omega), nI_clamp (show ix c (4 + t) < 2 ^ 31 by omega)]
      try rw [em_w _ c ht]
      rw [f_year hN hG (by rw [(yearsF_n a n).2]; omega)]
      try simp only [q_bs]
      try simp only [q_bs]
      try rw [nI_add]
      rw [bI_and1, bI_and0]
      by_cases h : nI (aW (yearsF a n) c t) = g.2.2.2.2.2.1 n
      · rw [if_neg (fun e => e h), decide_eq_true h, Bool.true_and]
        exact ih (n + 1) q acc (by omega) (by omega)
      · rw [if_pos h, decide_eq_false h, Bool.false_and, Bool.and_false]
        exact ih (n + 1) q false (by omega) (by omega)
  have := key _ 0 N true (Nat.zero_add _) (by omega)
  rw [Bool.true_and] at this
  exact this
def setW (a : TA) (c w v : Nat) : TA := if w = 0 then sK a (updN (aK a) c v) else sF a (updN (aF a) c v)
def wisB (rw : FA) (rn : Nat) (a : TA) (c t w v : Nat) : Bool := allW rw (setW a c w v) c t rn 0
def wisN (w : Nat) : Nat := if w = 0 then 6 else 10
theorem Good_setW {a : TA} (h : Good a) {c w v : Nat} (hc : c < aN a) (hw : w ≤ 1) (hv : v < wisN w) : Good (setW a c w v) ∧ aY (setW a c w v) = aY a := by
  unfold setW wisN at *
  rcases (show w = 0 ∨ w = 1 by omega) with rfl | rfl
  · have hv : v < 6 := hv
    exact ⟨Good_k1 h hc (by omega), rfl⟩
  · have hv : v < 10 := hv
    exact ⟨Good_f1 h hc (by omega), rfl⟩
theorem x_whatIs {N : Nat} (hN : 2000 ≤ N) {g : GS} (hg : GI g) {mind : TA} (hm : Good mind) (pr : FA) {c t w : Nat} (hc : c < aN g.1) (ht : t < 8) (hw : w ≤ 1) : ∃ b, Good b ∧ F_X2_whatIs_56 N N (xs g mind pr) (nI c) (nI t) (nI w) (nI 0) (nI (wisN w)) (nI 0) = some (nI (mskTo (wisB g.2.2.2.2.2.1 g.2.2.2.2.2.2.1 g.1 c t w) (wisN w)), xs g b pr) := by
  have hn := hg.1.1
  have h9 := hg.2.1
  have hwn : wisN w ≤ 10 := by unfold wisN; split <;> omega
  refine loop_ex (fun q (z : XS × Int32 × Int32) => F_X2_whatIs_56 N q z.1 (nI c) (nI t) (nI w) z.2.1 (nI (wisN w)) z.2.2) (fun i z => ∃ b, Good b ∧ z = (xs g b pr, nI (mskTo (wisB g.2.2.2.2.2.1 g.2.2.2.2.2.2.1 g.1 c t w) i), nI i)) (fun r => ∃ b, Good b ∧ r = some (nI (mskTo (wisB g.2.2.2.2.2.1 g.2.2.2.2.2.2.1 g.1 c t w) (wisN w)), xs g b pr)) (wisN w) ?_ ?_ N 0 (xs g mind pr, nI 0, nI 0) (Nat.zero_le _) (by omega) ⟨mind, hm, rfl⟩
  · rintro q v z hv ⟨b, hb, rfl⟩
    obtain ⟨hG, hY⟩ := Good_setW hg.1 hc hw hv
    obtain ⟨b2, hb2, e2⟩ := x_says hN hg hG (by omega) pr (show c < 6 by omega) ht
    refine Or.inl ⟨(xs g b2 pr, nI (mskTo (wisB g.2.2.2.2.2.1 g.2.2.2.2.2.2.1 g.1 c t w) (v + 1)), nI (v + 1)), ⟨b2, hb2, rfl⟩, ?_⟩
    show F_X2_whatIs_56 N (q + 1) (xs g b pr) (nI c) (nI t) (nI w) (nI (mskTo (wisB g.2.2.2.2.2.1 g.2.2.2.2.2.2.1 g.1 c t w) v)) (nI (wisN w)) (nI v) = F_X2_whatIs_56 N q (xs g b2 pr) (nI c) (nI t) (nI w) (nI (mskTo (wisB g.2.2.2.2.2.1 g.2.2.2.2.2.2.1 g.1 c t w) (v + 1))) (nI (wisN w)) (nI (v + 1))
    rw [F_X2_whatIs_56, if_neg (by rw [q_le (by omega) (by omega)]; omega)]
    have fin : ∀ tW : XS, tW = xs g (setW g.1 c w v) pr → F_X2_whatIs_103 N (fun ctW cx1 cx2 cx3 cx4 cx5 cx6 => F_X2_whatIs_56 N q ctW cx1 cx2 cx3 cx4 cx5 cx6) tW (nI c) (nI t) (nI w) (nI (mskTo (wisB g.2.2.2.2.2.1 g.2.2.2.2.2.2.1 g.1 c t w) v)) (nI (wisN w)) (nI v) = F_X2_whatIs_56 N q (xs g b2 pr) (nI c) (nI t) (nI w) (nI (mskTo (wisB g.2.2.2.2.2.1 g.2.2.2.2.2.2.1 g.1 c t w) (v + 1))) (nI (wisN w)) (nI (v + 1)) := by
      intro tW h
      subst h
      unfold F_X2_whatIs_103 F_X2_whatIs_121
      rw [e2]
      try simp only [q_bs]
      try rw [nI_add]
      cases hB : wisB g.2.2.2.2.2.1 g.2.2.2.2.2.2.1 g.1 c t w v
      · have hB2 : allW g.2.2.2.2.2.1 (setW g.1 c w v) c t g.2.2.2.2.2.2.1 0 = false := hB
        rw [hB2, put_f _ (by omega) hB]; rfl
      · have hB2 : allW g.2.2.2.2.2.1 (setW g.1 c w v) c t g.2.2.2.2.2.2.1 0 = true := hB
        rw [hB2, put_t _ (by omega) hB]; rfl
    show ((F_X1_become N (TW b) (TW g.1)).bind fun r71 => if ¬ nI w = 0 then ckI (nI c) 6 (F_X2_whatIs_103 N (fun ctW cx1 cx2 cx3 cx4 cx5 cx6 => F_X2_whatIs_56 N q ctW cx1 cx2 cx3 cx4 cx5 cx6) (TW g.1, (r71.1, upd r71.2.1 (nI c).toNatClampNeg (nI v), r71.2.2.1, r71.2.2.2.1, r71.2.2.2.2.1, r71.2.2.2.2.2.1, r71.2.2.2.2.2.2.1, r71.2.2.2.2.2.2.2), (xs g b pr).2.2) (nI c) (nI t) (nI w) (nI (mskTo (wisB g.2.2.2.2.2.1 g.2.2.2.2.2.2.1 g.1 c t w) v)) (nI (wisN w)) (nI v)) else ckI (nI c) 6 (F_X2_whatIs_103 N (fun ctW cx1 cx2 cx3 cx4 cx5 cx6 => F_X2_whatIs_56 N q ctW cx1 cx2 cx3 cx4 cx5 cx6) (TW g.1, (upd r71.1 (nI c).toNatClampNeg (nI v), r71.2.1, r71.2.2.1, r71.2.2.2.1, r71.2.2.2.2.1, r71.2.2.2.2.2.1, r71.2.2.2.2.2.2.1, r71.2.2.2.2.2.2.2), (xs g b pr).2.2) (nI c) (nI t) (nI w) (nI (mskTo (wisB g.2.2.2.2.2.1 g.2.2.2.2.2.2.1 g.1 c t w) v)) (nI (wisN w)) (nI v))) = _
    rw [g_become N hb hg.1]
    try simp only [q_bs]
    repeat rw [q_ck (show c < 6 by omega) (by decide)]
    repeat rw [q_ck (show c < 6 by omega) (by decide)]
    rw [nI_clamp (show c < 2 ^ 31 by omega), TW_upK, TW_upF]
    rcases (show w = 0 ∨ w = 1 by omega) with rfl | rfl
    · rw [if_neg (fun e => e rfl)]
      exact fin _ rfl
    · rw [if_pos (by decide)]
      exact fin _ rfl
  · rintro q z ⟨b, hb, rfl⟩
    refine ⟨b, hb, ?_⟩
    show F_X2_whatIs_56 N (q + 1) (xs g b pr) (nI c) (nI t) (nI w) _ (nI (wisN w)) (nI (wisN w)) = _
    rw [F_X2_whatIs_56]
    exact if_pos (nI_le (Nat.le_refl _) (by omega))
theorem y_whatIs {N : Nat} (hN : 2000 ≤ N) {g : GS} (hg : GI g) {m : TA} (hm : Good m) (was : TA) (pl ma : Int32) (nu to : FA) (se : Int32) {c t w : Nat} (hc : c < aN g.1) (ht : t < 8) (hw : w ≤ 1) : ∃ b, Good b ∧ F_X3_whatIs_54 N N (ys g m was pl ma nu to se) (nI c) (nI t) (nI w) (nI 0) (nI 0) = some (nI (mskTo (wisB g.2.2.2.2.2.1 g.2.2.2.2.2.2.1 g.1 c t w) (wisN w)), ys g b was pl ma nu to se) := by
  have hn := hg.1.1
  have h9 := hg.2.1
  have hwn : wisN w ≤ 10 := by unfold wisN; split <;> omega
  have h67 : ∀ q (y : MS) (x5 x6 : Int32), F_X3_whatIs_54 N (q + 1) y (nI c) (nI t) (nI w) x5 x6 = F_X3_whatIs_67 N (fun ctW cx1 cx2 cx3 cx5 cx6 => F_X3_whatIs_54 N q ctW cx1 cx2 cx3 cx5 cx6) y (nI c) (nI t) (nI w) x5 x6 x6 (nI (wisN w)) := by
    intro q y x5 x6
    rw [F_X3_whatIs_54]
    rcases (show w = 0 ∨ w = 1 by omega) with rfl | rfl
    · rw [if_neg (fun e => e rfl)]; rfl
    · rw [if_pos (by decide)]; rfl
  have hw0 := ix_lt (c := c) (w := w) (by omega) (by omega)
  refine loop_ex (fun q (z : MS × Int32 × Int32) => F_X3_whatIs_54 N q z.1 (nI c) (nI t) (nI w) z.2.1 z.2.2) (fun i z => ∃ b, Good b ∧ z = (ys g b was pl ma nu to se, nI (mskTo (wisB g.2.2.2.2.2.1 g.2.2.2.2.2.2.1 g.1 c t w) i), nI i)) (fun r => ∃ b, Good b ∧ r = some (nI (mskTo (wisB g.2.2.2.2.2.1 g.2.2.2.2.2.2.1 g.1 c t w) (wisN w)), ys g b was pl ma nu to se)) (wisN w) ?_ ?_ N 0 (ys g m was pl ma nu to se, nI 0, nI 0) (Nat.zero_le _) (by omega) ⟨m, hm, rfl⟩
  · rintro q v z hv ⟨b, hb, rfl⟩
    obtain ⟨hG, hY⟩ := Good_setW hg.1 hc hw hv
    obtain ⟨b2, hb2, e2⟩ := y_says hN hg hG (by omega) was pl ma nu to se (show c < 6 by omega) ht (nI w) (nI (mskTo (wisB g.2.2.2.2.2.1 g.2.2.2.2.2.2.1 g.1 c t w) v)) (nI v) (fun ctW cx1 cx2 cx3 cx5 cx6 => F_X3_whatIs_54 N q ctW cx1 cx2 cx3 cx5 cx6)
    refine Or.inl ⟨(ys g b2 was pl ma nu to se, nI (mskTo (wisB g.2.2.2.2.2.1 g.2.2.2.2.2.2.1 g.1 c t w) (v + 1)), nI (v + 1)), ⟨b2, hb2, rfl⟩, ?_⟩
    show F_X3_whatIs_54 N (q + 1) (ys g b was pl ma nu to se) (nI c) (nI t) (nI w) (nI (mskTo (wisB g.2.2.2.2.2.1 g.2.2.2.2.2.2.1 g.1 c t w) v)) (nI v) = F_X3_whatIs_54 N q (ys g b2 was pl ma nu to se) (nI c) (nI t) (nI w) (nI (mskTo (wisB g.2.2.2.2.2.1 g.2.2.2.2.2.2.1 g.1 c t w) (v + 1))) (nI (v + 1))
    rw [h67]
    unfold F_X3_whatIs_67
    rw [if_neg (by rw [q_le (by omega) (by omega)]; omega)]
    show ((F_X3_copies N (em g.1) (em b)).bind fun r81 => (F_X3_of N (nI c) (nI w)).bind fun r90 => ckI r90 74 (F_X3_whatIs_99 N _ N (em g.1, upd r81 r90.toNatClampNeg (nI v), (ys g b was pl ma nu to se).2.2) (nI c) (nI t) (nI w) _ (nI v) (nI 1) (nI 0))) = _
    rw [f_copies hN hg.1 hb]
    try simp only [q_bs]
    try rw [f_of]
    try simp only [q_bs]
    repeat rw [q_ck hw0 (by decide)]
    rw [nI_clamp (show ix c w < 2 ^ 31 by omega)]
    have he : upd (em g.1) (ix c w) (nI v) = em (setW g.1 c w v) := by
      rcases (show w = 0 ∨ w = 1 by omega) with rfl | rfl
      · exact em_sK g.1 c v
      · exact em_sF g.1 c v
    rw [he]
    show F_X3_whatIs_99 N _ N (ys g (setW g.1 c w v) was pl ma nu to se) (nI c) (nI t) (nI w) _ (nI v) (nI 1) (nI 0) = _
    rw [e2]
    unfold F_X3_whatIs_155 F_X3_whatIs_170
    try rw [nI_add]
    cases hB : wisB g.2.2.2.2.2.1 g.2.2.2.2.2.2.1 g.1 c t w v
    · have hB2 : allW g.2.2.2.2.2.1 (setW g.1 c w v) c t g.2.2.2.2.2.2.1 0 = false := hB
      rw [hB2, ← put_0 _ (by omega) hB]; rfl
    · have hB2 : allW g.2.2.2.2.2.1 (setW g.1 c w v) c t g.2.2.2.2.2.2.1 0 = true := hB
      rw [hB2, ← put_t _ (by omega) hB]; rfl
  · rintro q z ⟨b, hb, rfl⟩
    refine ⟨b, hb, ?_⟩
    show F_X3_whatIs_54 N (q + 1) (ys g b was pl ma nu to se) (nI c) (nI t) (nI w) _ (nI (wisN w)) = _
    rw [h67]
    unfold F_X3_whatIs_67
    exact if_pos (nI_le (Nat.le_refl _) (by omega))
theorem s_whatIs {N : Nat} (hN : 2000 ≤ N) {g : GS} {x : XS} {y : MS} (hx : XR g x) (hy : MR g y) (hg : GI g) (p q r : Int32) : Both (F_X2_whatIs N x p q r) (F_X3_whatIs N y p q r) := by
  have hno1 := both_no N hx hy hg c1
  have hno2 := both_no N hx hy hg c2
  unfold F_X2_whatIs F_X3_whatIs F_X2_whatIs_15 F_X2_whatIs_30 F_X2_whatIs_51 F_X3_whatIs_34
  rcases arg_cases p with hp | ⟨j, hj, rfl⟩
  · rw [x_noCit_neg N x hp, f_isCit_neg N y hp]; exact hno1
  · obtain ⟨mind, pr, hm, rfl⟩ := hx
    obtain ⟨m, was, pl, ma, nu, to, se, h3, h4, rfl⟩ := hy
    rw [x_noCit N g mind pr hg hj, f_isCit N _ g.1 rfl hg.1 hj]
    simp (disch := omega) only [k_0, k_1, k_2, k_3, k_4, k_6, Nat.reduceEqDiff, Nat.reduceLeDiff, Nat.reduceLT, q_le, q_lt, q_eq, q_lt0, q_ge0, q_eq0, q_gt0, q_le0, q_b0, q_ck, q_cl, nI_add, q_bs, ↓reduceIte, not_true_eq_false, not_false_eq_true, Bool.false_eq_true, reduceCtorEq, Bool.not_eq_false', decide_eq_false_iff_not, decide_eq_true_eq, Bool.not_false, Bool.not_true]
    by_cases h : j < aN g.1
    · simp only [k_0, k_1, k_2, k_3, k_4, k_6, Nat.reduceEqDiff, Nat.reduceLeDiff, Nat.reduceLT, q_bs, ↓reduceIte, not_true_eq_false, not_false_eq_true, Bool.false_eq_true, reduceCtorEq, h]
      rcases arg_cases q with hq | ⟨t, ht, rfl⟩
      · rw [g_noTopic_neg N hq, f_isTopic_neg N hq]; exact hno1
      · rw [g_noTopic N ht, f_isTopic N ht]
        simp (disch := omega) only [k_0, k_1, k_2, k_3, k_4, k_6, Nat.reduceEqDiff, Nat.reduceLeDiff, Nat.reduceLT, q_le, q_lt, q_eq, q_lt0, q_ge0, q_eq0, q_gt0, q_le0, q_b0, q_ck, q_cl, nI_add, q_bs, ↓reduceIte, not_true_eq_false, not_false_eq_true, Bool.false_eq_true, reduceCtorEq, Bool.not_eq_false', decide_eq_false_iff_not, decide_eq_true_eq, Bool.not_false, Bool.not_true]
        by_cases h2 : t < 8
        · simp only [k_0, k_1, k_2, k_3, k_4, k_6, Nat.reduceEqDiff, Nat.reduceLeDiff, Nat.reduceLT, q_bs, ↓reduceIte, not_true_eq_false, not_false_eq_true, Bool.false_eq_true, reduceCtorEq, h2]
          rcases arg_cases r with hr | ⟨w, hw, rfl⟩
          · rw [f_isIn_neg N (by decide) hr]
            simp only [k_0, k_1, k_2, k_3, k_4, k_6, Nat.reduceEqDiff, Nat.reduceLeDiff, Nat.reduceLT, q_bs, ↓reduceIte, not_true_eq_false, not_false_eq_true, Bool.false_eq_true, reduceCtorEq, hr]
            exact hno2
          · rw [f_isIn N hw (by decide) (by decide)]
            simp (disch := omega) only [k_0, k_1, k_2, k_3, k_4, k_6, Nat.reduceEqDiff, Nat.reduceLeDiff, Nat.reduceLT, q_le, q_lt, q_eq, q_lt0, q_ge0, q_eq0, q_gt0, q_le0, q_b0, q_ck, q_cl, nI_add, q_bs, ↓reduceIte, not_true_eq_false, not_false_eq_true, Bool.false_eq_true, reduceCtorEq, Bool.not_eq_false', decide_eq_false_iff_not, decide_eq_true_eq, Bool.not_false, Bool.not_true]
            by_cases h6 : w ≤ 1
            · obtain ⟨b, hb, e⟩ := x_whatIs hN hg hm pr h h2 h6
              obtain ⟨m2, hm2, e2⟩ := y_whatIs hN hg h3 was pl ma nu to se h h2 h6
              simp only [k_0, k_1, k_2, k_3, k_4, k_6, Nat.reduceEqDiff, Nat.reduceLeDiff, Nat.reduceLT, q_bs, ↓reduceIte, not_true_eq_false, not_false_eq_true, Bool.false_eq_true, reduceCtorEq, h6, show 0 ≤ w ∧ w ≤ 1 by omega]
              rw [e2]
              have eX : (if ¬ w = 0 then F_X2_whatIs_56 N N (xs g mind pr) (nI j) (nI t) (nI w) (nI 0) (nI 10) (nI 0) else F_X2_whatIs_56 N N (xs g mind pr) (nI j) (nI t) (nI w) (nI 0) (nI 6) (nI 0)) = F_X2_whatIs_56 N N (xs g mind pr) (nI j) (nI t) (nI w) (nI 0) (nI (wisN w)) (nI 0) := by
                rcases (show w = 0 ∨ w = 1 by omega) with rfl | rfl <;> rfl
              rw [eX, e]
              exact ⟨_, g, _, _, rfl, rfl, XR.mk b pr hb rfl, MR.mk m2 was pl ma nu to se hm2 h4 rfl, hg⟩
            · simp only [k_0, k_1, k_2, k_3, k_4, k_6, Nat.reduceEqDiff, Nat.reduceLeDiff, Nat.reduceLT, q_bs, ↓reduceIte, not_true_eq_false, not_false_eq_true, Bool.false_eq_true, reduceCtorEq, h6, show ¬ (0 ≤ w ∧ w ≤ 1) by omega]
              exact hno2
        · simp only [k_0, k_1, k_2, k_3, k_4, k_6, Nat.reduceEqDiff, Nat.reduceLeDiff, Nat.reduceLT, q_bs, ↓reduceIte, not_true_eq_false, not_false_eq_true, Bool.false_eq_true, reduceCtorEq, h2]; exact hno1
    · simp only [k_0, k_1, k_2, k_3, k_4, k_6, Nat.reduceEqDiff, Nat.reduceLeDiff, Nat.reduceLT, q_bs, ↓reduceIte, not_true_eq_false, not_false_eq_true, Bool.false_eq_true, reduceCtorEq, h]; exact hno1
