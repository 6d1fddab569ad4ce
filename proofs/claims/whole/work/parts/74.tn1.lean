/-! a town told in letters: what a statement is -/
def sG (g : GS) (i : Nat) : Int32 := if i < g.2.2.2.2.1 then g.2.2.2.1 i else -1
abbrev LX (g : GS) : LetS := (g.2.2.2.1, nI g.2.2.2.2.1)
def isD (s : Int32) : Bool := decide (¬ s < nI 48) && decide (¬ nI 57 < s)
def dg (s : Int32) : Nat := min 9 (s.toNatClampNeg - 48)
def runD (f : Nat → Int32) : Nat → Nat → Nat
  | 0, _ => 0
  | k + 1, p => if isD (f p) then runD f k (p + 1) + 1 else 0
def numV (f : Nat → Int32) : Nat → Nat → Nat → Nat
  | 0, _, v => v
  | k + 1, p, v => numV f k (p + 1) (10 * v + dg (f p))
def endS (f : Nat → Int32) (e : Nat) : Bool × Nat := if f e = nI 59 then (true, e + 1) else (false, e)
def dgs (f : Nat → Int32) (p mn mx : Nat) : Bool × Nat := if runD f mx p < mn then (false, p + runD f mx p) else endS f (p + runD f mx p)
def kdI (s : Int32) : Int32 := if s = nI 99 then nI 0 else if s = nI 104 then nI 1 else if s = nI 119 then nI 2 else if s = nI 102 then nI 3 else if s = nI 108 then nI 4 else if s = nI 107 then nI 5 else -1
def stm (f : Nat → Int32) (p : Nat) : Bool × Nat := if f p = nI 97 then dgs f (p + 1) 2 9 else if f p = nI 99 then (if 0 ≤ kdI (f (p + 1)) then dgs f (p + 2) 3 3 else (false, p + 1)) else if f p = nI 100 then dgs f (p + 1) 1 1 else if f p = nI 113 then dgs f (p + 1) 3 3 else if f p = nI 119 then dgs f (p + 1) 3 3 else if f p = nI 121 then dgs f (p + 1) 2 2 else (false, p)
def resI (r : Bool × Nat) : Int32 := if r.1 then nI r.2 else (-1) - nI r.2
theorem dg_le (s : Int32) : dg s ≤ 9 := Nat.min_le_left _ _
theorem isD_is {s : Int32} (h : isD s = true) : s = nI (48 + dg s) := by
  unfold isD at h
  have h0 := (Bool.and_eq_true _ _).mp h
  have h1 := of_decide_eq_true h0.1
  have h2 := of_decide_eq_true h0.2
  rcases arg_cases s with hp | ⟨j, hj, e⟩
  · exact absurd (neg_lt hp (by decide)) h1
  · have h3 : ¬ j < 48 := fun z => h1 (by rw [e, (q_lt hj (by decide))]; exact z)
    have h4 : ¬ 57 < j := fun z => h2 (by rw [e, (q_lt (by decide) hj)]; exact z)
    have h5 : s.toNatClampNeg = j := (congrArg Int32.toNatClampNeg e).trans (q_cl hj)
    have h6 : 48 + dg s = j := by unfold dg; rw [h5, Nat.min_eq_right (by omega)]; omega
    rw [h6]; exact e
theorem isD_sub {s : Int32} (h : isD s = true) : s - nI 48 = nI (dg s) := (congrArg (fun z => z - nI 48) (isD_is h)).trans ((q_sub (Nat.le_add_right 48 (dg s))).trans (congrArg nI (by omega)))
theorem runD_t {f : Nat → Int32} {k p : Nat} (h : isD (f p) = true) : runD f (k + 1) p = runD f k (p + 1) + 1 := if_pos h
theorem runD_f {f : Nat → Int32} {k p : Nat} (h : isD (f p) = false) : runD f (k + 1) p = 0 := if_neg (fun e => Bool.false_ne_true (h.symm.trans e))
theorem runD_le (f : Nat → Int32) : ∀ k p, runD f k p ≤ k := by
  intro k
  induction k with
  | zero => intro p; exact Nat.le_refl 0
  | succ k ih =>
    intro p
    cases h : isD (f p)
    · have h1 := runD_f (k := k) h
      omega
    · have h1 := runD_t (k := k) h
      have h2 := ih (p + 1)
      omega
theorem runD_all (f : Nat → Int32) : ∀ k p j, j < runD f k p → isD (f (p + j)) = true := by
  intro k
  induction k with
  | zero => intro p j hj; exact absurd hj (Nat.not_lt_zero j)
  | succ k ih =>
    intro p j hj
    cases h : isD (f p)
    · have h1 := runD_f (k := k) h
      omega
    · have h1 := runD_t (k := k) h
      rcases Nat.eq_zero_or_pos j with h0 | h0
      · subst h0; exact h
      · have h2 := ih (p + 1) (j - 1) (by omega)
        rw [show p + 1 + (j - 1) = p + j by omega] at h2
        exact h2
theorem dgs_lt {f : Nat → Int32} {q mn mx r : Nat} (h : runD f mx q = r) (hr : r < mn) : dgs f q mn mx = (false, q + r) := by
  unfold dgs
  rw [h, if_pos hr]
theorem dgs_ge {f : Nat → Int32} {q mn mx r : Nat} (h : runD f mx q = r) (hr : ¬ r < mn) : dgs f q mn mx = endS f (q + r) := by
  unfold dgs
  rw [h, if_neg hr]
theorem endS_ok {f : Nat → Int32} {e : Nat} (h : (endS f e).1 = true) : f e = nI 59 ∧ (endS f e).2 = e + 1 := by
  unfold endS at h ⊢
  by_cases h1 : f e = nI 59
  · rw [if_pos h1]; exact ⟨h1, rfl⟩
  · rw [if_neg h1] at h; exact absurd h Bool.false_ne_true
theorem dgs_ok {f : Nat → Int32} {q mn mx : Nat} (h : (dgs f q mn mx).1 = true) : mn ≤ runD f mx q ∧ (dgs f q mn mx).2 = q + runD f mx q + 1 := by
  by_cases h1 : runD f mx q < mn
  · rw [dgs_lt rfl h1] at h; exact absurd h Bool.false_ne_true
  · rw [dgs_ge rfl h1] at h ⊢
    exact ⟨by omega, (endS_ok h).2⟩
theorem dgs_pos (f : Nat → Int32) (q mn mx : Nat) : (dgs f q mn mx).2 ≤ q + mx + 1 := by
  have h := runD_le f mx q
  by_cases h1 : runD f mx q < mn
  · rw [dgs_lt rfl h1]
    show q + runD f mx q ≤ _
    omega
  · rw [dgs_ge rfl h1]
    unfold endS
    by_cases h2 : f (q + runD f mx q) = nI 59
    · rw [if_pos h2]
      show q + runD f mx q + 1 ≤ _
      omega
    · rw [if_neg h2]
      show q + runD f mx q ≤ _
      omega
theorem stm_97 {f : Nat → Int32} {p : Nat} (h : f p = nI 97) : stm f p = dgs f (p + 1) 2 9 := if_pos h
theorem stm_99 {f : Nat → Int32} {p : Nat} (h : f p = nI 99) : stm f p = if 0 ≤ kdI (f (p + 1)) then dgs f (p + 2) 3 3 else (false, p + 1) := (if_neg (by rw [h]; decide)).trans (if_pos h)
theorem stm_100 {f : Nat → Int32} {p : Nat} (h : f p = nI 100) : stm f p = dgs f (p + 1) 1 1 := (if_neg (by rw [h]; decide)).trans ((if_neg (by rw [h]; decide)).trans (if_pos h))
theorem stm_113 {f : Nat → Int32} {p : Nat} (h : f p = nI 113) : stm f p = dgs f (p + 1) 3 3 := (if_neg (by rw [h]; decide)).trans ((if_neg (by rw [h]; decide)).trans ((if_neg (by rw [h]; decide)).trans (if_pos h)))
theorem stm_119 {f : Nat → Int32} {p : Nat} (h : f p = nI 119) : stm f p = dgs f (p + 1) 3 3 := (if_neg (by rw [h]; decide)).trans ((if_neg (by rw [h]; decide)).trans ((if_neg (by rw [h]; decide)).trans ((if_neg (by rw [h]; decide)).trans (if_pos h))))
theorem stm_121 {f : Nat → Int32} {p : Nat} (h : f p = nI 121) : stm f p = dgs f (p + 1) 2 2 := (if_neg (by rw [h]; decide)).trans ((if_neg (by rw [h]; decide)).trans ((if_neg (by rw [h]; decide)).trans ((if_neg (by rw [h]; decide)).trans ((if_neg (by rw [h]; decide)).trans (if_pos h)))))
theorem stm_no {f : Nat → Int32} {p : Nat} (h1 : ¬ f p = nI 97) (h2 : ¬ f p = nI 99) (h3 : ¬ f p = nI 100) (h4 : ¬ f p = nI 113) (h5 : ¬ f p = nI 119) (h6 : ¬ f p = nI 121) : stm f p = (false, p) := (if_neg h1).trans ((if_neg h2).trans ((if_neg h3).trans ((if_neg h4).trans ((if_neg h5).trans (if_neg h6)))))
theorem kdI_cases (s : Int32) : (∃ k, k ≤ 5 ∧ kdI s = nI k) ∨ kdI s = -1 := by
  unfold kdI
  by_cases h0 : s = nI 99
  · rw [if_pos h0]; exact Or.inl ⟨0, by decide, rfl⟩
  rw [if_neg h0]
  by_cases h1 : s = nI 104
  · rw [if_pos h1]; exact Or.inl ⟨1, by decide, rfl⟩
  rw [if_neg h1]
  by_cases h2 : s = nI 119
  · rw [if_pos h2]; exact Or.inl ⟨2, by decide, rfl⟩
  rw [if_neg h2]
  by_cases h3 : s = nI 102
  · rw [if_pos h3]; exact Or.inl ⟨3, by decide, rfl⟩
  rw [if_neg h3]
  by_cases h4 : s = nI 108
  · rw [if_pos h4]; exact Or.inl ⟨4, by decide, rfl⟩
  rw [if_neg h4]
  by_cases h5 : s = nI 107
  · rw [if_pos h5]; exact Or.inl ⟨5, by decide, rfl⟩
  rw [if_neg h5]
  exact Or.inr rfl
theorem x_sign (N : Nat) {g : GS} (hg : GI g) {i : Nat} (hi : i < 2147483648) : F_X0_sign N (LX g) (nI i) = some (sG g i) := by
  have hl := hg.2.2.2.2.1
  unfold F_X0_sign sG
  rw [i_lt0 hi, if_neg (fun h => h)]
  show (if nI g.2.2.2.2.1 ≤ nI i then _ else ckI (nI i) 96 _) = _
  rw [i_le (by omega) hi]
  by_cases h : i < g.2.2.2.2.1
  · refine Eq.trans (if_neg (by omega)) ?_
    refine Eq.trans (q_ck (by omega) (by decide)) ?_
    refine Eq.trans ?_ (congrArg some (if_pos h).symm)
    exact congrArg (fun z => some (g.2.2.2.1 z)) (q_cl hi)
  · rw [if_pos (by omega), if_neg h]
theorem x_isDigit (N : Nat) {g : GS} (hg : GI g) {i : Nat} (hi : i < 2147483648) : F_X0_isDigit N (LX g) (nI i) = some (bI (isD (sG g i))) := by
  unfold F_X0_isDigit isD
  refine Eq.trans (q_bs0 _ _ _ (x_sign N hg hi)) ?_
  by_cases h1 : sG g i < nI 48
  · refine Eq.trans (if_pos h1) ?_
    rw [decide_eq_false (show ¬ ¬ sG g i < nI 48 from fun h => h h1)]
    rfl
  · refine Eq.trans (if_neg h1) ?_
    refine Eq.trans (q_bs0 _ _ _ (x_sign N hg hi)) ?_
    rw [decide_eq_true h1]
    by_cases h2 : nI 57 < sG g i
    · refine Eq.trans (if_pos h2) ?_
      rw [decide_eq_false (show ¬ ¬ nI 57 < sG g i from fun h => h h2)]
      rfl
    · refine Eq.trans (if_neg h2) ?_
      rw [decide_eq_true h2]
      rfl
theorem x_digit (N : Nat) {g : GS} (hg : GI g) {i : Nat} (hi : i < 2147483648) (hd : isD (sG g i) = true) : F_X0_digit N (LX g) (nI i) = some (nI (dg (sG g i))) := by
  unfold F_X0_digit
  refine Eq.trans (q_bs0 _ _ _ (x_sign N hg hi)) ?_
  exact congrArg some (isD_sub hd)
theorem x_twoD (N : Nat) {g : GS} (hg : GI g) {i : Nat} (hi : i < 2147483000) (hd : isD (sG g i) = true) (hd2 : isD (sG g (i + 1)) = true) : F_X0_twoDigits N (LX g) (nI i) = some (nI (10 * dg (sG g i) + dg (sG g (i + 1)))) := by
  unfold F_X0_twoDigits
  refine Eq.trans (q_bs0 _ _ _ (x_digit N hg (by omega) hd)) ?_
  rw [(nI_add i 1)]
  refine Eq.trans (q_bs0 _ _ _ (x_digit N hg (by omega) hd2)) ?_
  show some (nI 10 * nI (dg (sG g i)) + nI (dg (sG g (i + 1)))) = _
  rw [pk_mul, (nI_add (10 * dg (sG g i)) (dg (sG g (i + 1))))]
theorem x_runD (N : Nat) {g : GS} (hg : GI g) {p mn mx : Nat} (hp : p < 1000) (hmx : mx < 100) : ∀ r n j, r < n → j + r = mx → F_X0_behindDigits_3 N (LX g) n (nI p) (nI mn) (nI mx) (nI (p + j)) = F_X0_behindDigits_26 N (LX g) (nI p) (nI mn) (nI (p + j + runD (sG g) r (p + j))) := by
  intro r
  induction r with
  | zero =>
    intro n j hn hj
    obtain ⟨n, rfl⟩ : ∃ k, n = k + 1 := ⟨n - 1, by omega⟩
    show _ = F_X0_behindDigits_26 N (LX g) (nI p) (nI mn) (nI (p + j))
    rw [F_X0_behindDigits_3, (nI_add p mx), i_le (by omega) (by omega)]
    exact if_pos (by omega)
  | succ r ih =>
    intro n j hn hj
    obtain ⟨n, rfl⟩ : ∃ k, n = k + 1 := ⟨n - 1, by omega⟩
    rw [F_X0_behindDigits_3, (nI_add p mx), i_le (by omega) (by omega)]
    refine Eq.trans (if_neg (by omega)) ?_
    refine Eq.trans (q_bs0 _ _ _ (x_isDigit N hg (by omega))) ?_
    cases hd : isD (sG g (p + j))
    · refine Eq.trans (if_pos (show bI false = 0 by decide)) ?_
      exact congrArg (fun z => F_X0_behindDigits_26 N (LX g) (nI p) (nI mn) (nI z)) (by have h := runD_f (k := r) hd; omega)
    · refine Eq.trans (if_neg (show ¬ bI true = 0 by decide)) ?_
      rw [(nI_add (p + j) 1)]
      refine (ih n (j + 1) (by omega) (by omega)).trans ?_
      exact congrArg (fun z => F_X0_behindDigits_26 N (LX g) (nI p) (nI mn) (nI z)) (by have h := runD_t (k := r) hd; rw [Nat.add_assoc p j 1] at h; omega)
theorem x_behindDigits {N : Nat} (hN : 2000 ≤ N) {g : GS} (hg : GI g) {p mn mx : Nat} (hp : p < 1000) (hmn : mn < 100) (hmx : mx < 100) : F_X0_behindDigits N (LX g) (nI p) (nI mn) (nI mx) = some (resI (dgs (sG g) p mn mx)) := by
  have h := x_runD N hg (mn := mn) hp hmx mx N 0 (by omega) (Nat.zero_add mx)
  have hr := runD_le (sG g) mx p
  unfold F_X0_behindDigits
  refine h.trans ?_
  show F_X0_behindDigits_26 N (LX g) (nI p) (nI mn) (nI (p + runD (sG g) mx p)) = _
  unfold F_X0_behindDigits_26 dgs
  rw [(nI_add p mn), i_lt (by omega) (by omega)]
  by_cases h1 : runD (sG g) mx p < mn
  · refine Eq.trans (if_pos (show p + runD (sG g) mx p < p + mn by omega)) ?_
    rw [if_pos h1]
    rfl
  · refine Eq.trans (if_neg (show ¬ p + runD (sG g) mx p < p + mn by omega)) ?_
    rw [if_neg h1]
    refine Eq.trans (q_bs0 _ _ _ (x_sign N hg (by omega))) ?_
    unfold endS
    by_cases h2 : sG g (p + runD (sG g) mx p) = nI 59
    · refine Eq.trans (if_pos h2) ?_
      rw [if_pos h2, (nI_add (p + runD (sG g) mx p) 1)]
      rfl
    · refine Eq.trans (if_neg h2) ?_
      rw [if_neg h2]
      rfl
theorem ch_N (N : Nat) (x : Int32) : F_J0_charAt_5068e N x = F_J0_charAt_5068e 0 x := rfl
theorem ch_0 (N : Nat) : F_J0_charAt_5068e N (nI 0) = some (nI 99) := (ch_N N _).trans (by decide +kernel)
theorem ch_1 (N : Nat) : F_J0_charAt_5068e N (nI 1) = some (nI 104) := (ch_N N _).trans (by decide +kernel)
theorem ch_2 (N : Nat) : F_J0_charAt_5068e N (nI 2) = some (nI 119) := (ch_N N _).trans (by decide +kernel)
theorem ch_3 (N : Nat) : F_J0_charAt_5068e N (nI 3) = some (nI 102) := (ch_N N _).trans (by decide +kernel)
theorem ch_4 (N : Nat) : F_J0_charAt_5068e N (nI 4) = some (nI 108) := (ch_N N _).trans (by decide +kernel)
theorem ch_5 (N : Nat) : F_J0_charAt_5068e N (nI 5) = some (nI 107) := (ch_N N _).trans (by decide +kernel)
theorem jl_N (N : Nat) : F_J0_length_8abf5 N = F_J0_length_8abf5 0 := rfl
theorem jl_6 (N : Nat) : F_J0_length_8abf5 N = some (nI 6) := (jl_N N).trans (by decide +kernel)
theorem x_kind_s (N : Nat) {g : GS} (hg : GI g) {i : Nat} (hi : i < 2147483648) (n j v : Nat) (hj : j < 6) (hc : F_J0_charAt_5068e N (nI j) = some (nI v)) : F_X0_kindAt_2 N (LX g) (n + 1) (nI i) (nI j) = if sG g i = nI v then some (nI j) else F_X0_kindAt_2 N (LX g) n (nI i) (nI (j + 1)) := by
  rw [F_X0_kindAt_2]
  refine Eq.trans (q_bs0 _ _ _ (jl_6 N)) ?_
  refine Eq.trans (if_neg (by rw [(q_le (by decide) (by omega))]; omega)) ?_
  refine Eq.trans (q_bs0 _ _ _ hc) ?_
  refine Eq.trans (q_bs0 _ _ _ (x_sign N hg hi)) ?_
  rw [(nI_add j 1)]
  by_cases h : sG g i = nI v
  · rw [if_pos h]
    exact if_neg (show ¬ ¬ nI v = sG g i from fun e => e h.symm)
  · rw [if_neg h]
    exact if_pos (show ¬ nI v = sG g i from fun e => h e.symm)
theorem x_kindAt {N : Nat} (hN : 2000 ≤ N) {g : GS} (hg : GI g) {i : Nat} (hi : i < 2147483648) : F_X0_kindAt N (LX g) (nI i) = some (kdI (sG g i)) := by
  obtain ⟨n, hn⟩ : ∃ n, N = n + 7 := ⟨N - 7, by omega⟩
  have e : F_X0_kindAt_2 N (LX g) N (nI i) (nI 0) = F_X0_kindAt_2 N (LX g) (n + 7) (nI i) (nI 0) := congrArg (fun z => F_X0_kindAt_2 N (LX g) z (nI i) (nI 0)) hn
  have s0 : F_X0_kindAt_2 N (LX g) (n + 7) (nI i) (nI 0) = if sG g i = nI 99 then some (nI 0) else F_X0_kindAt_2 N (LX g) (n + 6) (nI i) (nI 1) := x_kind_s N hg hi (n + 6) 0 99 (by decide) (ch_0 N)
  have s1 : F_X0_kindAt_2 N (LX g) (n + 6) (nI i) (nI 1) = if sG g i = nI 104 then some (nI 1) else F_X0_kindAt_2 N (LX g) (n + 5) (nI i) (nI 2) := x_kind_s N hg hi (n + 5) 1 104 (by decide) (ch_1 N)
  have s2 : F_X0_kindAt_2 N (LX g) (n + 5) (nI i) (nI 2) = if sG g i = nI 119 then some (nI 2) else F_X0_kindAt_2 N (LX g) (n + 4) (nI i) (nI 3) := x_kind_s N hg hi (n + 4) 2 119 (by decide) (ch_2 N)
  have s3 : F_X0_kindAt_2 N (LX g) (n + 4) (nI i) (nI 3) = if sG g i = nI 102 then some (nI 3) else F_X0_kindAt_2 N (LX g) (n + 3) (nI i) (nI 4) := x_kind_s N hg hi (n + 3) 3 102 (by decide) (ch_3 N)
  have s4 : F_X0_kindAt_2 N (LX g) (n + 3) (nI i) (nI 4) = if sG g i = nI 108 then some (nI 4) else F_X0_kindAt_2 N (LX g) (n + 2) (nI i) (nI 5) := x_kind_s N hg hi (n + 2) 4 108 (by decide) (ch_4 N)
  have s5 : F_X0_kindAt_2 N (LX g) (n + 2) (nI i) (nI 5) = if sG g i = nI 107 then some (nI 5) else F_X0_kindAt_2 N (LX g) (n + 1) (nI i) (nI 6) := x_kind_s N hg hi (n + 1) 5 107 (by decide) (ch_5 N)
  have s6 : F_X0_kindAt_2 N (LX g) (n + 1) (nI i) (nI 6) = some (-1) := by
    rw [F_X0_kindAt_2]
    refine Eq.trans (q_bs0 _ _ _ (jl_6 N)) ?_
    exact if_pos (show nI 6 ≤ nI 6 by decide)
  unfold F_X0_kindAt
  refine e.trans ?_
  rw [s0, s1, s2, s3, s4, s5, s6]
  unfold kdI
  by_cases h0 : sG g i = nI 99
  · rw [if_pos h0, if_pos h0]
  rw [if_neg h0, if_neg h0]
  by_cases h1 : sG g i = nI 104
  · rw [if_pos h1, if_pos h1]
  rw [if_neg h1, if_neg h1]
  by_cases h2 : sG g i = nI 119
  · rw [if_pos h2, if_pos h2]
  rw [if_neg h2, if_neg h2]
  by_cases h3 : sG g i = nI 102
  · rw [if_pos h3, if_pos h3]
  rw [if_neg h3, if_neg h3]
  by_cases h4 : sG g i = nI 108
  · rw [if_pos h4, if_pos h4]
  rw [if_neg h4, if_neg h4]
  by_cases h5 : sG g i = nI 107
  · rw [if_pos h5, if_pos h5]
  rw [if_neg h5, if_neg h5]
theorem x_behind {N : Nat} (hN : 2000 ≤ N) {g : GS} (hg : GI g) {p : Nat} (hp : p < 900) : F_X0_behindStatement N (LX g) (nI p) = some (resI (stm (sG g) p)) := by
  unfold F_X0_behindStatement
  refine Eq.trans (q_bs0 _ _ _ (x_sign N hg (by omega))) ?_
  rw [(nI_add p 1), (nI_add p 2)]
  by_cases h1 : sG g p = nI 97
  · rw [stm_97 h1]
    refine Eq.trans (if_pos h1) ?_
    exact q_bs0 _ _ _ (x_behindDigits hN hg (by omega) (by decide) (by decide))
  refine Eq.trans (if_neg h1) ?_
  by_cases h2 : sG g p = nI 99
  · rw [stm_99 h2]
    refine Eq.trans (if_pos h2) ?_
    refine Eq.trans (q_bs0 _ _ _ (x_kindAt hN hg (by omega))) ?_
    by_cases hk : 0 ≤ kdI (sG g (p + 1))
    · rw [if_pos hk, if_pos hk]
      exact q_bs0 _ _ _ (x_behindDigits hN hg (by omega) (by decide) (by decide))
    · rw [if_neg hk, if_neg hk]
      rfl
  refine Eq.trans (if_neg h2) ?_
  by_cases h3 : sG g p = nI 100
  · rw [stm_100 h3]
    refine Eq.trans (if_pos h3) ?_
    exact q_bs0 _ _ _ (x_behindDigits hN hg (by omega) (by decide) (by decide))
  refine Eq.trans (if_neg h3) ?_
  by_cases h4 : sG g p = nI 113
  · rw [stm_113 h4]
    refine Eq.trans (if_pos h4) ?_
    exact q_bs0 _ _ _ (x_behindDigits hN hg (by omega) (by decide) (by decide))
  refine Eq.trans (if_neg h4) ?_
  by_cases h5 : sG g p = nI 119
  · rw [stm_119 h5]
    refine Eq.trans (if_pos h5) ?_
    exact q_bs0 _ _ _ (x_behindDigits hN hg (by omega) (by decide) (by decide))
  refine Eq.trans (if_neg h5) ?_
  by_cases h6 : sG g p = nI 121
  · rw [stm_121 h6]
    refine Eq.trans (if_pos h6) ?_
    exact q_bs0 _ _ _ (x_behindDigits hN hg (by omega) (by decide) (by decide))
  refine Eq.trans (if_neg h6) ?_
  rw [stm_no h1 h2 h3 h4 h5 h6]
  rfl
