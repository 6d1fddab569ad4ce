/-! a town told in letters: the reference's statements -/
theorem y_kindBy (N : Nat) (s : Int32) : F_X3_kindBy N s = some (if 0 ≤ kdI s then kdI s else -9) := by
  unfold F_X3_kindBy
  by_cases h0 : s = nI 99
  · subst h0; decide +kernel
  by_cases h3 : s = nI 102
  · subst h3; decide +kernel
  by_cases h1 : s = nI 104
  · subst h1; decide +kernel
  by_cases h5 : s = nI 107
  · subst h5; decide +kernel
  by_cases h4 : s = nI 108
  · subst h4; decide +kernel
  by_cases h2 : s = nI 119
  · subst h2; decide +kernel
  have e : kdI s = -1 := by
    unfold kdI
    rw [if_neg h0, if_neg h1, if_neg h2, if_neg h3, if_neg h4, if_neg h5]
  rw [if_neg h0, if_neg h3, if_neg h1, if_neg h5, if_neg h4, if_neg h2, e]
  decide +kernel
theorem y_kindT (N : Nat) {g : GS} (hg : GI g) (m was : TA) (ma : Int32) (nu to : FA) (se : Int32) {q k : Nat} (hq : q < 1000) (hk5 : k ≤ 5) (hk : kdI (sG g q) = nI k) : F_X3_readsKind N (ys g m was (nI q) ma nu to se) = some (nI 1, ys g m was (nI (q + 1)) ma (upd nu 0 (nI k)) to se) := by
  have e : F_X3_kindBy N (sG g q) = some (nI k) := by
    have h0 : 0 ≤ nI k := nI_pos' (by omega)
    rw [y_kindBy, hk, if_pos h0]
  have h0 : 0 ≤ nI k := nI_pos' (by omega)
  have h1 : ¬ nI k < 0 := nI_pos (by omega)
  unfold F_X3_readsKind F_X3_readsKind_32
  try rw [q_c0]
  refine Eq.trans (q_bs0 _ _ _ (y_here N hg m was (by omega) ma nu to se)) ?_
  refine Eq.trans (q_bs0 _ _ _ e) ?_
  refine Eq.trans (if_pos h0) ?_
  refine Eq.trans (if_neg h1) ?_
  exact congrArg (fun z => some (nI 1, ys g m was z ma (upd nu 0 (nI k)) to se)) (nI_add q 1)
theorem y_kindF (N : Nat) {g : GS} (hg : GI g) (m was : TA) (ma : Int32) (nu to : FA) (se : Int32) {q : Nat} (hq : q < 1000) (hk : kdI (sG g q) = -1) : F_X3_readsKind N (ys g m was (nI q) ma nu to se) = some (nI 0, ys g m was (nI q) ma (upd nu 0 (-9)) to se) := by
  have e : F_X3_kindBy N (sG g q) = some (-9) := by
    rw [y_kindBy, hk, if_neg (by decide)]
  unfold F_X3_readsKind F_X3_readsKind_32
  try rw [q_c0]
  refine Eq.trans (q_bs0 _ _ _ (y_here N hg m was (by omega) ma nu to se)) ?_
  refine Eq.trans (q_bs0 _ _ _ e) ?_
  refine Eq.trans (if_neg (show ¬ (0 : Int32) ≤ -9 by decide)) ?_
  refine Eq.trans (if_pos (show (-9 : Int32) < 0 by decide)) ?_
  exact congrArg (fun z => some (nI 0, ys g m was z ma (upd nu 0 (-9)) to se)) (nI_add q 0)
theorem y_rw1 (N n : Nat) {g : GS} (hg : GI g) (m was : TA) {q j : Nat} (nu to : FA) (se : Int32) (hq : q < 2000) (hj : j < 8) : F_X3_readsWords_5 N (n + 1) (ys g m was (nI q) (nI j) nu to se) = if isD (sG g q) = false then F_X3_readsWords_60 N (ys g m was (nI q) (nI j) nu to se) else F_X3_readsWords_5 N n (ys g m was (nI (q + 1)) (nI (j + 1)) nu (upd to j (nI (dg (sG g q)))) se) := by
  rw [F_X3_readsWords_5]
  show (if nI 8 ≤ nI j then _ else _) = _
  rw [i_le (by decide) (by omega)]
  refine Eq.trans (if_neg (by omega)) ?_
  refine Eq.trans (q_bs0 _ _ _ (y_isDigit N hg m was (by omega) (nI j) nu to se)) ?_
  cases hd : isD (sG g q)
  · refine Eq.trans (if_pos (show bI false = 0 by decide)) ?_
    exact (if_pos (show false = false from rfl)).symm
  · refine Eq.trans (if_neg (show ¬ bI true = 0 by decide)) ?_
    refine Eq.trans ?_ (if_neg (show ¬ true = false by decide)).symm
    refine Eq.trans (q_bs0 _ _ _ (y_here N hg m was (by omega) (nI j) nu to se)) ?_
    refine Eq.trans (q_ck hj (by decide)) ?_
    have e : F_X3_readsWords_5 N n (ys g m was (nI q + nI 1) (nI j + nI 1) nu (upd to (nI j).toNatClampNeg (sG g q - nI 48)) se) = F_X3_readsWords_5 N n (ys g m was (nI (q + 1)) (nI (j + 1)) nu (upd to j (nI (dg (sG g q)))) se) := by
      rw [isD_sub hd, (q_cl (show j < 2147483648 by omega)), (nI_add q 1), (nI_add j 1)]
    exact e
theorem y_rw (N : Nat) {g : GS} (hg : GI g) (m was : TA) (nu : FA) (se : Int32) : ∀ r n q j to, r < n → j + r = 8 → q + r < 1000 → ∃ to', F_X3_readsWords_5 N n (ys g m was (nI q) (nI j) nu to se) = F_X3_readsWords_60 N (ys g m was (nI (q + runD (sG g) r q)) (nI (j + runD (sG g) r q)) nu to' se) ∧ (∀ i, i < j → to' i = to i) ∧ ∀ i, i < runD (sG g) r q → to' (j + i) = nI (dg (sG g (q + i))) := by
  intro r
  induction r with
  | zero =>
    intro n q j to hn hj hq
    obtain ⟨n, rfl⟩ : ∃ k, n = k + 1 := ⟨n - 1, by omega⟩
    refine ⟨to, ?_, fun _ _ => rfl, fun i hi => absurd hi (Nat.not_lt_zero i)⟩
    show _ = F_X3_readsWords_60 N (ys g m was (nI q) (nI j) nu to se)
    rw [F_X3_readsWords_5]
    show (if nI 8 ≤ nI j then _ else _) = _
    rw [i_le (by decide) (by omega)]
    exact if_pos (by omega)
  | succ r ih =>
    intro n q j to hn hj hq
    obtain ⟨n, rfl⟩ : ∃ k, n = k + 1 := ⟨n - 1, by omega⟩
    have h1 := y_rw1 N n hg m was (q := q) (j := j) nu to se (by omega) (by omega)
    cases hd : isD (sG g q)
    · rw [hd, if_pos (show false = false from rfl)] at h1
      have hr := runD_f (k := r) hd
      refine ⟨to, ?_, fun _ _ => rfl, fun i hi => ?_⟩
      · rw [hr]; exact h1
      · rw [hr] at hi
        exact absurd hi (Nat.not_lt_zero i)
    · rw [hd, if_neg (show ¬ true = false by decide)] at h1
      obtain ⟨to', h2, h3, h4⟩ := ih n (q + 1) (j + 1) (upd to j (nI (dg (sG g q)))) (by omega) (by omega) (by omega)
      have hr := runD_t (k := r) hd
      refine ⟨to', ?_, fun i hi => ?_, fun i hi => ?_⟩
      · rw [hr, show q + (runD (sG g) r (q + 1) + 1) = q + 1 + runD (sG g) r (q + 1) by omega, show j + (runD (sG g) r (q + 1) + 1) = j + 1 + runD (sG g) r (q + 1) by omega]
        exact h1.trans h2
      · refine (h3 i (by omega)).trans ?_
        show (if i = j then _ else to i) = to i
        exact if_neg (by omega)
      · rw [hr] at hi
        rcases Nat.eq_zero_or_pos i with h0 | h0
        · subst h0
          exact (h3 j (by omega)).trans (upd_s _ _ _)
        · have h5 := h4 (i - 1) (by omega)
          rw [show j + 1 + (i - 1) = j + i by omega, show q + 1 + (i - 1) = q + i by omega] at h5
          exact h5
theorem y_words {N : Nat} (hN : 2000 ≤ N) {g : GS} (hg : GI g) (m was : TA) (ma : Int32) (nu to : FA) (se : Int32) {q : Nat} (hq : q < 900) : ∃ to', F_X3_readsWords N (ys g m was (nI q) ma nu to se) = some (bI (decide (0 < runD (sG g) 8 q)), ys g m was (nI (q + runD (sG g) 8 q)) (nI (runD (sG g) 8 q)) nu to' se) ∧ ∀ i, i < runD (sG g) 8 q → to' i = nI (dg (sG g (q + i))) := by
  obtain ⟨to', h1, -, h3⟩ := y_rw N hg m was nu se 8 N q 0 to (by omega) (by omega) (by omega)
  have hr := runD_le (sG g) 8 q
  refine ⟨to', ?_, fun i hi => ?_⟩
  · unfold F_X3_readsWords
    refine Eq.trans h1 ?_
    rw [Nat.zero_add]
    generalize runD (sG g) 8 q = R at hr ⊢
    unfold F_X3_readsWords_60
    show (if nI R ≤ 0 then some (nI 0, ys g m was (nI (q + R)) (nI R) nu to' se) else some (nI 1, ys g m was (nI (q + R)) (nI R) nu to' se)) = _
    rw [i_le0 (by omega)]
    by_cases h : R ≤ 0
    · rw [if_pos h, decide_eq_false (show ¬ 0 < R by omega)]
      rfl
    · rw [if_neg h, decide_eq_true (show 0 < R by omega)]
      rfl
  · have h := h3 i hi
    rw [Nat.zero_add] at h
    exact h
def Dat (f : Nat → Int32) (p : Nat) (ma : Int32) (nu to : FA) : Prop := (f p = nI 97 → nu 0 = nI (dg (f (p + 1))) ∧ ma = nI (runD f 8 (p + 2)) ∧ ∀ i, i < runD f 8 (p + 2) → to i = nI (dg (f (p + 2 + i)))) ∧ (f p = nI 99 → nu 0 = kdI (f (p + 1)) ∧ nu 1 = nI (dg (f (p + 2))) ∧ nu 2 = nI (10 * dg (f (p + 3)) + dg (f (p + 4)))) ∧ (f p = nI 100 → nu 0 = nI (dg (f (p + 1)))) ∧ (f p = nI 113 ∨ f p = nI 119 → nu 0 = nI (dg (f (p + 1))) ∧ nu 1 = nI (dg (f (p + 2))) ∧ nu 2 = nI (dg (f (p + 3)))) ∧ (f p = nI 121 → nu 0 = nI (10 * dg (f (p + 1)) + dg (f (p + 2))))
theorem dat_a {f : Nat → Int32} {p : Nat} {ma : Int32} {nu to : FA} (h : f p = nI 97) (e0 : nu 0 = nI (dg (f (p + 1)))) (e1 : ma = nI (runD f 8 (p + 2))) (e2 : ∀ i, i < runD f 8 (p + 2) → to i = nI (dg (f (p + 2 + i)))) : Dat f p ma nu to := ⟨fun _ => ⟨e0, e1, e2⟩, fun z => absurd (h.symm.trans z) (by decide), fun z => absurd (h.symm.trans z) (by decide), fun z => z.elim (fun z => absurd (h.symm.trans z) (by decide)) (fun z => absurd (h.symm.trans z) (by decide)), fun z => absurd (h.symm.trans z) (by decide)⟩
theorem dat_c {f : Nat → Int32} {p : Nat} {ma : Int32} {nu to : FA} (h : f p = nI 99) (e0 : nu 0 = kdI (f (p + 1))) (e1 : nu 1 = nI (dg (f (p + 2)))) (e2 : nu 2 = nI (10 * dg (f (p + 3)) + dg (f (p + 4)))) : Dat f p ma nu to := ⟨fun z => absurd (h.symm.trans z) (by decide), fun _ => ⟨e0, e1, e2⟩, fun z => absurd (h.symm.trans z) (by decide), fun z => z.elim (fun z => absurd (h.symm.trans z) (by decide)) (fun z => absurd (h.symm.trans z) (by decide)), fun z => absurd (h.symm.trans z) (by decide)⟩
theorem dat_d {f : Nat → Int32} {p : Nat} {ma : Int32} {nu to : FA} (h : f p = nI 100) (e0 : nu 0 = nI (dg (f (p + 1)))) : Dat f p ma nu to := ⟨fun z => absurd (h.symm.trans z) (by decide), fun z => absurd (h.symm.trans z) (by decide), fun _ => e0, fun z => z.elim (fun z => absurd (h.symm.trans z) (by decide)) (fun z => absurd (h.symm.trans z) (by decide)), fun z => absurd (h.symm.trans z) (by decide)⟩
theorem dat_q {f : Nat → Int32} {p : Nat} {ma : Int32} {nu to : FA} (h : f p = nI 113) (e0 : nu 0 = nI (dg (f (p + 1))) ∧ nu 1 = nI (dg (f (p + 2))) ∧ nu 2 = nI (dg (f (p + 3)))) : Dat f p ma nu to := ⟨fun z => absurd (h.symm.trans z) (by decide), fun z => absurd (h.symm.trans z) (by decide), fun z => absurd (h.symm.trans z) (by decide), fun _ => e0, fun z => absurd (h.symm.trans z) (by decide)⟩
theorem dat_w {f : Nat → Int32} {p : Nat} {ma : Int32} {nu to : FA} (h : f p = nI 119) (e0 : nu 0 = nI (dg (f (p + 1))) ∧ nu 1 = nI (dg (f (p + 2))) ∧ nu 2 = nI (dg (f (p + 3)))) : Dat f p ma nu to := ⟨fun z => absurd (h.symm.trans z) (by decide), fun z => absurd (h.symm.trans z) (by decide), fun z => absurd (h.symm.trans z) (by decide), fun _ => e0, fun z => absurd (h.symm.trans z) (by decide)⟩
theorem dat_y {f : Nat → Int32} {p : Nat} {ma : Int32} {nu to : FA} (h : f p = nI 121) (e0 : nu 0 = nI (10 * dg (f (p + 1)) + dg (f (p + 2)))) : Dat f p ma nu to := ⟨fun z => absurd (h.symm.trans z) (by decide), fun z => absurd (h.symm.trans z) (by decide), fun z => absurd (h.symm.trans z) (by decide), fun z => z.elim (fun z => absurd (h.symm.trans z) (by decide)) (fun z => absurd (h.symm.trans z) (by decide)), fun _ => e0⟩
def Rd (N : Nat) (g : GS) (m was : TA) (p : Nat) (ma : Int32) (nu to : FA) (se : Int32) : Prop := ∃ ma' nu' to', F_X3_readsStatement N (ys g m was (nI p) ma nu to se) = some (bI (stm (sG g) p).1, ys g m was (nI (stm (sG g) p).2) ma' nu' to' se) ∧ ((stm (sG g) p).1 = true → Dat (sG g) p ma' nu' to')
theorem st_97 (N : Nat) {g : GS} (hg : GI g) (m was : TA) (ma : Int32) (nu to : FA) (se : Int32) {p : Nat} (hp : p < 800) (h : sG g p = nI 97) : F_X3_readsStatement N (ys g m was (nI p) ma nu to se) = (F_X3_readsNumber N (ys g m was (nI (p + 1)) ma nu to se) (nI 0) (nI 1)).bind fun r149 => if r149.1 = 0 then (F_X3_readsStatement_167 N r149.2 (nI 0)) else ((F_X3_readsWords N r149.2).bind fun r156 => if r156.1 = 0 then (F_X3_readsStatement_167 N r156.2 (nI 0)) else (F_X3_readsStatement_167 N r156.2 (nI 1))) := by
  have e0 := y_here N hg m was (i := p) (by omega) ma nu to se
  rw [h] at e0
  unfold F_X3_readsStatement
  refine Eq.trans (q_bs0 _ _ _ e0) ?_
  refine Eq.trans (if_pos (show nI 97 = nI 97 from rfl)) ?_
  exact congrArg (fun z => (F_X3_readsNumber N (ys g m was z ma nu to se) (nI 0) (nI 1)).bind fun r149 => if r149.1 = 0 then (F_X3_readsStatement_167 N r149.2 (nI 0)) else ((F_X3_readsWords N r149.2).bind fun r156 => if r156.1 = 0 then (F_X3_readsStatement_167 N r156.2 (nI 0)) else (F_X3_readsStatement_167 N r156.2 (nI 1)))) (nI_add p 1)
theorem st_99 (N : Nat) {g : GS} (hg : GI g) (m was : TA) (ma : Int32) (nu to : FA) (se : Int32) {p : Nat} (hp : p < 800) (h : sG g p = nI 99) : F_X3_readsStatement N (ys g m was (nI p) ma nu to se) = (F_X3_readsKind N (ys g m was (nI (p + 1)) ma nu to se)).bind fun r77 => if r77.1 = 0 then (F_X3_readsStatement_106 N r77.2 (nI 0)) else ((F_X3_readsNumber N r77.2 (nI 1) (nI 1)).bind fun r86 => if r86.1 = 0 then (F_X3_readsStatement_106 N r86.2 (nI 0)) else ((F_X3_readsNumber N r86.2 (nI 2) (nI 2)).bind fun r95 => if r95.1 = 0 then (F_X3_readsStatement_106 N r95.2 (nI 0)) else (F_X3_readsStatement_106 N r95.2 (nI 1)))) := by
  have e0 := y_here N hg m was (i := p) (by omega) ma nu to se
  rw [h] at e0
  unfold F_X3_readsStatement
  refine Eq.trans (q_bs0 _ _ _ e0) ?_
  refine Eq.trans (if_neg (show ¬ nI 99 = nI 97 by decide)) ?_
  refine Eq.trans (if_pos (show nI 99 = nI 99 from rfl)) ?_
  exact congrArg (fun z => (F_X3_readsKind N (ys g m was z ma nu to se)).bind fun r77 => if r77.1 = 0 then (F_X3_readsStatement_106 N r77.2 (nI 0)) else ((F_X3_readsNumber N r77.2 (nI 1) (nI 1)).bind fun r86 => if r86.1 = 0 then (F_X3_readsStatement_106 N r86.2 (nI 0)) else ((F_X3_readsNumber N r86.2 (nI 2) (nI 2)).bind fun r95 => if r95.1 = 0 then (F_X3_readsStatement_106 N r95.2 (nI 0)) else (F_X3_readsStatement_106 N r95.2 (nI 1))))) (nI_add p 1)
theorem st_100 (N : Nat) {g : GS} (hg : GI g) (m was : TA) (ma : Int32) (nu to : FA) (se : Int32) {p : Nat} (hp : p < 800) (h : sG g p = nI 100) : F_X3_readsStatement N (ys g m was (nI p) ma nu to se) = (F_X3_readsNumber N (ys g m was (nI (p + 1)) ma nu to se) (nI 0) (nI 1)).bind fun r174 => F_X3_readsStatement_203 N r174.2 r174.1 := by
  have e0 := y_here N hg m was (i := p) (by omega) ma nu to se
  rw [h] at e0
  unfold F_X3_readsStatement
  refine Eq.trans (q_bs0 _ _ _ e0) ?_
  refine Eq.trans (if_neg (show ¬ nI 100 = nI 97 by decide)) ?_
  refine Eq.trans (if_neg (show ¬ nI 100 = nI 99 by decide)) ?_
  refine Eq.trans (if_pos (show nI 100 = nI 100 from rfl)) ?_
  exact congrArg (fun z => (F_X3_readsNumber N (ys g m was z ma nu to se) (nI 0) (nI 1)).bind fun r174 => F_X3_readsStatement_203 N r174.2 r174.1) (nI_add p 1)
theorem st_113 (N : Nat) {g : GS} (hg : GI g) (m was : TA) (ma : Int32) (nu to : FA) (se : Int32) {p : Nat} (hp : p < 800) (h : sG g p = nI 113) : F_X3_readsStatement N (ys g m was (nI p) ma nu to se) = F_X3_readsStatement_110 N (ys g m was (nI (p + 1)) ma nu to se) := by
  have e0 := y_here N hg m was (i := p) (by omega) ma nu to se
  rw [h] at e0
  unfold F_X3_readsStatement
  refine Eq.trans (q_bs0 _ _ _ e0) ?_
  refine Eq.trans (if_neg (show ¬ nI 113 = nI 97 by decide)) ?_
  refine Eq.trans (if_neg (show ¬ nI 113 = nI 99 by decide)) ?_
  refine Eq.trans (if_neg (show ¬ nI 113 = nI 100 by decide)) ?_
  refine Eq.trans (if_pos (show nI 113 = nI 113 from rfl)) ?_
  exact congrArg (fun z => F_X3_readsStatement_110 N (ys g m was z ma nu to se)) (nI_add p 1)
theorem st_119 (N : Nat) {g : GS} (hg : GI g) (m was : TA) (ma : Int32) (nu to : FA) (se : Int32) {p : Nat} (hp : p < 800) (h : sG g p = nI 119) : F_X3_readsStatement N (ys g m was (nI p) ma nu to se) = F_X3_readsStatement_110 N (ys g m was (nI (p + 1)) ma nu to se) := by
  have e0 := y_here N hg m was (i := p) (by omega) ma nu to se
  rw [h] at e0
  unfold F_X3_readsStatement
  refine Eq.trans (q_bs0 _ _ _ e0) ?_
  refine Eq.trans (if_neg (show ¬ nI 119 = nI 97 by decide)) ?_
  refine Eq.trans (if_neg (show ¬ nI 119 = nI 99 by decide)) ?_
  refine Eq.trans (if_neg (show ¬ nI 119 = nI 100 by decide)) ?_
  refine Eq.trans (if_neg (show ¬ nI 119 = nI 113 by decide)) ?_
  refine Eq.trans (if_pos (show nI 119 = nI 119 from rfl)) ?_
  exact congrArg (fun z => F_X3_readsStatement_110 N (ys g m was z ma nu to se)) (nI_add p 1)
theorem st_121 (N : Nat) {g : GS} (hg : GI g) (m was : TA) (ma : Int32) (nu to : FA) (se : Int32) {p : Nat} (hp : p < 800) (h : sG g p = nI 121) : F_X3_readsStatement N (ys g m was (nI p) ma nu to se) = (F_X3_readsNumber N (ys g m was (nI (p + 1)) ma nu to se) (nI 0) (nI 2)).bind fun r184 => F_X3_readsStatement_203 N r184.2 r184.1 := by
  have e0 := y_here N hg m was (i := p) (by omega) ma nu to se
  rw [h] at e0
  unfold F_X3_readsStatement
  refine Eq.trans (q_bs0 _ _ _ e0) ?_
  refine Eq.trans (if_neg (show ¬ nI 121 = nI 97 by decide)) ?_
  refine Eq.trans (if_neg (show ¬ nI 121 = nI 99 by decide)) ?_
  refine Eq.trans (if_neg (show ¬ nI 121 = nI 100 by decide)) ?_
  refine Eq.trans (if_neg (show ¬ nI 121 = nI 113 by decide)) ?_
  refine Eq.trans (if_neg (show ¬ nI 121 = nI 119 by decide)) ?_
  refine Eq.trans (if_pos (show nI 121 = nI 121 from rfl)) ?_
  exact congrArg (fun z => (F_X3_readsNumber N (ys g m was z ma nu to se) (nI 0) (nI 2)).bind fun r184 => F_X3_readsStatement_203 N r184.2 r184.1) (nI_add p 1)
theorem st_no (N : Nat) {g : GS} (hg : GI g) (m was : TA) (ma : Int32) (nu to : FA) (se : Int32) {p : Nat} (hp : p < 800) (h1 : ¬ sG g p = nI 97) (h2 : ¬ sG g p = nI 99) (h3 : ¬ sG g p = nI 100) (h4 : ¬ sG g p = nI 113) (h5 : ¬ sG g p = nI 119) (h6 : ¬ sG g p = nI 121) : F_X3_readsStatement N (ys g m was (nI p) ma nu to se) = some (nI 0, ys g m was (nI p) ma nu to se) := by
  have e0 := y_here N hg m was (i := p) (by omega) ma nu to se
  unfold F_X3_readsStatement
  refine Eq.trans (q_bs0 _ _ _ e0) ?_
  refine Eq.trans (if_neg h1) ?_
  refine Eq.trans (if_neg h2) ?_
  refine Eq.trans (if_neg h3) ?_
  refine Eq.trans (if_neg h4) ?_
  refine Eq.trans (if_neg h5) ?_
  refine Eq.trans (if_neg h6) ?_
  have e : nI p + nI 1 - nI 1 = nI p := by
    rw [(nI_add p 1), (q_sub (Nat.le_add_left 1 p))]
    exact congrArg nI (by omega)
  exact congrArg (fun z => some (nI 0, ys g m was z ma nu to se)) e
theorem rd_d {N : Nat} (hN : 2000 ≤ N) {g : GS} (hg : GI g) (m was : TA) (ma : Int32) (nu to : FA) (se : Int32) {p : Nat} (hp : p < 800) (h : sG g p = nI 100) : Rd N g m was p ma nu to se := by
  unfold Rd
  rw [stm_100 h, st_100 N hg m was ma nu to se hp h]
  cases d1 : isD (sG g (p + 1))
  · rw [dgs_lt (runD_f (k := 0) d1) (by decide)]
    obtain ⟨nu1, e1⟩ := y_readF hN hg m was ma nu to se (k := 0) (c := 1) (p := p + 1) (r := 0) (by decide) (by decide) (by omega) (runD_f d1) (by decide)
    refine ⟨ma, nu1, to, ?_, fun e => absurd e Bool.false_ne_true⟩
    refine Eq.trans (q_bs0 _ _ _ e1) ?_
    exact y_203f N _
  · have e1 := y_readT1 hN hg m was ma nu to se (k := 0) (p := p + 1) (by decide) (by omega) d1
    have hr : runD (sG g) 1 (p + 1) = 1 := runD_t (k := 0) d1
    rw [dgs_ge hr (by decide)]
    refine ⟨ma, upd nu 0 (nI (dg (sG g (p + 1)))), to, ?_, fun _ => dat_d h (upd_s nu 0 (nI (dg (sG g (p + 1)))))⟩
    refine Eq.trans (q_bs0 _ _ _ e1) ?_
    exact y_203t N hg m was (e := p + 1 + 1) (by omega) ma _ to se
theorem rd_y {N : Nat} (hN : 2000 ≤ N) {g : GS} (hg : GI g) (m was : TA) (ma : Int32) (nu to : FA) (se : Int32) {p : Nat} (hp : p < 800) (h : sG g p = nI 121) : Rd N g m was p ma nu to se := by
  unfold Rd
  rw [stm_121 h, st_121 N hg m was ma nu to se hp h]
  cases d1 : isD (sG g (p + 1))
  · rw [dgs_lt (run2_0 d1) (by decide)]
    obtain ⟨nu1, e1⟩ := y_readF hN hg m was ma nu to se (k := 0) (c := 2) (p := p + 1) (r := 0) (by decide) (by decide) (by omega) (run2_0 d1) (by decide)
    refine ⟨ma, nu1, to, ?_, fun e => absurd e Bool.false_ne_true⟩
    refine Eq.trans (q_bs0 _ _ _ e1) ?_
    exact y_203f N _
  · cases d2 : isD (sG g (p + 2))
    · rw [dgs_lt (run2_1 d1 d2) (by decide)]
      obtain ⟨nu1, e1⟩ := y_readF hN hg m was ma nu to se (k := 0) (c := 2) (p := p + 1) (r := 1) (by decide) (by decide) (by omega) (run2_1 d1 d2) (by decide)
      refine ⟨ma, nu1, to, ?_, fun e => absurd e Bool.false_ne_true⟩
      refine Eq.trans (q_bs0 _ _ _ e1) ?_
      exact y_203f N _
    · have e1 := y_readT2 hN hg m was ma nu to se (k := 0) (p := p + 1) (by decide) (by omega) d1 d2
      rw [dgs_ge (run2 d1 d2) (by decide)]
      refine ⟨ma, upd nu 0 (nI (10 * dg (sG g (p + 1)) + dg (sG g (p + 2)))), to, ?_, fun _ => dat_y h (upd_s nu 0 _)⟩
      refine Eq.trans (q_bs0 _ _ _ e1) ?_
      exact y_203t N hg m was (e := p + 1 + 2) (by omega) ma _ to se
theorem rd_q {N : Nat} (hN : 2000 ≤ N) {g : GS} (hg : GI g) (m was : TA) (ma : Int32) (nu to : FA) (se : Int32) {p : Nat} (hp : p < 800) (h : sG g p = nI 113) : Rd N g m was p ma nu to se := by
  unfold Rd
  rw [stm_113 h, st_113 N hg m was ma nu to se hp h]
  obtain ⟨nu1, e1, e2⟩ := rd_110 hN hg m was ma nu to se (q := p + 1) (by omega)
  exact ⟨ma, nu1, to, e1, fun z => dat_q h (e2 z)⟩
theorem rd_w {N : Nat} (hN : 2000 ≤ N) {g : GS} (hg : GI g) (m was : TA) (ma : Int32) (nu to : FA) (se : Int32) {p : Nat} (hp : p < 800) (h : sG g p = nI 119) : Rd N g m was p ma nu to se := by
  unfold Rd
  rw [stm_119 h, st_119 N hg m was ma nu to se hp h]
  obtain ⟨nu1, e1, e2⟩ := rd_110 hN hg m was ma nu to se (q := p + 1) (by omega)
  exact ⟨ma, nu1, to, e1, fun z => dat_w h (e2 z)⟩
theorem rd_c {N : Nat} (hN : 2000 ≤ N) {g : GS} (hg : GI g) (m was : TA) (ma : Int32) (nu to : FA) (se : Int32) {p : Nat} (hp : p < 800) (h : sG g p = nI 99) : Rd N g m was p ma nu to se := by
  unfold Rd
  rw [stm_99 h, st_99 N hg m was ma nu to se hp h]
  rcases kdI_cases (sG g (p + 1)) with ⟨k, hk5, hk⟩ | hk
  · have h0 : 0 ≤ kdI (sG g (p + 1)) := by
      rw [hk]
      exact nI_pos' (by omega)
    rw [if_pos h0]
    have e0 := y_kindT N hg m was ma nu to se (q := p + 1) (by omega) hk5 hk
    generalize hn0 : upd nu 0 (nI k) = nu0 at e0
    have h00 : nu0 0 = nI k := by
      rw [← hn0]
      exact upd_s nu 0 (nI k)
    cases d1 : isD (sG g (p + 2))
    · rw [dgs_lt (run3_0 d1) (by decide)]
      obtain ⟨nu1, e1⟩ := y_readF hN hg m was ma nu0 to se (k := 1) (c := 1) (p := p + 2) (r := 0) (by decide) (by decide) (by omega) (runD_f d1) (by decide)
      refine ⟨ma, nu1, to, ?_, fun e => absurd e Bool.false_ne_true⟩
      refine Eq.trans (q_bs0 _ _ _ e0) ?_
      refine Eq.trans (if_neg (show ¬ nI 1 = 0 by decide)) ?_
      refine Eq.trans (q_bs0 _ _ _ e1) ?_
      refine Eq.trans (if_pos (show nI 0 = 0 by decide)) ?_
      exact y_203f N _
    · have e1 := y_readT1 hN hg m was ma nu0 to se (k := 1) (p := p + 2) (by decide) (by omega) d1
      generalize hn1 : upd nu0 1 (nI (dg (sG g (p + 2)))) = nu1 at e1
      have h10 : nu1 0 = nI k := by
        rw [← hn1]
        exact h00
      have h11 : nu1 1 = nI (dg (sG g (p + 2))) := by
        rw [← hn1]
        exact upd_s nu0 1 _
      have go : ∀ r, runD (sG g) 2 (p + 3) = r → r < 2 → runD (sG g) 3 (p + 2) = r + 1 → ∃ ma' nu' to', ((F_X3_readsKind N (ys g m was (nI (p + 1)) ma nu to se)).bind fun r77 => if r77.1 = 0 then (F_X3_readsStatement_106 N r77.2 (nI 0)) else ((F_X3_readsNumber N r77.2 (nI 1) (nI 1)).bind fun r86 => if r86.1 = 0 then (F_X3_readsStatement_106 N r86.2 (nI 0)) else ((F_X3_readsNumber N r86.2 (nI 2) (nI 2)).bind fun r95 => if r95.1 = 0 then (F_X3_readsStatement_106 N r95.2 (nI 0)) else (F_X3_readsStatement_106 N r95.2 (nI 1))))) = some (bI (dgs (sG g) (p + 2) 3 3).1, ys g m was (nI (dgs (sG g) (p + 2) 3 3).2) ma' nu' to' se) ∧ ((dgs (sG g) (p + 2) 3 3).1 = true → Dat (sG g) p ma' nu' to') := by
        intro r hr hl hr3
        rw [dgs_lt hr3 (by omega)]
        obtain ⟨nu2, e2⟩ := y_readF hN hg m was ma nu1 to se (k := 2) (c := 2) (p := p + 3) (r := r) (by decide) (by decide) (by omega) hr hl
        refine ⟨ma, nu2, to, ?_, fun e => absurd e Bool.false_ne_true⟩
        refine Eq.trans (q_bs0 _ _ _ e0) ?_
        refine Eq.trans (if_neg (show ¬ nI 1 = 0 by decide)) ?_
        refine Eq.trans (q_bs0 _ _ _ e1) ?_
        refine Eq.trans (if_neg (show ¬ nI 1 = 0 by decide)) ?_
        refine Eq.trans (q_bs0 _ _ _ e2) ?_
        refine Eq.trans (if_pos (show nI 0 = 0 by decide)) ?_
        rw [show p + 2 + (r + 1) = p + 3 + r by omega]
        exact y_203f N _
      cases d2 : isD (sG g (p + 3))
      · exact go 0 (run2_0 d2) (by decide) (run3_1 d1 d2)
      · cases d3 : isD (sG g (p + 4))
        · exact go 1 (run2_1 d2 d3) (by decide) (run3_2 d1 d2 d3)
        · have e2 := y_readT2 hN hg m was ma nu1 to se (k := 2) (p := p + 3) (by decide) (by omega) d2 d3
          rw [dgs_ge (run3 d1 d2 d3) (by decide)]
          refine ⟨ma, upd nu1 2 (nI (10 * dg (sG g (p + 3)) + dg (sG g (p + 4)))), to, ?_, fun _ => dat_c h ?_ ?_ (upd_s nu1 2 _)⟩
          · refine Eq.trans (q_bs0 _ _ _ e0) ?_
            refine Eq.trans (if_neg (show ¬ nI 1 = 0 by decide)) ?_
            refine Eq.trans (q_bs0 _ _ _ e1) ?_
            refine Eq.trans (if_neg (show ¬ nI 1 = 0 by decide)) ?_
            refine Eq.trans (q_bs0 _ _ _ e2) ?_
            refine Eq.trans (if_neg (show ¬ nI 1 = 0 by decide)) ?_
            exact y_203t N hg m was (e := p + 2 + 3) (by omega) ma _ to se
          · rw [hk]
            exact h10
          · exact h11
  · rw [hk, if_neg (by decide)]
    have e0 := y_kindF N hg m was ma nu to se (q := p + 1) (by omega) hk
    refine ⟨ma, upd nu 0 (-9), to, ?_, fun e => absurd e Bool.false_ne_true⟩
    refine Eq.trans (q_bs0 _ _ _ e0) ?_
    refine Eq.trans (if_pos (show nI 0 = 0 by decide)) ?_
    exact y_203f N _
theorem rd_a {N : Nat} (hN : 2000 ≤ N) {g : GS} (hg : GI g) (m was : TA) (ma : Int32) (nu to : FA) (se : Int32) {p : Nat} (hp : p < 800) (h : sG g p = nI 97) : Rd N g m was p ma nu to se := by
  unfold Rd
  rw [stm_97 h, st_97 N hg m was ma nu to se hp h]
  cases d1 : isD (sG g (p + 1))
  · rw [dgs_lt (runD_f (k := 8) d1) (by decide)]
    obtain ⟨nu1, e1⟩ := y_readF hN hg m was ma nu to se (k := 0) (c := 1) (p := p + 1) (r := 0) (by decide) (by decide) (by omega) (runD_f d1) (by decide)
    refine ⟨ma, nu1, to, ?_, fun e => absurd e Bool.false_ne_true⟩
    refine Eq.trans (q_bs0 _ _ _ e1) ?_
    refine Eq.trans (if_pos (show nI 0 = 0 by decide)) ?_
    exact y_203f N _
  · have e1 := y_readT1 hN hg m was ma nu to se (k := 0) (p := p + 1) (by decide) (by omega) d1
    obtain ⟨to', e2, e3⟩ := y_words hN hg m was ma (upd nu 0 (nI (dg (sG g (p + 1))))) to se (q := p + 2) (by omega)
    have hr : runD (sG g) 9 (p + 1) = runD (sG g) 8 (p + 2) + 1 := runD_t (k := 8) d1
    have hl := runD_le (sG g) 8 (p + 2)
    have hD : Dat (sG g) p (nI (runD (sG g) 8 (p + 2))) (upd nu 0 (nI (dg (sG g (p + 1))))) to' := dat_a h (upd_s nu 0 _) rfl e3
    generalize upd nu 0 (nI (dg (sG g (p + 1)))) = nu1 at e1 e2 hD
    by_cases h0 : 0 < runD (sG g) 8 (p + 2)
    · rw [decide_eq_true h0] at e2
      rw [dgs_ge hr (by omega)]
      refine ⟨_, nu1, to', ?_, fun _ => hD⟩
      refine Eq.trans (q_bs0 _ _ _ e1) ?_
      refine Eq.trans (if_neg (show ¬ nI 1 = 0 by decide)) ?_
      refine Eq.trans (q_bs0 _ _ _ e2) ?_
      refine Eq.trans (if_neg (show ¬ nI 1 = 0 by decide)) ?_
      rw [show p + 1 + (runD (sG g) 8 (p + 2) + 1) = p + 2 + runD (sG g) 8 (p + 2) by omega]
      exact y_203t N hg m was (e := p + 2 + runD (sG g) 8 (p + 2)) (by omega) _ nu1 to' se
    · rw [decide_eq_false h0] at e2
      rw [dgs_lt hr (by omega)]
      refine ⟨nI (runD (sG g) 8 (p + 2)), nu1, to', ?_, fun e => absurd e Bool.false_ne_true⟩
      refine Eq.trans (q_bs0 _ _ _ e1) ?_
      refine Eq.trans (if_neg (show ¬ nI 1 = 0 by decide)) ?_
      refine Eq.trans (q_bs0 _ _ _ e2) ?_
      refine Eq.trans (if_pos (show nI 0 = 0 by decide)) ?_
      rw [show p + 1 + (runD (sG g) 8 (p + 2) + 1) = p + 2 + runD (sG g) 8 (p + 2) by omega]
      exact y_203f N _
theorem rd_all {N : Nat} (hN : 2000 ≤ N) {g : GS} (hg : GI g) (m was : TA) (ma : Int32) (nu to : FA) (se : Int32) {p : Nat} (hp : p < 800) : Rd N g m was p ma nu to se := by
  by_cases h1 : sG g p = nI 97
  · exact rd_a hN hg m was ma nu to se hp h1
  by_cases h2 : sG g p = nI 99
  · exact rd_c hN hg m was ma nu to se hp h2
  by_cases h3 : sG g p = nI 100
  · exact rd_d hN hg m was ma nu to se hp h3
  by_cases h4 : sG g p = nI 113
  · exact rd_q hN hg m was ma nu to se hp h4
  by_cases h5 : sG g p = nI 119
  · exact rd_w hN hg m was ma nu to se hp h5
  by_cases h6 : sG g p = nI 121
  · exact rd_y hN hg m was ma nu to se hp h6
  unfold Rd
  rw [stm_no h1 h2 h3 h4 h5 h6]
  exact ⟨ma, nu, to, st_no N hg m was ma nu to se hp h1 h2 h3 h4 h5 h6, fun e => absurd e Bool.false_ne_true⟩
