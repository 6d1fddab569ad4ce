/-! both sides, the most twos who differ -/
def low6 (s : Nat) : Nat := if s.testBit 0 then 0 else if s.testBit 1 then 1 else if s.testBit 2 then 2 else if s.testBit 3 then 3 else if s.testBit 4 then 4 else 5
theorem low_all : ∀ s : Fin 64, s.val ≠ 0 → s.val.testBit (low6 s.val) = true ∧ low6 s.val < 6 ∧ (∀ u : Fin 6, u.val < low6 s.val → s.val.testBit u.val = false) := by decide +kernel
theorem low_at {s : Nat} (hs : s < 64) (h0 : s ≠ 0) : s.testBit (low6 s) = true ∧ low6 s < 6 ∧ ∀ u, u < low6 s → s.testBit u = false := by
  obtain ⟨h1, h2, h3⟩ := low_all ⟨s, hs⟩ h0
  have h2 : low6 s < 6 := h2
  exact ⟨h1, h2, fun u hu => h3 ⟨u, by omega⟩ hu⟩
theorem rest_all : ∀ s : Fin 64, s.val ≠ 0 → nI s.val &&& (nI s.val - nI 1) = nI (s.val - 2 ^ low6 s.val) := by decide +kernel
theorem rest_at {s : Nat} (hs : s < 64) (h0 : s ≠ 0) : nI s &&& (nI s - nI 1) = nI (s - 2 ^ low6 s) := rest_all ⟨s, hs⟩ h0
theorem out_all : ∀ s : Fin 64, ∀ b : Fin 6, s.val.testBit b.val = true → nI s.val &&& ((nI 1 <<< (nI b.val &&& 31)) ^^^ (-1)) = nI (s.val - 2 ^ b.val) ∧ pop8 (s.val - 2 ^ b.val) + 1 = pop8 s.val ∧ 2 ^ b.val ≤ s.val ∧ (∀ c : Fin 6, s.val.testBit c.val = false → (s.val - 2 ^ b.val).testBit c.val = false) := by decide +kernel
theorem out_at {s b : Nat} (hs : s < 64) (hb : b < 6) (h : s.testBit b = true) : nI s &&& ((nI 1 <<< (nI b &&& 31)) ^^^ (-1)) = nI (s - 2 ^ b) ∧ pop8 (s - 2 ^ b) + 1 = pop8 s ∧ s - 2 ^ b < s ∧ ∀ c, c < 6 → s.testBit c = false → (s - 2 ^ b).testBit c = false := by
  obtain ⟨h1, h2, h3, h4⟩ := out_all ⟨s, hs⟩ ⟨b, hb⟩ h
  have h3 : 2 ^ b ≤ s := h3
  have : 0 < 2 ^ b := Nat.two_pow_pos b
  exact ⟨h1, h2, by omega, fun c hc hc2 => h4 ⟨c, hc⟩ hc2⟩
def prI (f : Nat → Nat) (a : TA) (lo r best : Nat) : Nat → Nat
  | 0 => best
  | b + 1 => if lo < b ∧ r.testBit b = true ∧ den a lo b ≠ 0 then max (prI f a lo r best b) (1 + f (r - 2 ^ b)) else prI f a lo r best b
theorem prI_0 (f : Nat → Nat) (a : TA) (lo r best : Nat) : ∀ b, b ≤ lo + 1 → prI f a lo r best b = best := by
  intro b
  induction b with
  | zero => intro _; rfl
  | succ b ih =>
    intro h
    show (if _ then _ else _) = _
    rw [if_neg (by omega)]
    exact ih (by omega)
theorem prI_congr {f f' : Nat → Nat} {a : TA} {lo r best : Nat} (hr : r < 64) (h : ∀ s, s < r → f s = f' s) : ∀ b, b ≤ 6 → prI f a lo r best b = prI f' a lo r best b := by
  intro b
  induction b with
  | zero => intro _; rfl
  | succ b ih =>
    intro hb
    show (if _ then _ else _) = (if _ then _ else _)
    rw [ih (by omega)]
    by_cases hc : lo < b ∧ r.testBit b = true ∧ den a lo b ≠ 0
    · rw [if_pos hc, if_pos hc, h _ (out_at hr (by omega) hc.2.1).2.2.1]
    · rw [if_neg hc, if_neg hc]
theorem prI_ge (f : Nat → Nat) (a : TA) (lo r best n : Nat) (h : ∀ b, n ≤ b → b < 6 → r.testBit b = false) : ∀ b, n ≤ b → b ≤ 6 → prI f a lo r best b = prI f a lo r best n := by
  intro b
  induction b with
  | zero => intro h1 _; have : n = 0 := by omega
            subst this; rfl
  | succ b ih =>
    intro h1 h2
    rcases Nat.lt_or_ge b n with h3 | h3
    · have : n = b + 1 := by omega
      subst this; rfl
    · show (if _ then _ else _) = _
      rw [if_neg (fun e => by have := e.2.1; rw [h b h3 (by omega)] at this; cases this)]
      exact ih h3 (by omega)
theorem prI_le {f : Nat → Nat} {a : TA} {lo r best m : Nat} (hr : r < 64) (hb : best ≤ m) (h : ∀ s, s < r → f s + 1 ≤ m) : ∀ b, b ≤ 6 → prI f a lo r best b ≤ m := by
  intro b
  induction b with
  | zero => intro _; exact hb
  | succ b ih =>
    intro h2
    show (if _ then _ else _) ≤ m
    split
    · next hc =>
      have h3 := h _ (out_at hr (by omega) hc.2.1).2.2.1
      have h4 := ih (by omega)
      exact Nat.max_le.mpr ⟨h4, by omega⟩
    · exact ih (by omega)
def prD (a : TA) : Nat → Nat → Nat
  | 0, _ => 0
  | d + 1, s => if s = 0 then 0 else prI (prD a d) a (low6 s) (s - 2 ^ low6 s) (prD a d (s - 2 ^ low6 s)) 6
theorem prD_fuel (a : TA) : ∀ d d' s, s < d → s < d' → s < 64 → prD a d s = prD a d' s := by
  intro d
  induction d with
  | zero => intro d' s h; omega
  | succ d ih =>
    intro d' s h h' hs
    obtain ⟨e, rfl⟩ : ∃ e, d' = e + 1 := ⟨d' - 1, by omega⟩
    show (if s = 0 then 0 else prI (prD a d) a (low6 s) (s - 2 ^ low6 s) (prD a d (s - 2 ^ low6 s)) 6) = (if s = 0 then 0 else prI (prD a e) a (low6 s) (s - 2 ^ low6 s) (prD a e (s - 2 ^ low6 s)) 6)
    by_cases h0 : s = 0
    · rw [if_pos h0, if_pos h0]
    · rw [if_neg h0, if_neg h0]
      have ho := (out_at hs (low_at hs h0).2.1 (low_at hs h0).1).2.2.1
      rw [ih e _ (show s - 2 ^ low6 s < d by omega) (by omega) (by omega)]
      exact prI_congr (by omega) (fun u hu => ih e u (by omega) (by omega) (by omega)) 6 (Nat.le_refl 6)
theorem prD_le (a : TA) : ∀ d s, s < 64 → prD a d s ≤ s := by
  intro d
  induction d with
  | zero => intro s _; exact Nat.zero_le _
  | succ d ih =>
    intro s hs
    show (if s = 0 then 0 else prI (prD a d) a (low6 s) (s - 2 ^ low6 s) (prD a d (s - 2 ^ low6 s)) 6) ≤ s
    by_cases h0 : s = 0
    · rw [if_pos h0]; exact Nat.zero_le _
    · rw [if_neg h0]
      have ho := (out_at hs (low_at hs h0).2.1 (low_at hs h0).1).2.2.1
      refine prI_le (by omega) ?_ (fun u hu => ?_) 6 (Nat.le_refl 6)
      · have := ih (s - 2 ^ low6 s) (by omega)
        omega
      · have := ih u (by omega)
        omega
def prP (a : TA) (s : Nat) : Nat := prD a 64 s
theorem prP_0 (a : TA) : prP a 0 = 0 := rfl
theorem prP_s (a : TA) {s : Nat} (hs : s < 64) (h0 : s ≠ 0) : prP a s = prI (prP a) a (low6 s) (s - 2 ^ low6 s) (prP a (s - 2 ^ low6 s)) 6 := by
  have ho := (out_at hs (low_at hs h0).2.1 (low_at hs h0).1).2.2.1
  have e1 : prP a s = prI (prD a 63) a (low6 s) (s - 2 ^ low6 s) (prD a 63 (s - 2 ^ low6 s)) 6 := if_neg h0
  rw [e1, prD_fuel a 63 64 _ (show s - 2 ^ low6 s < 63 by omega) (by omega) (by omega)]
  exact prI_congr (by omega) (fun u hu => prD_fuel a 63 64 u (by omega) (by omega) (by omega)) 6 (Nat.le_refl 6)
theorem prP_le (a : TA) {s : Nat} (hs : s < 64) : prP a s ≤ 63 := by
  have := prD_le a 64 s hs
  unfold prP
  omega
theorem q_max {x y : Nat} (hx : x < 2147483648) (hy : y < 2147483648) : (if nI x < nI y then nI y else nI x) = nI (max x y) := by
  rw [i_lt hx hy]
  by_cases h : x < y
  · rw [if_pos h, Nat.max_eq_right (by omega)]
  · rw [if_neg h, Nat.max_eq_left (by omega)]
theorem x_prI {N : Nat} (hN : 2000 ≤ N) {g : GS} (hg : GI g) (mind : TA) (pr : FA) {s lo r best : Nat} (hs : s < 64) (hr : r < s) (hlo : lo < 6) (hb : best ≤ 63) (ht : ∀ u, u < s → pr u = nI (prP g.1 u)) (k9 : XS → Int32 → Option (Int32 × XS)) : F_X2_mostPairs_42 N k9 N (xs g mind pr) (nI s) (nI lo) (nI r) (nI best) (nI (lo + 1)) = k9 (xs g mind (upd pr s (nI (prI (prP g.1) g.1 lo r best 6)))) (nI (s + 1)) := by
  have hle : ∀ b, b ≤ 6 → prI (prP g.1) g.1 lo r best b ≤ 64 := prI_le (by omega) (by omega) (fun u hu => by have := prP_le g.1 (show u < 64 by omega); omega)
  have main := loop_up (fun n (z : Int32 × Int32) => F_X2_mostPairs_42 N k9 n (xs g mind pr) (nI s) (nI lo) (nI r) z.1 z.2) (fun i => (nI (prI (prP g.1) g.1 lo r best (lo + 1 + i)), nI (lo + 1 + i))) (6 - (lo + 1)) (k9 (xs g mind (upd pr s (nI (prI (prP g.1) g.1 lo r best 6)))) (nI (s + 1))) ?_ ?_
  · have := main N 0 (by omega) (by omega)
    rw [Nat.add_zero, prI_0 _ _ _ _ _ _ (Nat.le_refl _)] at this
    exact this
  · intro n i hi
    obtain ⟨b, hb'⟩ : ∃ b, lo + 1 + i = b := ⟨_, rfl⟩
    show F_X2_mostPairs_42 N k9 (n + 1) (xs g mind pr) (nI s) (nI lo) (nI r) (nI (prI (prP g.1) g.1 lo r best (lo + 1 + i))) (nI (lo + 1 + i)) = F_X2_mostPairs_42 N k9 n (xs g mind pr) (nI s) (nI lo) (nI r) (nI (prI (prP g.1) g.1 lo r best (lo + 1 + i + 1))) (nI (lo + 1 + i + 1))
    rw [hb']
    show _ = F_X2_mostPairs_42 N k9 n (xs g mind pr) (nI s) (nI lo) (nI r) (nI (if lo < b ∧ r.testBit b = true ∧ den g.1 lo b ≠ 0 then max (prI (prP g.1) g.1 lo r best b) (1 + prP g.1 (r - 2 ^ b)) else prI (prP g.1) g.1 lo r best b)) (nI (b + 1))
    have hbl := hle b (by omega)
    have hd := den_le g.1 lo b
    rw [F_X2_mostPairs_42, if_neg (by rw [q_le (by decide) (by omega)]; omega), q_bit (by omega) (by omega)]
    unfold F_X2_mostPairs_96
    cases hbit : r.testBit b
    · rw [if_pos (show bI false = 0 from rfl), if_neg (fun e => by cases e.2.1)]
      try rw [nI_add]
    · obtain ⟨o1, o2, o3, o4⟩ := out_at (show r < 64 by omega) (show b < 6 by omega) hbit
      have hp := prP_le g.1 (show r - 2 ^ b < 64 by omega)
      rw [if_neg (show ¬ bI true = 0 by decide), o1]
      show ((F_X1_denials N (TW g.1) (nI lo) (nI b)).bind fun r65 => if ¬ r65 = 0 then ckI (nI (r - 2 ^ b)) 64 (F_X2_mostPairs_42 N k9 n (xs g mind pr) (nI s) (nI lo) (nI r) (if nI (prI (prP g.1) g.1 lo r best b) < nI 1 + pr (nI (r - 2 ^ b)).toNatClampNeg then nI 1 + pr (nI (r - 2 ^ b)).toNatClampNeg else nI (prI (prP g.1) g.1 lo r best b)) (nI b + nI 1)) else _) = _
      rw [g_den hN hg.1 hlo (show b < 6 by omega)]
      try simp only [q_bs]
      repeat rw [q_ck (show r - 2 ^ b < 64 by omega) (by decide)]
      rw [nI_clamp (show r - 2 ^ b < 2 ^ 31 by omega), ht _ (show r - 2 ^ b < s by omega)]
      try rw [nI_add 1]
      rw [q_max (by omega) (by omega)]
      try rw [nI_add]
      rw [i_ne0 (by omega)]
      by_cases h0 : den g.1 lo b = 0
      · rw [if_neg (fun e => e h0), if_neg (fun e => e.2.2 h0)]
      · rw [if_pos h0, if_pos (show lo < b ∧ True ∧ den g.1 lo b ≠ 0 from ⟨by omega, trivial, h0⟩)]
  · intro n
    have hB : lo + 1 + (6 - (lo + 1)) = 6 := by omega
    show F_X2_mostPairs_42 N k9 (n + 1) (xs g mind pr) (nI s) (nI lo) (nI r) (nI (prI (prP g.1) g.1 lo r best (lo + 1 + (6 - (lo + 1))))) (nI (lo + 1 + (6 - (lo + 1)))) = _
    rw [hB, F_X2_mostPairs_42, if_pos (by decide)]
    unfold F_X2_mostPairs_102
    repeat rw [q_ck hs (by decide)]
    rw [nI_clamp (show s < 2 ^ 31 by omega)]
    try rw [nI_add]
theorem x_pairs {N : Nat} (hN : 2000 ≤ N) {g : GS} (hg : GI g) (mind : TA) (pr : FA) : ∃ pr2, F_X2_mostPairs N (xs g mind pr) = some (nI (prP g.1 (liv g.1)), xs g mind pr2) := by
  have hl : liv g.1 < 64 := msk6_lt _
  unfold F_X2_mostPairs
  refine loop_ex (fun n (z : XS × Int32) => F_X2_mostPairs_9 N n z.1 z.2) (fun i z => ∃ pr2 : FA, z = (xs g mind pr2, nI (i + 1)) ∧ ∀ u, u < i + 1 → pr2 u = nI (prP g.1 u)) (fun r => ∃ pr2, r = some (nI (prP g.1 (liv g.1)), xs g mind pr2)) 63 ?_ ?_ N 0 (xs g mind (upd pr 0 (nI 0)), nI 1) (Nat.zero_le _) (by omega) ⟨upd pr 0 (nI 0), rfl, fun u hu => by
    have : u = 0 := by omega
    subst this; rfl⟩
  · rintro n i z hi ⟨pr2, rfl, hI⟩
    obtain ⟨s, hs⟩ : ∃ s, i + 1 = s := ⟨_, rfl⟩
    have hs64 : s < 64 := by omega
    have hs0 : s ≠ 0 := by omega
    obtain ⟨l1, l2, l3⟩ := low_at hs64 hs0
    obtain ⟨o1, o2, o3, o4⟩ := out_at hs64 l2 l1
    have hp := prP_le g.1 (show s - 2 ^ low6 s < 64 by omega)
    refine Or.inl ⟨(xs g mind (upd pr2 s (nI (prP g.1 s))), nI (s + 1)), ⟨upd pr2 s (nI (prP g.1 s)), by rw [hs], fun u hu => ?_⟩, ?_⟩
    · show (if u = s then nI (prP g.1 s) else pr2 u) = nI (prP g.1 u)
      by_cases h : u = s
      · rw [if_pos h, h]
      · rw [if_neg h]; exact hI u (by omega)
    · show F_X2_mostPairs_9 N (n + 1) (xs g mind pr2) (nI (i + 1)) = F_X2_mostPairs_9 N n (xs g mind (upd pr2 s (nI (prP g.1 s)))) (nI (s + 1))
      rw [hs, F_X2_mostPairs_9, if_neg (by rw [q_le (by decide) (by omega)]; omega), f_ntz N (by omega) (by omega) l1 l3]
      try simp only [q_bs]
      rw [rest_at hs64 hs0]
      repeat rw [q_ck (show s - 2 ^ low6 s < 64 by omega) (by decide)]
      rw [nI_clamp (show s - 2 ^ low6 s < 2 ^ 31 by omega)]
      try rw [nI_add]
      show F_X2_mostPairs_42 N (fun ctW cx1 => F_X2_mostPairs_9 N n ctW cx1) N (xs g mind pr2) (nI s) (nI (low6 s)) (nI (s - 2 ^ low6 s)) (pr2 (s - 2 ^ low6 s)) (nI (low6 s + 1)) = _
      rw [hI (s - 2 ^ low6 s) (by omega), x_prI hN hg mind pr2 hs64 o3 l2 (by omega) (fun u hu => hI u (by omega)) (fun ctW cx1 => F_X2_mostPairs_9 N n ctW cx1), prP_s g.1 hs64 hs0]
  · rintro n z ⟨pr2, rfl, hI⟩
    refine ⟨pr2, ?_⟩
    show F_X2_mostPairs_9 N (n + 1) (xs g mind pr2) (nI 64) = _
    rw [F_X2_mostPairs_9, if_pos (by decide)]
    unfold F_X2_mostPairs_116
    show ckI (nI (liv g.1)) 64 (some (pr2 (nI (liv g.1)).toNatClampNeg, xs g mind pr2)) = _
    repeat rw [q_ck hl (by decide)]
    rw [nI_clamp (show liv g.1 < 2 ^ 31 by omega), hI _ (by omega)]
theorem y_prI {N : Nat} (hN : 2000 ≤ N) {g : GS} (hg : GI g) (m was : TA) (pl ma : Int32) (nu to : FA) (se : Int32) {lo r best : Nat} (hr : r < 64) (hlo : lo < aN g.1) (hb : best ≤ 63) (hz : ∀ b, aN g.1 ≤ b → b < 6 → r.testBit b = false) (kR : MS → Int32 → Option Int32) (hk : ∀ b, b < 6 → r.testBit b = true → kR (ys g m was pl ma nu to se) (nI (r - 2 ^ b)) = some (nI (prP g.1 (r - 2 ^ b)))) : F_X3_pairsOf_42 N (ys g m was pl ma nu to se) kR N (nI lo) (nI r) (nI best) (nI (lo + 1)) = some (nI (prI (prP g.1) g.1 lo r best 6)) := by
  have hn := hg.1.1
  have hle : ∀ b, b ≤ 6 → prI (prP g.1) g.1 lo r best b ≤ 64 := prI_le hr (by omega) (fun u hu => by have := prP_le g.1 (show u < 64 by omega); omega)
  rw [prI_ge (prP g.1) g.1 lo r best (aN g.1) hz 6 hn (Nat.le_refl 6)]
  have main := loop_up (fun n (z : Int32 × Int32) => F_X3_pairsOf_42 N (ys g m was pl ma nu to se) kR n (nI lo) (nI r) z.1 z.2) (fun i => (nI (prI (prP g.1) g.1 lo r best (lo + 1 + i)), nI (lo + 1 + i))) (aN g.1 - (lo + 1)) (some (nI (prI (prP g.1) g.1 lo r best (aN g.1)))) ?_ ?_
  · have := main N 0 (by omega) (by omega)
    rw [Nat.add_zero, prI_0 _ _ _ _ _ _ (Nat.le_refl _)] at this
    exact this
  · intro n i hi
    obtain ⟨b, hb'⟩ : ∃ b, lo + 1 + i = b := ⟨_, rfl⟩
    show F_X3_pairsOf_42 N (ys g m was pl ma nu to se) kR (n + 1) (nI lo) (nI r) (nI (prI (prP g.1) g.1 lo r best (lo + 1 + i))) (nI (lo + 1 + i)) = F_X3_pairsOf_42 N (ys g m was pl ma nu to se) kR n (nI lo) (nI r) (nI (prI (prP g.1) g.1 lo r best (lo + 1 + i + 1))) (nI (lo + 1 + i + 1))
    rw [hb']
    show _ = F_X3_pairsOf_42 N (ys g m was pl ma nu to se) kR n (nI lo) (nI r) (nI (if lo < b ∧ r.testBit b = true ∧ den g.1 lo b ≠ 0 then max (prI (prP g.1) g.1 lo r best b) (1 + prP g.1 (r - 2 ^ b)) else prI (prP g.1) g.1 lo r best b)) (nI (b + 1))
    have hbl := hle b (by omega)
    have hd := den_le g.1 lo b
    rw [F_X3_pairsOf_42]
    unfold F_X3_pairsOf_105 F_X3_pairsOf_107
    show (if em g.1 (nI 0).toNatClampNeg ≤ nI b then _ else (F_X3_has N (nI r) (nI b)).bind fun r56 => if r56 = 0 then _ else (F_X3_differing N (ys g m was pl ma nu to se) (nI lo) (nI b)).bind _) = _
    try rw [q_c0]
    try rw [em_0]
    rw [if_neg (by rw [q_le (by omega) (by omega)]; omega), f_has N (by omega) (by omega)]
    try simp only [q_bs]
    rw [f_den hN hg.1 rfl (show lo < 6 by omega) (show b < 6 by omega)]
    try simp only [q_bs]
    try rw [nI_add]
    cases hbit : r.testBit b
    · rw [if_pos (show bI false = 0 from rfl), if_neg (fun e => by cases e.2.1)]
    · obtain ⟨o1, o2, o3, o4⟩ := out_at hr (show b < 6 by omega) hbit
      have hp := prP_le g.1 (show r - 2 ^ b < 64 by omega)
      rw [if_neg (show ¬ bI true = 0 by decide), o1, hk b (by omega) hbit]
      try simp only [q_bs]
      try rw [nI_add 1]
      rw [i_ne0 (by omega), i_le (by omega) (by omega)]
      by_cases h0 : den g.1 lo b = 0
      · rw [if_neg (fun e => e h0), if_neg (fun e => e.2.2 h0)]
      · rw [if_pos h0, if_pos (show lo < b ∧ True ∧ den g.1 lo b ≠ 0 from ⟨by omega, trivial, h0⟩)]
        by_cases h4 : 1 + prP g.1 (r - 2 ^ b) ≤ prI (prP g.1) g.1 lo r best b
        · rw [if_pos h4, Nat.max_eq_left h4]
        · rw [if_neg h4, Nat.max_eq_right (by omega)]
  · intro n
    have hB : lo + 1 + (aN g.1 - (lo + 1)) = aN g.1 := by omega
    show F_X3_pairsOf_42 N (ys g m was pl ma nu to se) kR (n + 1) (nI lo) (nI r) (nI (prI (prP g.1) g.1 lo r best (lo + 1 + (aN g.1 - (lo + 1))))) (nI (lo + 1 + (aN g.1 - (lo + 1)))) = _
    rw [hB, F_X3_pairsOf_42]
    show (if em g.1 (nI 0).toNatClampNeg ≤ nI (aN g.1) then _ else _) = _
    try rw [q_c0]
    try rw [em_0]
    exact if_pos (nI_le (Nat.le_refl _) (by omega))
theorem y_pairs {N : Nat} (hN : 2000 ≤ N) {g : GS} (hg : GI g) (m was : TA) (pl ma : Int32) (nu to : FA) (se : Int32) : ∀ d s, s < 64 → pop8 s < d → (∀ b, aN g.1 ≤ b → b < 6 → s.testBit b = false) → F_X3_pairsOf N d (ys g m was pl ma nu to se) (nI s) = some (nI (prP g.1 s)) := by
  have hn := hg.1.1
  intro d
  induction d with
  | zero => intro s _ h; omega
  | succ d ih =>
    intro s hs hp hz
    rw [F_X3_pairsOf]
    rw [i_ne0 (by omega)]
    by_cases h0 : s = 0
    · rw [if_neg (fun e => e h0), h0]; rfl
    · rw [if_pos h0]
      obtain ⟨l1, l2, l3⟩ := low_at hs h0
      obtain ⟨o1, o2, o3, o4⟩ := out_at hs l2 l1
      have hln : low6 s < aN g.1 := by
        rcases Nat.lt_or_ge (low6 s) (aN g.1) with h | h
        · exact h
        · rw [hz _ h l2] at l1; cases l1
      have hz2 : ∀ b, aN g.1 ≤ b → b < 6 → (s - 2 ^ low6 s).testBit b = false := fun b h1 h2 => o4 b h2 (hz b h1 h2)
      have hpl := prP_le g.1 (show s - 2 ^ low6 s < 64 by omega)
      refine loop_up (fun n (z : Int32) => F_X3_pairsOf_8 N (ys g m was pl ma nu to se) (fun cy cp => F_X3_pairsOf N d cy cp) n (nI s) z) (fun i => nI i) (low6 s) _ ?_ ?_ N 0 (Nat.zero_le _) (by omega)
      · intro n i hi
        show F_X3_pairsOf_8 N (ys g m was pl ma nu to se) (fun cy cp => F_X3_pairsOf N d cy cp) (n + 1) (nI s) (nI i) = F_X3_pairsOf_8 N (ys g m was pl ma nu to se) (fun cy cp => F_X3_pairsOf N d cy cp) n (nI s) (nI (i + 1))
        rw [F_X3_pairsOf_8, f_has N (by omega) (by omega)]
        try simp only [q_bs]
        rw [l3 i hi, if_neg (fun e => e rfl)]
        try rw [nI_add]
      · intro n
        show F_X3_pairsOf_8 N (ys g m was pl ma nu to se) (fun cy cp => F_X3_pairsOf N d cy cp) (n + 1) (nI s) (nI (low6 s)) = _
        rw [F_X3_pairsOf_8, f_has N (by omega) (by omega)]
        try simp only [q_bs]
        rw [l1, if_pos (show ¬ bI true = 0 by decide)]
        unfold F_X3_pairsOf_22
        rw [o1]
        show ((F_X3_pairsOf N d (ys g m was pl ma nu to se) (nI (s - 2 ^ low6 s))).bind _) = _
        rw [ih _ (by omega) (by omega) hz2]
        try simp only [q_bs]
        try rw [nI_add]
        rw [prP_s g.1 hs h0]
        refine y_prI hN hg m was pl ma nu to se (show s - 2 ^ low6 s < 64 by omega) hln (by omega) hz2 _ (fun b hb hbit => ?_)
        obtain ⟨u1, u2, u3, u4⟩ := out_at (show s - 2 ^ low6 s < 64 by omega) hb hbit
        exact ih _ (by omega) (by omega) (fun c h1 h2 => u4 c h2 (hz2 c h1 h2))
theorem pop6_all : ∀ s : Fin 64, pop8 s.val ≤ 6 := by decide +kernel
theorem s_differ {N : Nat} (hN : 2000 ≤ N) {g : GS} {x : XS} {y : MS} (hx : XR g x) (hy : MR g y) (hg : GI g) (p : Int32) : Both (F_X2_differ N x p) (F_X3_differ N y p) := by
  have hno := both_no N hx hy hg c2
  have hl : liv g.1 < 64 := msk6_lt _
  unfold F_X2_differ F_X3_differ F_X2_differ_9
  rcases arg_cases p with hp | ⟨w, hw, rfl⟩
  · rw [f_isIn_neg N (by decide) hp]
    simp only [k_0, k_1, k_2, k_3, k_4, k_6, Nat.reduceEqDiff, Nat.reduceLeDiff, Nat.reduceLT, q_bs, ↓reduceIte, not_true_eq_false, not_false_eq_true, Bool.false_eq_true, reduceCtorEq, hp]
    exact hno
  · rw [f_isIn N hw (by decide) (by decide)]
    simp (disch := omega) only [k_0, k_1, k_2, k_3, k_4, k_6, Nat.reduceEqDiff, Nat.reduceLeDiff, Nat.reduceLT, q_le, q_lt, q_eq, q_lt0, q_ge0, q_eq0, q_gt0, q_le0, q_b0, q_ck, q_cl, nI_add, q_bs, ↓reduceIte, not_true_eq_false, not_false_eq_true, Bool.false_eq_true, reduceCtorEq, Bool.not_eq_false', decide_eq_false_iff_not, decide_eq_true_eq, Bool.not_false, Bool.not_true]
    by_cases h : w ≤ 2
    · simp only [k_0, k_1, k_2, k_3, k_4, k_6, Nat.reduceEqDiff, Nat.reduceLeDiff, Nat.reduceLT, q_bs, ↓reduceIte, not_true_eq_false, not_false_eq_true, Bool.false_eq_true, reduceCtorEq, h, show 0 ≤ w ∧ w ≤ 2 by omega]
      obtain ⟨mind, pr, hm, rfl⟩ := hx
      obtain ⟨m, was, pl, ma, nu, to, se, h3, h4, rfl⟩ := hy
      by_cases h2 : w = 2
      · obtain ⟨pr2, e⟩ := x_pairs hN hg mind pr
        simp only [k_0, k_1, k_2, k_3, k_4, k_6, Nat.reduceEqDiff, Nat.reduceLeDiff, Nat.reduceLT, q_bs, ↓reduceIte, not_true_eq_false, not_false_eq_true, Bool.false_eq_true, reduceCtorEq, h2]
        rw [e]
        show Both _ ((F_X3_livingIn N (em g.1)).bind _)
        rw [f_livingIn hN hg.1, q_bs, q_bs, y_pairs hN hg m was pl ma nu to se 8 (liv g.1) hl (by have := pop6_all ⟨liv g.1, hl⟩; have h9 : pop8 (liv g.1) ≤ 6 := this; omega) (fun b h1 h2 => by
          unfold liv
          rw [mskTo_bit, live_ge h1, Bool.and_false]), q_bs]
        exact ⟨_, g, _, _, rfl, rfl, XR.mk mind pr2 hm rfl, MR.mk m was pl ma nu to se h3 h4 rfl, hg⟩
      · have h1 : w ≤ 1 := by omega
        simp only [k_0, k_1, k_2, k_3, k_4, k_6, Nat.reduceEqDiff, Nat.reduceLeDiff, Nat.reduceLT, q_bs, ↓reduceIte, not_true_eq_false, not_false_eq_true, Bool.false_eq_true, reduceCtorEq, h2]
        rw [x_differ hN hg mind pr h1, y_differ hN hg m was pl ma nu to se h1]
        exact ⟨_, g, _, _, rfl, rfl, XR.mk mind pr hm rfl, MR.mk m was pl ma nu to se h3 h4 rfl, hg⟩
    · simp only [k_0, k_1, k_2, k_3, k_4, k_6, Nat.reduceEqDiff, Nat.reduceLeDiff, Nat.reduceLT, q_bs, ↓reduceIte, not_true_eq_false, not_false_eq_true, Bool.false_eq_true, reduceCtorEq, h, show ¬ (0 ≤ w ∧ w ≤ 2) by omega]
      exact hno
