/-! both sides, the least liars -/
def lieC (a : TA) (s c : Nat) : TA := sD a (fun i => aD a i || (decide (i < c) && s.testBit i))
theorem lieC_0 (a : TA) (s : Nat) : lieC a s 0 = a := by
  unfold lieC
  have : (fun i => aD a i || (decide (i < 0) && s.testBit i)) = aD a := by
    funext i
    rw [decide_eq_false (Nat.not_lt_zero i), Bool.false_and, Bool.or_false]
  rw [this]
theorem lieC_t (a : TA) {s c : Nat} (h : s.testBit c = true) : sD (lieC a s c) (updN (aD (lieC a s c)) c true) = lieC a s (c + 1) := by
  have e : updN (aD (lieC a s c)) c true = fun i => aD a i || (decide (i < c + 1) && s.testBit i) := by
    funext i
    show (if i = c then true else (aD a i || (decide (i < c) && s.testBit i))) = (aD a i || (decide (i < c + 1) && s.testBit i))
    by_cases hi : i = c
    · subst hi
      rw [if_pos rfl, decide_eq_true (Nat.lt_succ_self i), h]; simp
    · rw [if_neg hi]
      by_cases h2 : i < c
      · rw [decide_eq_true h2, decide_eq_true (show i < c + 1 by omega)]
      · rw [decide_eq_false h2, decide_eq_false (show ¬ i < c + 1 by omega)]
  rw [e]; rfl
theorem lieC_f (a : TA) {s c : Nat} (h : s.testBit c = false) : lieC a s c = lieC a s (c + 1) := by
  unfold lieC
  have e : (fun i => aD a i || (decide (i < c) && s.testBit i)) = fun i => aD a i || (decide (i < c + 1) && s.testBit i) := by
    funext i
    by_cases hi : i = c
    · subst hi; rw [h, Bool.and_false, Bool.and_false]
    · by_cases h2 : i < c
      · rw [decide_eq_true h2, decide_eq_true (show i < c + 1 by omega)]
      · rw [decide_eq_false h2, decide_eq_false (show ¬ i < c + 1 by omega)]
  rw [e]
theorem Good_lie {a : TA} (h : Good a) (s : Nat) {c : Nat} (hc : c ≤ aN a) : Good (lieC a s c) := by
  obtain ⟨h1, h2, h3, h4, h5, h6, h7, h8⟩ := h
  refine ⟨h1, h2, h3, h4, h5, h6, fun i hi => ?_, h8⟩
  obtain ⟨t1, t2, t3, t4, t5⟩ := h7 i hi
  have hi : aN a ≤ i := hi
  refine ⟨t1, t2, t3, ?_, t5⟩
  show (aD a i || (decide (i < c) && s.testBit i)) = false
  rw [t4, decide_eq_false (by omega)]; rfl
abbrev lieA (a : TA) (s : Nat) : TA := lieC a s (aN a)
theorem msk_bits {s : Nat} (hs : s < 64) : mskTo (fun i => s.testBit i) 6 = s := by
  have : ∀ s : Fin 64, mskTo (fun i => s.val.testBit i) 6 = s.val := by decide +kernel
  exact this ⟨s, hs⟩
theorem lie_says (a : TA) (s t w i : Nat) : saysB (lieA a s) t w i = (saysB a t w i && !s.testBit i) := by
  show ((decide (i < aN a) && !(aD a i || (decide (i < aN a) && s.testBit i))) && (aW a i t == w)) = (((decide (i < aN a) && !aD a i) && (aW a i t == w)) && !s.testBit i)
  cases decide (i < aN a) <;> cases aD a i <;> cases s.testBit i <;> cases (aW a i t == w) <;> rfl
theorem lie_msk (a : TA) {s : Nat} (hs : s < 64) (t w : Nat) : nI (mskTo (saysB a t w) 6) &&& (nI s ^^^ (-1)) = nI (mskTo (saysB (lieA a s) t w) 6) := by
  have e : nI s = nI (mskTo (fun i => s.testBit i) 6) := by rw [msk_bits hs]
  rw [e, q_andnot _ _ (by decide)]
  congr 1
  exact mskTo_congr (fun i _ => (lie_says a s t w i).symm)
theorem wrt_msk (a : TA) (t : Nat) : wrt a t = (decide (mskTo (saysB a t 1) 6 ≠ 0) && decide (mskTo (saysB a t 2) 6 ≠ 0)) := by
  unfold wrt
  have e1 := msk_say a t 1
  have e2 := msk_say a t 2
  congr 1
  · by_cases h : say a t 1 = 0
    · rw [decide_eq_false (by omega), decide_eq_false (show ¬ mskTo (saysB a t 1) 6 ≠ 0 from fun e => e (e1.mpr h))]
    · rw [decide_eq_true (by omega), decide_eq_true (show mskTo (saysB a t 1) 6 ≠ 0 from fun e => h (e1.mp e))]
  · by_cases h : say a t 2 = 0
    · rw [decide_eq_false (by omega), decide_eq_false (show ¬ mskTo (saysB a t 2) 6 ≠ 0 from fun e => e (e2.mpr h))]
    · rw [decide_eq_true (by omega), decide_eq_true (show mskTo (saysB a t 2) 6 ≠ 0 from fun e => h (e2.mp e))]
theorem x_empty {N : Nat} (hN : 2000 ≤ N) (g : GS) (mind : TA) (pr : FA) {s : Nat} (hs : s < 64) : F_X2_isEmptyWithout N (xs g mind pr) (nI s) = some (bI (decide (book (lieA g.1 s) = 0))) := by
  unfold F_X2_isEmptyWithout
  refine loop_ex (fun n (z : Int32) => F_X2_isEmptyWithout_2 N (xs g mind pr) n (nI s) z) (fun i z => z = nI i ∧ ∀ t, t < i → wrt (lieA g.1 s) t = false) (fun r => r = some (bI (decide (book (lieA g.1 s) = 0)))) 8 ?_ ?_ N 0 (nI 0) (Nat.zero_le _) (by omega) ⟨rfl, fun t h => absurd h (Nat.not_lt_zero t)⟩
  · rintro n t z ht ⟨rfl, hI⟩
    have m1 := msk6_lt (saysB (lieA g.1 s) t 1)
    have m2 := msk6_lt (saysB (lieA g.1 s) t 2)
    have hw := wrt_msk (lieA g.1 s) t
    have e : F_X2_isEmptyWithout_2 N (xs g mind pr) (n + 1) (nI s) (nI t) = if wrt (lieA g.1 s) t then some (nI 0) else F_X2_isEmptyWithout_2 N (xs g mind pr) n (nI s) (nI (t + 1)) := by
      rw [F_X2_isEmptyWithout_2, if_neg (by rw [q_le (by omega) (by omega)]; omega)]
      unfold F_X2_isEmptyWithout_40
      show ((F_X1_livingYes N (TW g.1) (nI t)).bind fun r13 => if (r13 &&& (nI s ^^^ (-1))) = 0 then _ else (F_X1_livingNo N (TW g.1) (nI t)).bind _) = _
      rw [g_livingYes N ht]
      try simp only [q_bs]
      rw [g_livingNo N ht]
      try simp only [q_bs]
      rw [lie_msk _ hs, lie_msk _ hs]
      try rw [nI_add]
      rw [i_eq0 (by omega), i_eq0 (by omega), hw]
      by_cases e1 : mskTo (saysB (lieA g.1 s) t 1) 6 = 0
      · rw [if_pos e1, decide_eq_false (fun e => e e1)]; rfl
      · rw [if_neg e1, decide_eq_true e1]
        by_cases e2 : mskTo (saysB (lieA g.1 s) t 2) 6 = 0
        · rw [if_pos e2, decide_eq_false (fun e => e e2)]; rfl
        · rw [if_neg e2, decide_eq_true e2]; rfl
    cases hc : wrt (lieA g.1 s) t
    · rw [hc] at e
      refine Or.inl ⟨nI (t + 1), ⟨rfl, fun u hu => ?_⟩, e⟩
      rcases Nat.lt_or_ge u t with h | h
      · exact hI u h
      · have : u = t := by omega
        subst this; exact hc
    · rw [hc] at e
      refine Or.inr ?_
      show F_X2_isEmptyWithout_2 N (xs g mind pr) (n + 1) (nI s) (nI t) = _
      rw [e, decide_eq_false (show ¬ book (lieA g.1 s) = 0 from msk_ne ht hc)]; rfl
  · rintro n z ⟨rfl, hI⟩
    show F_X2_isEmptyWithout_2 N (xs g mind pr) (n + 1) (nI s) (nI 8) = _
    rw [F_X2_isEmptyWithout_2, if_pos (by decide), decide_eq_true (show book (lieA g.1 s) = 0 from msk_zero hI)]; rfl
def liaS (a : TA) : Nat → Nat
  | 0 => liv a
  | s + 1 => if (nI s &&& (nI (liv a) ^^^ (-1))) = 0 ∧ pop8 s < pop8 (liaS a s) ∧ book (lieA a s) = 0 then s else liaS a s
theorem liaS_lt (a : TA) : ∀ s, s ≤ 64 → liaS a s < 64 := by
  intro s
  induction s with
  | zero => intro _; exact msk6_lt _
  | succ s ih =>
    intro h
    show (if _ then s else liaS a s) < 64
    split
    · omega
    · exact ih (by omega)
theorem pop8_le (m : Nat) : pop8 m ≤ 8 := cntTo_le _ _
theorem x_liars {N : Nat} (hN : 2000 ≤ N) (g : GS) (mind : TA) (pr : FA) : F_X2_leastLiars N (xs g mind pr) = some (nI (liaS g.1 (liv g.1))) := by
  have hl : liv g.1 < 64 := msk6_lt _
  unfold F_X2_leastLiars
  refine loop_up (fun n (z : Int32 × Int32) => F_X2_leastLiars_10 N (xs g mind pr) n z.1 z.2) (fun s => (nI (liaS g.1 s), nI s)) (liv g.1) _ ?_ ?_ N 0 (Nat.zero_le _) (by omega)
  · intro n s hs
    show F_X2_leastLiars_10 N (xs g mind pr) (n + 1) (nI (liaS g.1 s)) (nI s) = F_X2_leastLiars_10 N (xs g mind pr) n (nI (if (nI s &&& (nI (liv g.1) ^^^ (-1))) = 0 ∧ pop8 s < pop8 (liaS g.1 s) ∧ book (lieA g.1 s) = 0 then s else liaS g.1 s)) (nI (s + 1))
    have h1 := liaS_lt g.1 s (by omega)
    have p1 := pop8_le s
    have p2 := pop8_le (liaS g.1 s)
    rw [F_X2_leastLiars_10]
    unfold F_X2_leastLiars_59
    show (if nI (liv g.1) ≤ nI s then _ else if ¬ (nI s &&& (nI (liv g.1) ^^^ (-1))) = 0 then _ else (F_J6_bitCount_0f7a4 N (nI s)).bind fun r36 => (F_J6_bitCount_0f7a4 N (nI (liaS g.1 s))).bind fun r40 => if r36 < r40 then (F_X2_isEmptyWithout N (xs g mind pr) (nI s)).bind _ else _) = _
    rw [if_neg (by rw [q_le (by omega) (by omega)]; omega), f_bc64 N (show s < 256 by omega)]
    try simp only [q_bs]
    rw [f_bc64 N (show liaS g.1 s < 256 by omega)]
    try simp only [q_bs]
    rw [x_empty hN g mind pr (by omega)]
    try simp only [q_bs]
    try rw [nI_add]
    rw [i_lt (by omega) (by omega)]
    by_cases e1 : (nI s &&& (nI (liv g.1) ^^^ (-1))) = 0
    · rw [if_neg (fun e => e e1)]
      by_cases e2 : pop8 s < pop8 (liaS g.1 s)
      · rw [if_pos e2]
        by_cases e3 : book (lieA g.1 s) = 0
        · rw [decide_eq_true e3, if_neg (show ¬ bI true = 0 by decide), if_pos ⟨e1, e2, e3⟩]
        · rw [decide_eq_false e3, if_pos (show bI false = 0 from rfl), if_neg (fun e => e3 e.2.2)]
      · rw [if_neg e2, if_neg (fun e => e2 e.2.1)]
    · rw [if_pos e1, if_neg (fun e => e1 e.1)]
  · intro n
    show F_X2_leastLiars_10 N (xs g mind pr) (n + 1) _ (nI (liv g.1)) = _
    rw [F_X2_leastLiars_10]
    show (if nI (liv g.1) ≤ nI (liv g.1) then _ else _) = _
    exact if_pos (nI_le (Nat.le_refl _) (by omega))
theorem f_has (N : Nat) {s c : Nat} (hs : s < 2147483648) (hc : c < 31) : F_X3_has N (nI s) (nI c) = some (bI (s.testBit c)) := by
  unfold F_X3_has
  rw [q_bit hs hc]
  cases s.testBit c <;> rfl
theorem y_lie {N : Nat} (hN : 2000 ≤ N) {g : GS} (hg : GI g) (was : TA) (pl ma : Int32) (nu to : FA) (se x1 x2 : Int32) {s : Nat} (hs : s < 64) (k12 : MS → Int32 → Int32 → Int32 → Option (Int32 × MS)) : F_X3_leastLiars_53 N k12 N (ys g g.1 was pl ma nu to se) x1 x2 (nI s) (nI 0) = F_X3_leastLiars_91 N k12 (ys g (lieA g.1 s) was pl ma nu to se) x1 x2 (nI s) := by
  have hn := hg.1.1
  have h0 : ys g g.1 was pl ma nu to se = ys g (lieC g.1 s 0) was pl ma nu to se := by rw [lieC_0]
  rw [h0]
  refine loop_up (fun q (z : MS × Int32) => F_X3_leastLiars_53 N k12 q z.1 x1 x2 (nI s) z.2) (fun c => (ys g (lieC g.1 s c) was pl ma nu to se, nI c)) (aN g.1) _ ?_ ?_ N 0 (Nat.zero_le _) (by omega)
  · intro q c hc
    have w3 := ix_lt (c := c) (w := 3) (by omega) (by decide)
    show F_X3_leastLiars_53 N k12 (q + 1) (ys g (lieC g.1 s c) was pl ma nu to se) x1 x2 (nI s) (nI c) = F_X3_leastLiars_53 N k12 q (ys g (lieC g.1 s (c + 1)) was pl ma nu to se) x1 x2 (nI s) (nI (c + 1))
    rw [F_X3_leastLiars_53]
    unfold F_X3_leastLiars_85
    show (if em g.1 (nI 0).toNatClampNeg ≤ nI c then _ else (F_X3_has N (nI s) (nI c)).bind fun r67 => if r67 = 0 then _ else (F_X3_of N (nI c) (nI 3)).bind fun r80 => ckI r80 74 (F_X3_leastLiars_53 N k12 q (em g.1, upd (em (lieC g.1 s c)) r80.toNatClampNeg (nI true.toNat), (ys g g.1 was pl ma nu to se).2.2) x1 x2 (nI s) (nI c + nI 1))) = _
    try rw [q_c0]
    try rw [em_0]
    rw [if_neg (by rw [q_le (by omega) (by omega)]; omega), f_has N (by omega) (by omega)]
    try simp only [q_bs]
    try rw [f_of]
    try simp only [q_bs]
    repeat rw [q_ck w3 (by decide)]
    rw [nI_clamp (show ix c 3 < 2 ^ 31 by omega), em_sD]
    try rw [nI_add]
    cases hb : s.testBit c
    · rw [if_pos (show bI false = 0 from rfl), ← lieC_f g.1 hb]
    · rw [if_neg (show ¬ bI true = 0 by decide), lieC_t g.1 hb]
  · intro q
    show F_X3_leastLiars_53 N k12 (q + 1) (ys g (lieC g.1 s (aN g.1)) was pl ma nu to se) x1 x2 (nI s) (nI (aN g.1)) = _
    rw [F_X3_leastLiars_53]
    show (if em g.1 (nI 0).toNatClampNeg ≤ nI (aN g.1) then _ else _) = _
    try rw [q_c0]
    try rw [em_0]
    exact if_pos (nI_le (Nat.le_refl _) (by omega))
theorem y_liars {N : Nat} (hN : 2000 ≤ N) {g : GS} (hg : GI g) {m : TA} (hm : Good m) (was : TA) (pl ma : Int32) (nu to : FA) (se : Int32) : ∃ b, Good b ∧ F_X3_leastLiars N (ys g m was pl ma nu to se) = some (nI (liaS g.1 (liv g.1)), ys g b was pl ma nu to se) := by
  have hl : liv g.1 < 64 := msk6_lt _
  unfold F_X3_leastLiars
  show ∃ b, Good b ∧ ((F_X3_livingIn N (em g.1)).bind _) = _
  rw [f_livingIn hN hg.1]
  try simp only [q_bs]
  refine loop_ex (fun q (z : MS × Int32 × Int32) => F_X3_leastLiars_12 N q z.1 (nI (liv g.1)) z.2.1 z.2.2) (fun i z => ∃ b, Good b ∧ z = (ys g b was pl ma nu to se, nI (liaS g.1 i), nI i)) (fun r => ∃ b, Good b ∧ r = some (nI (liaS g.1 (liv g.1)), ys g b was pl ma nu to se)) (liv g.1) ?_ ?_ N 0 (ys g m was pl ma nu to se, nI (liv g.1), nI 0) (Nat.zero_le _) (by omega) ⟨m, hm, rfl⟩
  · rintro q s z hs ⟨b, hb, rfl⟩
    have h1 := liaS_lt g.1 s (by omega)
    have p1 := pop8_le s
    have p2 := pop8_le (liaS g.1 s)
    have hG := Good_lie hg.1 s (Nat.le_refl (aN g.1))
    have hbk : book (lieC g.1 s (aN g.1)) < 256 := msk8_lt _
    have key : ∃ b3, Good b3 ∧ F_X3_leastLiars_12 N (q + 1) (ys g b was pl ma nu to se) (nI (liv g.1)) (nI (liaS g.1 s)) (nI s) = F_X3_leastLiars_12 N q (ys g b3 was pl ma nu to se) (nI (liv g.1)) (nI (liaS g.1 (s + 1))) (nI (s + 1)) := by
      show ∃ b3, Good b3 ∧ _ = F_X3_leastLiars_12 N q (ys g b3 was pl ma nu to se) (nI (liv g.1)) (nI (if (nI s &&& (nI (liv g.1) ^^^ (-1))) = 0 ∧ pop8 s < pop8 (liaS g.1 s) ∧ book (lieA g.1 s) = 0 then s else liaS g.1 s)) (nI (s + 1))
      rw [F_X3_leastLiars_12, if_neg (by rw [q_le (by omega) (by omega)]; omega)]
      show ∃ b3, Good b3 ∧ (if ¬ (nI s &&& (nI (liv g.1) ^^^ (-1))) = 0 then _ else (F_X3_bits N (nI s)).bind fun r26 => (F_X3_bits N (nI (liaS g.1 s))).bind fun r30 => if r26 < r30 then (F_X3_copies N (em g.1) (em b)).bind fun r47 => F_X3_leastLiars_53 N (fun ctW cx1 cx2 cx3 => F_X3_leastLiars_12 N q ctW cx1 cx2 cx3) N (em g.1, r47, (ys g b was pl ma nu to se).2.2) (nI (liv g.1)) (nI (liaS g.1 s)) (nI s) (nI 0) else _) = _
      rw [f_bits hN (show s < 2147483648 by omega)]
      try simp only [q_bs]
      rw [f_bits hN (show liaS g.1 s < 2147483648 by omega)]
      try simp only [q_bs]
      rw [f_copies hN hg.1 hb]
      try simp only [q_bs]
      show ∃ b3, Good b3 ∧ (if ¬ (nI s &&& (nI (liv g.1) ^^^ (-1))) = 0 then _ else if nI (pop8 s) < nI (pop8 (liaS g.1 s)) then F_X3_leastLiars_53 N (fun ctW cx1 cx2 cx3 => F_X3_leastLiars_12 N q ctW cx1 cx2 cx3) N (ys g g.1 was pl ma nu to se) (nI (liv g.1)) (nI (liaS g.1 s)) (nI s) (nI 0) else _) = _
      rw [y_lie hN hg was pl ma nu to se _ _ (show s < 64 by omega)]
      unfold F_X3_leastLiars_91 F_X3_leastLiars_103
      show ∃ b3, Good b3 ∧ (if ¬ (nI s &&& (nI (liv g.1) ^^^ (-1))) = 0 then _ else if nI (pop8 s) < nI (pop8 (liaS g.1 s)) then (F_X3_writtenIn N (em (lieA g.1 s))).bind _ else _) = _
      rw [f_writtenIn hN hG]
      try simp only [q_bs]
      try rw [nI_add]
      rw [i_lt (by omega) (by omega), i_ne0 (by omega)]
      by_cases e1 : (nI s &&& (nI (liv g.1) ^^^ (-1))) = 0
      · rw [if_neg (fun e => e e1)]
        by_cases e2 : pop8 s < pop8 (liaS g.1 s)
        · rw [if_pos e2]
          by_cases e3 : book (lieA g.1 s) = 0
          · rw [if_neg (fun e => e e3), if_pos (show (nI s &&& (nI (liv g.1) ^^^ (-1))) = 0 ∧ pop8 s < pop8 (liaS g.1 s) ∧ book (lieA g.1 s) = 0 from ⟨e1, e2, e3⟩)]
            exact ⟨_, hG, rfl⟩
          · rw [if_pos e3, if_neg (fun e => e3 e.2.2)]
            exact ⟨_, hG, rfl⟩
        · rw [if_neg e2, if_neg (fun e => e2 e.2.1)]
          exact ⟨_, hb, rfl⟩
      · rw [if_pos e1, if_neg (fun e => e1 e.1)]
        exact ⟨_, hb, rfl⟩
    obtain ⟨b3, hb3, e3⟩ := key
    exact Or.inl ⟨(ys g b3 was pl ma nu to se, nI (liaS g.1 (s + 1)), nI (s + 1)), ⟨b3, hb3, rfl⟩, e3⟩
  · rintro q z ⟨b, hb, rfl⟩
    refine ⟨b, hb, ?_⟩
    show F_X3_leastLiars_12 N (q + 1) (ys g b was pl ma nu to se) (nI (liv g.1)) _ (nI (liv g.1)) = _
    rw [F_X3_leastLiars_12]
    exact if_pos (nI_le (Nat.le_refl _) (by omega))
theorem s_leastLiars {N : Nat} (hN : 2000 ≤ N) {g : GS} {x : XS} {y : MS} (hx : XR g x) (hy : MR g y) (hg : GI g) : ∃ v y2, F_X2_leastLiars N x = some v ∧ F_X3_leastLiars N y = some (v, y2) ∧ MR g y2 := by
  obtain ⟨mind, pr, hm, rfl⟩ := hx
  obtain ⟨m, was, pl, ma, nu, to, se, h3, h4, rfl⟩ := hy
  obtain ⟨b, hb, e⟩ := y_liars hN hg h3 was pl ma nu to se
  exact ⟨_, _, x_liars hN g mind pr, e, MR.mk b was pl ma nu to se hb h4 rfl⟩
