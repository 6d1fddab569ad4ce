/-! the class's town, what it does -/
theorem g_bury (N : Nat) {a : TA} (hg : Good a) {i : Nat} (hi : i < 2147483648) : F_X1_bury N (TW a) (nI i) = some (bI (live a i), TW (if live a i then sD a (updN (aD a) i true) else a)) := by
  have hn := hg.1
  unfold F_X1_bury
  rw [g_isLiving N hg hi]
  try simp only [q_bs]
  repeat (first | rw [i_b0] | rw [i_nb0])
  cases hl : live a i
  · rfl
  · have hi6 : i < aN a := by
      unfold live at hl
      rw [Bool.and_eq_true] at hl
      exact of_decide_eq_true hl.1
    rw [if_pos (by decide), if_pos (by first | rfl | decide)]
    try rw [TW_l]
    rw [q_put0 _ (by omega)]
    refine congrArg some (Prod.ext rfl (TW_ext (fun _ => rfl) (fun _ => rfl) (fun _ => rfl) (fun _ => rfl) (fun _ => rfl) rfl ?_ rfl))
    show nI _ = nI _
    congr 1
    refine mskTo_congr (fun j _ => ?_)
    show (if j = i then false else live a j) = (decide (j < aN a) && !(if j = i then true else aD a j))
    by_cases h : j = i
    · rw [if_pos h, if_pos h]; simp
    · rw [if_neg h, if_neg h]; rfl
theorem g_bury_neg (N : Nat) (w : TownS) {p : Int32} (hp : p < 0) : F_X1_bury N w p = some (nI 0, w) := by
  unfold F_X1_bury
  rw [g_isLiving_neg N w hp]
  try simp only [q_bs]
  rfl
theorem g_settle (N : Nat) {a : TA} (hg : Good a) {k f v : Nat} : F_X1_settle N (TW a) (nI k) (nI f) (nI v) = some (if aN a < 6 then (nI 1, TW (aN a + 1, aY a, updN (aK a) (aN a) k, updN (aF a) (aN a) f, updN (aA a) (aN a) v, aD a, aW a)) else (nI 0, TW a)) := by
  have hn := hg.1
  unfold F_X1_settle
  try rw [TW_n]
  rw [i_lt (by omega) (by decide)]
  by_cases h : aN a < 6
  · rw [if_pos h, if_pos h]
    repeat rw [q_ck h (by decide)]
    repeat rw [q_ck h (by decide)]
    repeat rw [q_ck h (by decide)]
    repeat rw [q_cl (by omega)]
    try rw [nI_add]
    try rw [TW_l]
    rw [q_put1 _ h]
    refine congrArg some (Prod.ext rfl (TW_ext (fun i => ?_) (fun i => ?_) (fun i => ?_) (fun _ => rfl) (fun _ => rfl) rfl ?_ rfl))
    · show (if i = aN a then nI k else nI (aK a i)) = nI (if i = aN a then k else aK a i)
      split <;> rfl
    · show (if i = aN a then nI f else nI (aF a i)) = nI (if i = aN a then f else aF a i)
      split <;> rfl
    · show (if i = aN a then nI v else nI (aA a i)) = nI (if i = aN a then v else aA a i)
      split <;> rfl
    · show nI _ = nI _
      congr 1
      refine mskTo_congr (fun j _ => ?_)
      show (if j = aN a then true else live a j) = (decide (j < aN a + 1) && !aD a j)
      have ht := (hg.2.2.2.2.2.2.1 (aN a) (Nat.le_refl _)).2.2.2.1
      by_cases hj : j = aN a
      · subst hj; rw [if_pos (by first | rfl | decide), ht, decide_eq_true (by omega)]; rfl
      · rw [if_neg hj]
        unfold live
        by_cases h2 : j < aN a
        · rw [decide_eq_true h2, decide_eq_true (by omega)]
        · rw [decide_eq_false h2, decide_eq_false (by omega)]
  · rw [if_neg h, if_neg h]
theorem g_noTopic (N : Nat) {t : Nat} (ht : t < 2147483648) : F_X2_noTopic N (nI t) = some (bI (!decide (t < 8))) := by
  unfold F_X2_noTopic
  rw [i_lt0 ht]
  rw [if_neg (fun h => h)]
  rw [i_lt ht (by decide)]
  by_cases h : t < 8
  · rw [if_pos h, decide_eq_true h]; rfl
  · rw [if_neg h, decide_eq_false h]; rfl
theorem g_noTopic_neg (N : Nat) {p : Int32} (hp : p < 0) : F_X2_noTopic N p = some (nI 1) := by
  unfold F_X2_noTopic
  rw [if_pos hp]
def hears (a : TA) (i t w : Nat) : Bool := live a i && decide (t < 8) && decide (w ≤ 2)
theorem g_hear (N : Nat) {a : TA} (hg : Good a) {i t w : Nat} (hi : i < 2147483648) (ht : t < 2147483648) (hw : w < 2147483648) : F_X1_hear N (TW a) (nI i) (nI t) (nI w) = some (bI (hears a i t w), TW (if hears a i t w then sW a (updW (aW a) i t w) else a)) := by
  have hn := hg.1
  unfold F_X1_hear hears
  rw [g_isLiving N hg hi]
  try simp only [q_bs]
  rw [g_noTopic N ht]
  try simp only [q_bs]
  repeat (first | rw [i_b0] | rw [i_nb0])
  repeat (first | rw [i_b0] | rw [i_nb0])
  rw [i_lt0 hw]
  rw [i_lt hw (by decide)]
  cases hl : live a i
  · rfl
  · have hi6 : i < aN a := by
      unfold live at hl
      rw [Bool.and_eq_true] at hl
      exact of_decide_eq_true hl.1
    rw [if_neg (by decide)]
    by_cases h1 : t < 8
    · rw [decide_eq_true h1, if_neg (by decide), if_neg (fun h => h)]
      by_cases h2 : w < 3
      · rw [if_pos h2, g_put N a (by omega) h1 (by omega)]
        try simp only [q_bs]
        rw [decide_eq_true (show w ≤ 2 by omega)]; rfl
      · rw [if_neg h2, decide_eq_false (show ¬ w ≤ 2 by omega)]; rfl
    · rw [decide_eq_false h1, if_pos (by decide)]; rfl
theorem lifeN_at {k : Nat} (hk : k ≤ 5) (f : Nat) : lifeN k + nI f = nI (lifeOf k f) := by
  unfold lifeN
  try rw [nI_add]
  rcases (show k = 0 ∨ k = 1 ∨ k = 2 ∨ k = 3 ∨ k = 4 ∨ k = 5 by omega) with rfl | rfl | rfl | rfl | rfl | rfl <;> rfl
theorem g_lifeOf (N : Nat) {a : TA} (hg : Good a) {i : Nat} (hi : i < 6) : F_X1_lifeOf N (TW a) (nI i) = some (nI (lifeOf (aK a i) (aF a i))) := by
  have hk := hg.2.2.1 i
  unfold F_X1_lifeOf
  repeat rw [q_ck hi (by decide)]
  repeat rw [q_ck hi (by decide)]
  repeat rw [q_cl (by omega)]
  try rw [TW_k]
  try rw [TW_f]
  rw [i_lt0 (by omega)]
  rw [if_neg (fun h => h)]
  rw [i_le (by decide) (by omega)]
  rw [if_neg (by omega)]
  repeat rw [q_ck (by omega) (by decide)]
  repeat rw [q_cl (by omega)]
  rw [lifeN_at hk]
/-- all who live grow older by some years -/
def olderA (a : TA) (v : Nat) : TA := sA a (fun c => if live a c then min 99 (aA a c + v) else aA a c)
theorem live_lt {a : TA} {i : Nat} (h : live a i = true) : i < aN a := by
  unfold live at h
  rw [Bool.and_eq_true] at h
  exact of_decide_eq_true h.1
theorem g_growOlder {N : Nat} (hN : 2000 ≤ N) {a : TA} (hg : Good a) {v : Nat} (hv : v ≤ 100) : F_X1_growOlder N (TW a) (nI v) = some (TW (olderA a v)) := by
  have hn := hg.1
  unfold F_X1_growOlder
  have hE : TW a = TW (sA a (fun c => if c < 0 then (if live a c then min 99 (aA a c + v) else aA a c) else aA a c)) := rfl
  have hX : olderA a v = sA a (fun c => if c < aN a then (if live a c then min 99 (aA a c + v) else aA a c) else aA a c) := by
    unfold olderA
    refine Prod.ext rfl (Prod.ext rfl (Prod.ext rfl (Prod.ext rfl (Prod.ext (funext fun c => ?_) rfl))))
    show (if live a c then min 99 (aA a c + v) else aA a c) = (if c < aN a then (if live a c then min 99 (aA a c + v) else aA a c) else aA a c)
    by_cases h : c < aN a
    · rw [if_pos h]
    · rw [if_neg h, if_neg (fun e => h (live_lt e))]
  rw [hX, hE]
  refine loop_up (fun n (x : TownS × Int32) => F_X1_growOlder_2 N n x.1 (nI v) x.2) (fun i => (TW (sA a (fun c => if c < i then (if live a c then min 99 (aA a c + v) else aA a c) else aA a c)), nI i)) (aN a) _ ?_ ?_ N 0 (Nat.zero_le _) (by omega)
  · intro n i hi
    have hb : Good (sA a (fun c => if c < i then (if live a c then min 99 (aA a c + v) else aA a c) else aA a c)) := by
      obtain ⟨h1, h2, h3, h4, h5, h6, h7, h8⟩ := hg
      refine ⟨h1, h2, h3, h4, fun c => ?_, h6, fun c hc => ?_, h8⟩
      · show (if c < i then (if live a c then min 99 (aA a c + v) else aA a c) else aA a c) ≤ 99
        have := h5 c
        split
        · split
          · exact Nat.min_le_left _ _
          · exact this
        · exact this
      · obtain ⟨t1, t2, t3, t4⟩ := h7 c hc
        refine ⟨t1, t2, ?_, t4⟩
        show (if c < i then _ else aA a c) = 0
        have hc : aN a ≤ c := hc
        rw [if_neg (by omega)]; exact t3
    show F_X1_growOlder_2 N (n + 1) (TW (sA a (fun c => if c < i then (if live a c then min 99 (aA a c + v) else aA a c) else aA a c))) (nI v) (nI i) = F_X1_growOlder_2 N n (TW (sA a (fun c => if c < i + 1 then (if live a c then min 99 (aA a c + v) else aA a c) else aA a c))) (nI v) (nI (i + 1))
    rw [← updN_lt (aA a) (fun c => if live a c then min 99 (aA a c + v) else aA a c) i]
    have hag := hg.2.2.2.2.1 i
    have main : ∀ b : TA, b = sA a (fun c => if c < i then (if live a c then min 99 (aA a c + v) else aA a c) else aA a c) → Good b → F_X1_growOlder_2 N (n + 1) (TW b) (nI v) (nI i) = F_X1_growOlder_2 N n (TW (sA b (updN (aA b) i (if live a i then min 99 (aA a i + v) else aA a i)))) (nI v) (nI (i + 1)) := by
      intro b e hb
      have hai : aA b i = aA a i := by rw [e]; exact if_neg (Nat.lt_irrefl i)
      have hli : live b i = live a i := by rw [e]; rfl
      have hnb : aN b = aN a := by rw [e]
      rw [F_X1_growOlder_2]
      try rw [TW_n]
      rw [hnb, if_neg (by rw [q_le (by omega) (by omega)]; omega), g_isLiving N hb (by omega)]
      try simp only [q_bs]
      repeat (first | rw [i_b0] | rw [i_nb0])
      rw [hli]
      unfold F_X1_growOlder_37
      try rw [nI_add i 1]
      cases hl : live a i
      · rw [if_pos (by first | rfl | decide), if_neg (by decide), ← hai, updN_self]
      · rw [if_neg (by decide)]
        repeat rw [q_ck (by omega) (by decide)]
        repeat rw [q_ck (by omega) (by decide)]
        repeat rw [q_cl (by omega)]
        try rw [TW_a]
        rw [hai]
        try rw [nI_add v]
        try rw [nI_add]
        congr 1
        refine TW_ext (fun _ => rfl) (fun _ => rfl) (fun j => ?_) (fun _ => rfl) (fun _ => rfl) (congrArg nI hnb.symm) rfl rfl
        show (if j = i then (if nI (aA a i + v) < nI 99 then nI (aA a i + v) else nI 99) else nI (aA b j)) = nI (if j = i then min 99 (aA a i + v) else aA b j)
        by_cases hj : j = i
        · rw [if_pos hj, if_pos hj, i_lt (by omega) (by decide)]
          by_cases h : aA a i + v < 99
          · rw [if_pos h, Nat.min_eq_right (by omega)]
          · rw [if_neg h, Nat.min_eq_left (by omega)]
        · rw [if_neg hj, if_neg hj]
    exact main _ rfl hb
  · intro n
    show F_X1_growOlder_2 N (n + 1) (TW _) (nI v) (nI (aN a)) = _
    rw [F_X1_growOlder_2]
    try rw [TW_n]
    rw [show aN (sA a (fun c => if c < aN a then (if live a c then min 99 (aA a c + v) else aA a c) else aA a c)) = aN a from rfl, if_pos (by rw [q_le (by omega) (by omega)]; exact Nat.le_refl _)]
/-- whose age is life or more is dead then -/
def tooOld (a : TA) (c : Nat) : Bool := live a c && decide (lifeOf (aK a c) (aF a c) ≤ aA a c)
def buryA (a : TA) : TA := sD a (fun c => aD a c || tooOld a c)
theorem g_buryTheOld {N : Nat} (hN : 2000 ≤ N) {a : TA} (hg : Good a) : F_X1_buryTheOld N (TW a) = some (TW (buryA a)) := by
  have hn := hg.1
  unfold F_X1_buryTheOld
  have hE : TW a = TW (sD a (fun c => if c < 0 then (aD a c || tooOld a c) else aD a c)) := rfl
  have hX : buryA a = sD a (fun c => if c < aN a then (aD a c || tooOld a c) else aD a c) := by
    unfold buryA
    refine Prod.ext rfl (Prod.ext rfl (Prod.ext rfl (Prod.ext rfl (Prod.ext rfl (Prod.ext (funext fun c => ?_) rfl)))))
    show (aD a c || tooOld a c) = (if c < aN a then (aD a c || tooOld a c) else aD a c)
    by_cases h : c < aN a
    · rw [if_pos h]
    · rw [if_neg h]
      unfold tooOld
      have : live a c = false := by cases e : live a c; rfl; exact absurd (live_lt e) h
      rw [this]; simp
  rw [hX, hE]
  refine loop_up (fun n (x : TownS × Int32) => F_X1_buryTheOld_2 N n x.1 x.2) (fun i => (TW (sD a (fun c => if c < i then (aD a c || tooOld a c) else aD a c)), nI i)) (aN a) _ ?_ ?_ N 0 (Nat.zero_le _) (by omega)
  · intro n i hi
    have hb : Good (sD a (fun c => if c < i then (aD a c || tooOld a c) else aD a c)) := by
      obtain ⟨h1, h2, h3, h4, h5, h6, h7, h8⟩ := hg
      refine ⟨h1, h2, h3, h4, h5, h6, fun c hc => ?_, h8⟩
      obtain ⟨t1, t2, t3, t4, t5⟩ := h7 c hc
      refine ⟨t1, t2, t3, ?_, t5⟩
      have hc : aN a ≤ c := hc
      show (if c < i then _ else aD a c) = false
      rw [if_neg (by omega)]; exact t4
    show F_X1_buryTheOld_2 N (n + 1) (TW (sD a (fun c => if c < i then (aD a c || tooOld a c) else aD a c))) (nI i) = F_X1_buryTheOld_2 N n (TW (sD a (fun c => if c < i + 1 then (aD a c || tooOld a c) else aD a c))) (nI (i + 1))
    rw [← updN_lt (aD a) (fun c => aD a c || tooOld a c) i]
    have hag := hg.2.2.2.2.1 i
    have hlf := lifeOf_le (k := aK a i) (hg.2.2.2.1 i)
    have main : ∀ b : TA, b = sD a (fun c => if c < i then (aD a c || tooOld a c) else aD a c) → Good b → F_X1_buryTheOld_2 N (n + 1) (TW b) (nI i) = F_X1_buryTheOld_2 N n (TW (sD b (updN (aD b) i (aD a i || tooOld a i)))) (nI (i + 1)) := by
      intro b e hb
      have hdi : aD b i = aD a i := by rw [e]; exact if_neg (Nat.lt_irrefl i)
      have hnb : aN b = aN a := by rw [e]
      have hli : live b i = live a i := by unfold live; rw [hdi, hnb]
      have hab : aA b = aA a := by rw [e]
      have hkb : aK b = aK a := by rw [e]
      have hfb : aF b = aF a := by rw [e]
      rw [F_X1_buryTheOld_2]
      try rw [TW_n]
      rw [hnb, if_neg (by rw [q_le (by omega) (by omega)]; omega)]
      repeat rw [q_ck (by omega) (by decide)]
      rw [g_lifeOf N hb (by omega)]
      try simp only [q_bs]
      repeat rw [q_cl (by omega)]
      try rw [TW_a]
      rw [hab, hkb, hfb, g_bury N hb (by omega)]
      try simp only [q_bs]
      rw [i_lt (by omega) (by omega)]
      rw [hli]
      unfold F_X1_buryTheOld_30
      try rw [nI_add i 1]
      by_cases h : aA a i < lifeOf (aK a i) (aF a i)
      · have : tooOld a i = false := by unfold tooOld; rw [decide_eq_false (by omega)]; simp
        rw [if_pos h, this, Bool.or_false, ← hdi, updN_self]
      · rw [if_neg h]
        cases hl : live a i
        · have : tooOld a i = false := by unfold tooOld; rw [hl]; rfl
          rw [this, Bool.or_false, ← hdi, updN_self]; rfl
        · have : tooOld a i = true := by unfold tooOld; rw [hl, decide_eq_true (by omega)]; rfl
          rw [this, Bool.or_true]; rfl
    exact main _ rfl hb
  · intro n
    show F_X1_buryTheOld_2 N (n + 1) (TW _) (nI (aN a)) = _
    rw [F_X1_buryTheOld_2]
    try rw [TW_n]
    rw [show aN (sD a (fun c => if c < aN a then (aD a c || tooOld a c) else aD a c)) = aN a from rfl, if_pos (by rw [q_le (by omega) (by omega)]; exact Nat.le_refl _)]
theorem age_is (a : TA) : buryA (olderA (sY a (aY a + 1)) 1) = ageA a := rfl
