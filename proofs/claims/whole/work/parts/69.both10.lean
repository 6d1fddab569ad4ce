/-! both sides, two who give way or not, towns by lot -/
def imT (a : TA) (x p y q t : Nat) : TA := if q = 1 then sW (if p = 1 then sW a (updW (aW a) x t 0) else a) (updW (aW (if p = 1 then sW a (updW (aW a) x t 0) else a)) y t 0) else (if p = 1 then sW a (updW (aW a) x t 0) else a)
theorem Good_imT {a : TA} (h : Good a) {x p y q t : Nat} (hx : x < aN a) (hy : y < aN a) (ht : t < 8) : Good (imT a x p y q t) ∧ aY (imT a x p y q t) = aY a ∧ aN (imT a x p y q t) = aN a := by
  have h1 : Good (if p = 1 then sW a (updW (aW a) x t 0) else a) ∧ aY (if p = 1 then sW a (updW (aW a) x t 0) else a) = aY a ∧ aN (if p = 1 then sW a (updW (aW a) x t 0) else a) = aN a := by
    split
    · exact ⟨Good_put h hx ht (by decide), rfl, rfl⟩
    · exact ⟨h, rfl, rfl⟩
  unfold imT
  generalize (if p = 1 then sW a (updW (aW a) x t 0) else a) = b at *
  split
  · exact ⟨Good_put h1.1 (by rw [h1.2.2]; exact hy) ht (by decide), h1.2⟩
  · exact h1
def chB (a : TA) (who x p y q t n : Nat) : Nat := chap (yearsF (imT a x p y q t) n) who
theorem chB_le (a : TA) (who x p y q t n : Nat) : chB a who x p y q t n ≤ 8 := chap_le _ _
theorem x_im {N : Nat} (hN : 2000 ≤ N) {g : GS} (hg : GI g) {mind : TA} (hm : Good mind) (pr : FA) {x p y q t n : Nat} (hx : x < aN g.1) (hy : y < aN g.1) (hp : p ≤ 1) (hq : q ≤ 1) (ht : t < 8) (hn6 : n ≤ 60) : F_X2_imagineTwo N (xs g mind pr) (nI x) (nI p) (nI y) (nI q) (nI t) (nI n) = some (xs g (yearsF (imT g.1 x p y q t) n) pr) := by
  have hn := hg.1.1
  have h9 := hg.2.1
  obtain ⟨hG, hY, hNn⟩ := Good_imT hg.1 (p := p) (q := q) hx hy ht
  have st2 : ∀ b : TA, Good b → aY b = aY g.1 → aN b = aN g.1 → F_X2_imagineTwo_27 N (xs g b pr) (nI y) (nI q) (nI t) (nI n) = some (xs g (yearsF (if q = 1 then sW b (updW (aW b) y t 0) else b) n) pr) := by
    intro b hb hby hbn
    unfold F_X2_imagineTwo_27 F_X2_imagineTwo_44
    have hb2 := Good_put hb (show y < aN b by omega) ht (show 0 ≤ 2 by decide)
    rcases (show q = 0 ∨ q = 1 by omega) with rfl | rfl
    · rw [if_pos (by decide), if_neg (by decide)]
      show ((F_X1_pass N (TW b) (nI n)).bind _) = _
      rw [g_pass hN hb (by omega) (by omega)]
      try simp only [q_bs]
    · rw [if_neg (fun e => e rfl), if_pos (Eq.refl 1)]
      show ((F_X1_put N (TW b) (nI y) (nI t) (nI 0)).bind _) = _
      rw [g_put N b (by omega) ht (by decide)]
      try simp only [q_bs]
      show ((F_X1_pass N (TW (sW b (updW (aW b) y t 0))) (nI n)).bind _) = _
      rw [g_pass hN hb2 (by omega) (show aY b + n < 100000 by omega)]
      try simp only [q_bs]
  unfold F_X2_imagineTwo
  show ((F_X1_become N (TW mind) (TW g.1)).bind fun r8 => if ¬ nI p = nI 1 then F_X2_imagineTwo_27 N (TW g.1, r8, (xs g mind pr).2.2) (nI y) (nI q) (nI t) (nI n) else ((F_X1_put N r8 (nI x) (nI t) (nI 0)).bind fun r24 => F_X2_imagineTwo_27 N (TW g.1, r24, (xs g mind pr).2.2) (nI y) (nI q) (nI t) (nI n))) = _
  rw [g_become N hm hg.1]
  try simp only [q_bs]
  rw [g_put N g.1 (by omega) ht (by decide)]
  try simp only [q_bs]
  unfold imT
  rcases (show p = 0 ∨ p = 1 by omega) with rfl | rfl
  · rw [if_pos (show ¬ nI 0 = nI 1 by decide)]
    exact st2 g.1 hg.1 rfl rfl
  · rw [if_neg (show ¬ ¬ nI 1 = nI 1 from fun e => e rfl)]
    exact st2 _ (Good_put hg.1 hx ht (by decide)) rfl rfl
theorem upd_self (f : FA) (k : Nat) : upd f k (f k) = f := by
  funext j
  show (if j = k then f k else f j) = f j
  split
  · next h => rw [h]
  · rfl
theorem y_chB {N : Nat} (hN : 2000 ≤ N) {g : GS} (hg : GI g) {m : TA} (hm : Good m) (was : TA) (pl ma : Int32) (nu to : FA) (se : Int32) {who x p y q t n : Nat} (hw : who < aN g.1) (hx : x < aN g.1) (hy : y < aN g.1) (hp : p ≤ 1) (hq : q ≤ 1) (ht : t < 8) (hn6 : n ≤ 60) : F_X3_chapterBy N (ys g m was pl ma nu to se) (nI who) (nI x) (nI p) (nI y) (nI q) (nI t) (nI n) = some (nI (chB g.1 who x p y q t n), ys g (yearsF (imT g.1 x p y q t) n) was pl ma nu to se) := by
  have hn := hg.1.1
  have h9 := hg.2.1
  obtain ⟨hG, hY, hNn⟩ := Good_imT hg.1 (p := p) (q := q) hx hy ht
  have hGn := Good_years hG n (by omega)
  have wx := ix_lt (c := x) (w := 4 + t) (by omega) (by omega)
  have wy := ix_lt (c := y) (w := 4 + t) (by omega) (by omega)
  have hwn : who < aN (yearsF (imT g.1 x p y q t) n) := by rw [(yearsF_n _ n).1, hNn]; exact hw
  have fin : ∀ (f : FA) (z1 : Nat) (z2 : Int32), z1 < 74 → upd f z1 z2 = em (imT g.1 x p y q t) → F_X3_chapterBy_83 N (em g.1, f, (ys g m was pl ma nu to se).2.2) (nI who) (nI n) (nI z1) z2 = some (nI (chB g.1 who x p y q t n), ys g (yearsF (imT g.1 x p y q t) n) was pl ma nu to se) := by
    intro f z1 z2 hz e
    unfold F_X3_chapterBy_83
    show ckI (nI z1) 74 ((F_X3_yearsOn N (upd f (nI z1).toNatClampNeg z2) (nI n)).bind _) = _
    repeat rw [q_ck hz (by decide)]
    rw [nI_clamp (show z1 < 2 ^ 31 by omega), e, f_yearsOn hN hG (by omega) (by omega)]
    try simp only [q_bs]
    rw [f_chap hN hGn hwn]
    try simp only [q_bs]
    rfl
  have st2 : ∀ (b : TA) (f : FA) (z1 : Nat) (z2 : Int32), z1 < 74 → upd f z1 z2 = em b → imT g.1 x p y q t = (if q = 1 then sW b (updW (aW b) y t 0) else b) → F_X3_chapterBy_45 N (em g.1, f, (ys g m was pl ma nu to se).2.2) (nI who) (nI y) (nI q) (nI t) (nI n) (nI z1) z2 = some (nI (chB g.1 who x p y q t n), ys g (yearsF (imT g.1 x p y q t) n) was pl ma nu to se) := by
    intro b f z1 z2 hz e hb
    unfold F_X3_chapterBy_45
    show ckI (nI z1) 74 ((F_X3_of N (nI y) (nI 4 + nI t)).bind fun r56 => if ¬ nI q = nI 1 then ((F_X3_of N (nI y) (nI 4 + nI t)).bind fun r79 => ckI r79 74 (F_X3_chapterBy_83 N (em g.1, upd f (nI z1).toNatClampNeg z2, (ys g m was pl ma nu to se).2.2) (nI who) (nI n) r56 ((upd f (nI z1).toNatClampNeg z2) r79.toNatClampNeg))) else F_X3_chapterBy_83 N (em g.1, upd f (nI z1).toNatClampNeg z2, (ys g m was pl ma nu to se).2.2) (nI who) (nI n) r56 (nI 0)) = _
    repeat rw [q_ck hz (by decide)]
    rw [nI_clamp (show z1 < 2 ^ 31 by omega), e]
    try rw [nI_add 4 t]
    try rw [f_of]
    try simp only [q_bs]
    try simp only [q_bs]
    repeat rw [q_ck wy (by decide)]
    rw [nI_clamp (show ix y (4 + t) < 2 ^ 31 by omega)]
    rcases (show q = 0 ∨ q = 1 by omega) with rfl | rfl
    · rw [if_pos (show ¬ nI 0 = nI 1 by decide)]
      refine fin _ _ _ wy ?_
      rw [upd_self, hb]
      rfl
    · rw [if_neg (show ¬ ¬ nI 1 = nI 1 from fun e => e rfl)]
      refine fin _ _ _ wy ?_
      rw [em_sW b y t 0 ht, hb]
      rfl
  unfold F_X3_chapterBy
  show ((F_X3_copies N (em g.1) (em m)).bind fun r8 => (F_X3_of N (nI x) (nI 4 + nI t)).bind fun r20 => if ¬ nI p = nI 1 then ((F_X3_of N (nI x) (nI 4 + nI t)).bind fun r41 => ckI r41 74 (F_X3_chapterBy_45 N (em g.1, r8, (ys g m was pl ma nu to se).2.2) (nI who) (nI y) (nI q) (nI t) (nI n) r20 (r8 r41.toNatClampNeg))) else F_X3_chapterBy_45 N (em g.1, r8, (ys g m was pl ma nu to se).2.2) (nI who) (nI y) (nI q) (nI t) (nI n) r20 (nI 0)) = _
  rw [f_copies hN hg.1 hm]
  try simp only [q_bs]
  try rw [nI_add 4 t]
  try rw [f_of]
  try simp only [q_bs]
  try simp only [q_bs]
  repeat rw [q_ck wx (by decide)]
  rw [nI_clamp (show ix x (4 + t) < 2 ^ 31 by omega)]
  rcases (show p = 0 ∨ p = 1 by omega) with rfl | rfl
  · rw [if_pos (show ¬ nI 0 = nI 1 by decide)]
    exact st2 g.1 _ _ _ wx (upd_self _ _) rfl
  · rw [if_neg (show ¬ ¬ nI 1 = nI 1 from fun e => e rfl)]
    exact st2 _ _ _ _ wx (em_sW g.1 x t 0 ht) rfl
def okT (a : TA) (x y t n p q : Nat) : Bool := decide (chB a x x (1 - p) y q t n ≤ chB a x x p y q t n) && decide (chB a y x p y (1 - q) t n ≤ chB a y x p y q t n)
theorem x_two1 {N : Nat} (hN : 2000 ≤ N) {g : GS} (hg : GI g) {mind : TA} (hm : Good mind) (pr : FA) {x p y q t n : Nat} (hx : x < aN g.1) (hy : y < aN g.1) (hp : p ≤ 1) (hq : q ≤ 1) (ht : t < 8) (hn6 : n ≤ 60) (k : Nat) (k92 : XS → Int32 → Int32 → Int32 → Int32 → Int32 → Option (Int32 × XS)) : ∃ b, Good b ∧ F_X2_two_101 N k92 (k + 1) (xs g mind pr) (nI x) (nI y) (nI t) (nI n) (nI p) (nI q) = if okT g.1 x y t n p q then some (nI (10 * p + q), xs g b pr) else F_X2_two_101 N k92 k (xs g b pr) (nI x) (nI y) (nI t) (nI n) (nI p) (nI (q + 1)) := by
  have hn := hg.1.1
  have h9 := hg.2.1
  have G : ∀ p q, Good (yearsF (imT g.1 x p y q t) n) := fun p q => Good_years (Good_imT hg.1 hx hy ht).1 n (by rw [(Good_imT hg.1 hx hy ht).2.1]; omega)
  have c1 := chB_le g.1 x x (1 - p) y q t n
  have c2 := chB_le g.1 x x p y q t n
  have c3 := chB_le g.1 y x p y (1 - q) t n
  have c4 := chB_le g.1 y x p y q t n
  rw [F_X2_two_101, if_neg (by rw [q_lt (by decide) (by omega)]; omega)]
  unfold F_X2_two_202 F_X2_two_211
  rw [x_im hN hg hm pr hx hy hp hq ht hn6]
  try simp only [q_bs]
  rw [q_sub hp, q_sub hq, x_im hN hg (G p q) pr hx hy (show 1 - p ≤ 1 by omega) hq ht hn6]
  try simp only [q_bs]
  rw [x_im hN hg (G (1 - p) q) pr hx hy hp (show 1 - q ≤ 1 by omega) ht hn6]
  try simp only [q_bs]
  show ∃ b, Good b ∧ ((F_X1_chapterOf N (TW (yearsF (imT g.1 x p y q t) n)) (nI x)).bind fun r125 => (F_X1_chapterOf N (TW (yearsF (imT g.1 x p y q t) n)) (nI y)).bind fun r135 => (F_X1_chapterOf N (TW (yearsF (imT g.1 x (1 - p) y q t) n)) (nI x)).bind fun r160 => if r160 ≤ r125 then (F_X1_chapterOf N (TW (yearsF (imT g.1 x p y (1 - q) t) n)) (nI y)).bind _ else _) = _
  rw [g_chap hN (G p q) (by omega)]
  try simp only [q_bs]
  rw [g_chap hN (G p q) (by omega)]
  try simp only [q_bs]
  rw [g_chap hN (G (1 - p) q) (by omega)]
  try simp only [q_bs]
  rw [g_chap hN (G p (1 - q)) (by omega)]
  try simp only [q_bs]
  show ∃ b, Good b ∧ (if nI (chB g.1 x x (1 - p) y q t n) ≤ nI (chB g.1 x x p y q t n) then if nI (chB g.1 y x p y (1 - q) t n) ≤ nI (chB g.1 y x p y q t n) then _ else _ else _) = _
  rw [i_le (by omega) (by omega), i_le (by omega) (by omega)]
  try rw [nI_add]
  rw [nI_code]
  unfold okT
  by_cases e1 : chB g.1 x x (1 - p) y q t n ≤ chB g.1 x x p y q t n
  · rw [if_pos e1, decide_eq_true e1, Bool.true_and]
    by_cases e2 : chB g.1 y x p y (1 - q) t n ≤ chB g.1 y x p y q t n
    · rw [if_pos e2, decide_eq_true e2]
      exact ⟨_, G _ _, rfl⟩
    · rw [if_neg e2, decide_eq_false e2]
      exact ⟨_, G _ _, rfl⟩
  · rw [if_neg e1, decide_eq_false e1, Bool.false_and]
    exact ⟨_, G _ _, rfl⟩
def twoV (a : TA) (x y t n : Nat) : Int32 := if okT a x y t n 0 0 then nI 0 else if okT a x y t n 0 1 then nI 1 else if okT a x y t n 1 0 then nI 10 else if okT a x y t n 1 1 then nI 11 else -9
theorem x_two {N : Nat} (hN : 2000 ≤ N) {g : GS} (hg : GI g) {mind : TA} (hm : Good mind) (pr : FA) {x y t n : Nat} (hx : x < aN g.1) (hy : y < aN g.1) (ht : t < 8) (hn6 : n ≤ 60) : ∃ b, Good b ∧ F_X2_two_92 N N (xs g mind pr) (nI x) (nI y) (nI t) (nI n) (nI 0) = some (twoV g.1 x y t n, xs g b pr) := by
  have inner : ∀ (mind : TA), Good mind → ∀ p, p ≤ 1 → ∀ k92 : XS → Int32 → Int32 → Int32 → Int32 → Int32 → Option (Int32 × XS), ∃ b, Good b ∧ F_X2_two_101 N k92 N (xs g mind pr) (nI x) (nI y) (nI t) (nI n) (nI p) (nI 0) = if okT g.1 x y t n p 0 then some (nI (10 * p + 0), xs g b pr) else if okT g.1 x y t n p 1 then some (nI (10 * p + 1), xs g b pr) else k92 (xs g b pr) (nI x) (nI y) (nI t) (nI n) (nI (p + 1)) := by
    intro mind hm p hp k92
    obtain ⟨k, hk⟩ : ∃ k, N = k + 3 := ⟨N - 3, by omega⟩
    obtain ⟨b1, h1, e1⟩ := x_two1 hN hg hm pr hx hy hp (show 0 ≤ 1 by decide) ht hn6 (k + 2) k92
    rw [← hk] at e1
    cases o1 : okT g.1 x y t n p 0
    · rw [o1, if_neg (show ¬ false = true by decide)] at e1
      obtain ⟨b2, h2, e2⟩ := x_two1 hN hg h1 pr hx hy hp (show 1 ≤ 1 by decide) ht hn6 (k + 1) k92
      cases o2 : okT g.1 x y t n p 1
      · rw [o2, if_neg (show ¬ false = true by decide)] at e2
        refine ⟨b2, h2, e1.trans (e2.trans ?_)⟩
        show F_X2_two_101 N k92 (k + 1) (xs g b2 pr) (nI x) (nI y) (nI t) (nI n) (nI p) (nI 2) = k92 (xs g b2 pr) (nI x) (nI y) (nI t) (nI n) (nI (p + 1))
        rw [F_X2_two_101, if_pos (by decide)]
        unfold F_X2_two_217
        try rw [nI_add]
      · rw [o2, if_pos (rfl : true = true)] at e2
        exact ⟨b2, h2, e1.trans e2⟩
    · rw [o1, if_pos (rfl : true = true)] at e1
      exact ⟨b1, h1, e1⟩
  obtain ⟨k, hk⟩ : ∃ k, N = k + 3 := ⟨N - 3, by omega⟩
  have hu : ∀ k' (xw : XS) (p : Int32), ¬ nI 1 < p → F_X2_two_92 N (k' + 1) xw (nI x) (nI y) (nI t) (nI n) p = F_X2_two_101 N (fun ctW cx1 cx2 cx3 cx4 cx5 => F_X2_two_92 N k' ctW cx1 cx2 cx3 cx4 cx5) N xw (nI x) (nI y) (nI t) (nI n) p (nI 0) := by
    intro k' xw p hp
    rw [F_X2_two_92, if_neg hp]
  have e0 := hu (k + 2) (xs g mind pr) (nI 0) (by decide)
  obtain ⟨b1, h1, e1⟩ := inner mind hm 0 (by decide) (fun ctW cx1 cx2 cx3 cx4 cx5 => F_X2_two_92 N (k + 2) ctW cx1 cx2 cx3 cx4 cx5)
  obtain ⟨b2, h2, e2⟩ := inner b1 h1 1 (by decide) (fun ctW cx1 cx2 cx3 cx4 cx5 => F_X2_two_92 N (k + 1) ctW cx1 cx2 cx3 cx4 cx5)
  have e3 := hu (k + 1) (xs g b1 pr) (nI 1) (by decide)
  have e4 : F_X2_two_92 N (k + 1) (xs g b2 pr) (nI x) (nI y) (nI t) (nI n) (nI 2) = some (-9, xs g b2 pr) := by
    rw [F_X2_two_92, if_pos (by decide)]
  have e5 : F_X2_two_92 N N (xs g mind pr) (nI x) (nI y) (nI t) (nI n) (nI 0) = F_X2_two_92 N (k + 2 + 1) (xs g mind pr) (nI x) (nI y) (nI t) (nI n) (nI 0) := congrArg (fun q => F_X2_two_92 N q (xs g mind pr) (nI x) (nI y) (nI t) (nI n) (nI 0)) hk
  rw [e5, e0, e1]
  unfold twoV
  cases o1 : okT g.1 x y t n 0 0
  · rw [if_neg (show ¬ false = true by decide), if_neg (show ¬ false = true by decide)]
    cases o2 : okT g.1 x y t n 0 1
    · rw [if_neg (show ¬ false = true by decide), if_neg (show ¬ false = true by decide)]
      show ∃ b, Good b ∧ F_X2_two_92 N (k + 1 + 1) (xs g b1 pr) (nI x) (nI y) (nI t) (nI n) (nI 1) = _
      rw [e3, e2]
      cases o3 : okT g.1 x y t n 1 0
      · rw [if_neg (show ¬ false = true by decide), if_neg (show ¬ false = true by decide)]
        cases o4 : okT g.1 x y t n 1 1
        · rw [if_neg (show ¬ false = true by decide), if_neg (show ¬ false = true by decide)]
          exact ⟨b2, h2, e4⟩
        · exact ⟨b2, h2, rfl⟩
      · exact ⟨b2, h2, rfl⟩
    · exact ⟨b1, h1, rfl⟩
  · exact ⟨b1, h1, rfl⟩
theorem y_two1 {N : Nat} (hN : 2000 ≤ N) {g : GS} (hg : GI g) {m : TA} (hm : Good m) (was : TA) (pl ma : Int32) (nu to : FA) (se : Int32) {x p y q t n : Nat} (hx : x < aN g.1) (hy : y < aN g.1) (hp : p ≤ 1) (hq : q ≤ 1) (ht : t < 8) (hn6 : n ≤ 60) (k : Nat) : ∃ b, Good b ∧ F_X3_two_75 N (k + 1) (ys g m was pl ma nu to se) (nI x) (nI y) (nI t) (nI n) (nI (2 * p + q)) = if okT g.1 x y t n p q then some (nI (10 * p + q), ys g b was pl ma nu to se) else F_X3_two_75 N k (ys g b was pl ma nu to se) (nI x) (nI y) (nI t) (nI n) (nI (2 * p + q + 1)) := by
  have hn := hg.1.1
  have h9 := hg.2.1
  have G : ∀ p q, Good (yearsF (imT g.1 x p y q t) n) := fun p q => Good_years (Good_imT hg.1 hx hy ht).1 n (by rw [(Good_imT hg.1 hx hy ht).2.1]; omega)
  have c1 := chB_le g.1 x x (1 - p) y q t n
  have c2 := chB_le g.1 x x p y q t n
  have c3 := chB_le g.1 y x p y (1 - q) t n
  have c4 := chB_le g.1 y x p y q t n
  have d1 : nI (2 * p + q) / nI 2 = nI p := by
    rw [pk_div (by omega) (by decide) (by decide)]
    congr 1; omega
  have d2 : nI (2 * p + q) - nI (2 * p + q) / nI 2 * nI 2 = nI q := by
    try rw [q_rem (by omega) (by decide) (by decide)]
    congr 1; omega
  rw [F_X3_two_75, d2, d1, if_neg (by rw [q_le (by decide) (by omega)]; omega), q_sub hp]
  rw [y_chB hN hg hm was pl ma nu to se hx hx hy (show 1 - p ≤ 1 by omega) hq ht hn6]
  try simp only [q_bs]
  show ∃ b, Good b ∧ ((F_X3_chapterBy N (ys g (yearsF (imT g.1 x (1 - p) y q t) n) was pl ma nu to se) (nI x) (nI x) (nI p) (nI y) (nI q) (nI t) (nI n)).bind fun r120 => if r120.1 < nI (chB g.1 x x (1 - p) y q t n) then _ else _) = _
  rw [y_chB hN hg (G (1 - p) q) was pl ma nu to se hx hx hy hp hq ht hn6]
  try simp only [q_bs]
  unfold F_X3_two_131 F_X3_two_171 F_X3_two_180
  show ∃ b, Good b ∧ (if nI (chB g.1 x x p y q t n) < nI (chB g.1 x x (1 - p) y q t n) then _ else (if nI 1 = 0 then _ else (F_X3_chapterBy N (ys g (yearsF (imT g.1 x p y q t) n) was pl ma nu to se) (nI y) (nI x) (nI p) (nI y) (nI 1 - nI q) (nI t) (nI n)).bind _)) = _
  rw [q_sub hq, y_chB hN hg (G p q) was pl ma nu to se hy hx hy hp (show 1 - q ≤ 1 by omega) ht hn6]
  try simp only [q_bs]
  rw [i_lt (by omega) (by omega)]
  try rw [nI_add]
  rw [nI_code]
  unfold okT
  by_cases e1 : chB g.1 x x (1 - p) y q t n ≤ chB g.1 x x p y q t n
  · rw [if_neg (show ¬ chB g.1 x x p y q t n < chB g.1 x x (1 - p) y q t n by omega), decide_eq_true e1, Bool.true_and, if_neg (show ¬ nI 1 = 0 by decide)]
    show ∃ b, Good b ∧ ((F_X3_chapterBy N (ys g (yearsF (imT g.1 x p y (1 - q) t) n) was pl ma nu to se) (nI y) (nI x) (nI p) (nI y) (nI q) (nI t) (nI n)).bind fun r165 => if r165.1 < nI (chB g.1 y x p y (1 - q) t n) then _ else _) = _
    rw [y_chB hN hg (G p (1 - q)) was pl ma nu to se hy hx hy hp hq ht hn6]
    try simp only [q_bs]
    show ∃ b, Good b ∧ (if nI (chB g.1 y x p y q t n) < nI (chB g.1 y x p y (1 - q) t n) then _ else _) = _
    rw [i_lt (by omega) (by omega)]
    by_cases e2 : chB g.1 y x p y (1 - q) t n ≤ chB g.1 y x p y q t n
    · rw [if_neg (show ¬ chB g.1 y x p y q t n < chB g.1 y x p y (1 - q) t n by omega), decide_eq_true e2]
      exact ⟨_, G _ _, rfl⟩
    · rw [if_pos (show chB g.1 y x p y q t n < chB g.1 y x p y (1 - q) t n by omega), decide_eq_false e2]
      exact ⟨_, G _ _, rfl⟩
  · rw [if_pos (show chB g.1 x x p y q t n < chB g.1 x x (1 - p) y q t n by omega), decide_eq_false e1, Bool.false_and]
    exact ⟨_, G _ _, rfl⟩
theorem y_two {N : Nat} (hN : 2000 ≤ N) {g : GS} (hg : GI g) {m : TA} (hm : Good m) (was : TA) (pl ma : Int32) (nu to : FA) (se : Int32) {x y t n : Nat} (hx : x < aN g.1) (hy : y < aN g.1) (ht : t < 8) (hn6 : n ≤ 60) : ∃ b, Good b ∧ F_X3_two_75 N N (ys g m was pl ma nu to se) (nI x) (nI y) (nI t) (nI n) (nI 0) = some (twoV g.1 x y t n, ys g b was pl ma nu to se) := by
  obtain ⟨k, hk⟩ : ∃ k, N = k + 5 := ⟨N - 5, by omega⟩
  have e0 : F_X3_two_75 N N (ys g m was pl ma nu to se) (nI x) (nI y) (nI t) (nI n) (nI 0) = F_X3_two_75 N (k + 4 + 1) (ys g m was pl ma nu to se) (nI x) (nI y) (nI t) (nI n) (nI 0) := congrArg (fun q => F_X3_two_75 N q (ys g m was pl ma nu to se) (nI x) (nI y) (nI t) (nI n) (nI 0)) hk
  obtain ⟨b1, h1, e1⟩ := y_two1 hN hg hm was pl ma nu to se hx hy (show 0 ≤ 1 by decide) (show 0 ≤ 1 by decide) ht hn6 (k + 4)
  obtain ⟨b2, h2, e2⟩ := y_two1 hN hg h1 was pl ma nu to se hx hy (show 0 ≤ 1 by decide) (show 1 ≤ 1 by decide) ht hn6 (k + 3)
  obtain ⟨b3, h3, e3⟩ := y_two1 hN hg h2 was pl ma nu to se hx hy (show 1 ≤ 1 by decide) (show 0 ≤ 1 by decide) ht hn6 (k + 2)
  obtain ⟨b4, h4, e4⟩ := y_two1 hN hg h3 was pl ma nu to se hx hy (show 1 ≤ 1 by decide) (show 1 ≤ 1 by decide) ht hn6 (k + 1)
  have e5 : F_X3_two_75 N (k + 1) (ys g b4 was pl ma nu to se) (nI x) (nI y) (nI t) (nI n) (nI 4) = some (-9, ys g b4 was pl ma nu to se) := by
    rw [F_X3_two_75, if_pos (by decide)]
  rw [e0]
  unfold twoV
  cases o1 : okT g.1 x y t n 0 0
  · rw [o1, if_neg (show ¬ false = true by decide)] at e1
    rw [if_neg (show ¬ false = true by decide)]
    cases o2 : okT g.1 x y t n 0 1
    · rw [o2, if_neg (show ¬ false = true by decide)] at e2
      rw [if_neg (show ¬ false = true by decide)]
      cases o3 : okT g.1 x y t n 1 0
      · rw [o3, if_neg (show ¬ false = true by decide)] at e3
        rw [if_neg (show ¬ false = true by decide)]
        cases o4 : okT g.1 x y t n 1 1
        · rw [o4, if_neg (show ¬ false = true by decide)] at e4
          rw [if_neg (show ¬ false = true by decide)]
          exact ⟨b4, h4, e1.trans (e2.trans (e3.trans (e4.trans e5)))⟩
        · rw [o4, if_pos (rfl : true = true)] at e4
          exact ⟨b4, h4, e1.trans (e2.trans (e3.trans e4))⟩
      · rw [o3, if_pos (rfl : true = true)] at e3
        exact ⟨b3, h3, e1.trans (e2.trans e3)⟩
    · rw [o2, if_pos (rfl : true = true)] at e2
      exact ⟨b2, h2, e1.trans e2⟩
  · rw [o1, if_pos (rfl : true = true)] at e1
    exact ⟨b1, h1, e1⟩
theorem y27 (N : Nat) (y : MS) (x1 x2 x3 x4 : Int32) {p : Int32} (hp : ¬ p = 0) : F_X3_two_27 N y x1 x2 x3 x4 p = (F_X3_no N y p).bind fun r => some (r.1, r.2) := by
  unfold F_X3_two_27 F_X3_two_60
  rw [if_pos hp, if_neg hp]
theorem s_two {N : Nat} (hN : 2000 ≤ N) {g : GS} {x : XS} {y : MS} (hx : XR g x) (hy : MR g y) (hg : GI g) (p q r w : Int32) : Both (F_X2_two N x p q r w) (F_X3_two N y p q r w) := by
  have hno1 := both_no N hx hy hg c1
  have hno3 := both_no N hx hy hg c3
  have hno4 := both_no N hx hy hg c4
  have hno6 := both_no N hx hy hg c6
  have hn := hg.1.1
  unfold F_X2_two F_X3_two F_X2_two_28 F_X2_two_82 F_X3_areTwo
  have z1 : nI 0 = 0 := rfl
  have z2 : ¬ nI 1 = 0 := by decide
  have z3 : bI true = nI 1 := rfl
  have z4 : bI false = nI 0 := rfl
  have z5 : (!true) = false := rfl
  have z6 : (!false) = true := rfl
  rcases arg_cases p with hp | ⟨i, hi, rfl⟩
  · rw [x_noCit_neg N x hp, f_isCit_neg N y hp]
    try simp only [q_bs]
    try simp only [q_bs]
    rw [if_pos z2, if_pos z1]
    try simp only [q_bs]
    rw [if_pos z1, y27 N y p q r w (show ¬ (-1 : Int32) = 0 by decide)]
    exact hno1
  · obtain ⟨mind, pr, hm, rfl⟩ := hx
    obtain ⟨m, was, pl, ma, nu, to, se, h3, h4, rfl⟩ := hy
    rw [x_noCit N g mind pr hg hi, f_isCit N _ g.1 rfl hg.1 hi]
    try simp only [q_bs]
    try simp only [q_bs]
    by_cases h : i < aN g.1
    · rw [decide_eq_true h, z5, z3, z4, if_neg (fun e => e z1), if_neg z2]
      rcases arg_cases q with hq | ⟨j, hj, rfl⟩
      · rw [x_noCit_neg N _ hq, f_isCit_neg N _ hq]
        try simp only [q_bs]
        try simp only [q_bs]
        rw [if_pos z2, if_pos z1]
        try simp only [q_bs]
        rw [if_pos z1, y27 N _ _ _ _ _ (show ¬ (-1 : Int32) = 0 by decide)]
        exact hno1
      · rw [x_noCit N g mind pr hg hj, f_isCit N _ g.1 rfl hg.1 hj]
        try simp only [q_bs]
        try simp only [q_bs]
        by_cases h2 : j < aN g.1
        · rw [decide_eq_true h2, z5, z3, z4, if_neg (fun e => e z1), if_neg z2, i_eq hi hj, i_eq hi hj]
          by_cases hij : i = j
          · rw [if_pos hij, if_pos hij]
            try simp only [q_bs]
            rw [if_pos z1, y27 N _ _ _ _ _ (show ¬ (-1 : Int32) = 0 by decide)]
            exact hno1
          · rw [if_neg hij, if_neg hij]
            try simp only [q_bs]
            rw [if_neg z2]
            rcases arg_cases r with hr | ⟨t, ht, rfl⟩
            · rw [g_noTopic_neg N hr, f_isTopic_neg N hr]
              try simp only [q_bs]
              try simp only [q_bs]
              rw [if_neg z2, if_pos z1, y27 N _ _ _ _ _ (show ¬ (-1 : Int32) = 0 by decide)]
              exact hno1
            · rw [g_noTopic N ht, f_isTopic N ht]
              try simp only [q_bs]
              try simp only [q_bs]
              by_cases h5 : t < 8
              · rw [decide_eq_true h5, z5, z3, z4, if_pos z1, if_neg z2]
                rcases arg_cases w with hw | ⟨n, hn2, rfl⟩
                · rw [if_neg (neg_ge hw), f_wrong_neg N hw]
                  try simp only [q_bs]
                  rw [y27 N _ _ _ _ _ (show ¬ (-4 : Int32) = 0 by decide)]
                  exact hno4
                · rw [i_ge0 hn2, if_pos trivial, f_wrong N hn2 (by decide)]
                  try simp only [q_bs]
                  rw [i_le hn2 (by decide)]
                  by_cases h6 : n ≤ 60
                  · rw [if_pos h6, if_pos h6]
                    unfold F_X3_two_27 F_X3_two_56 F_X3_two_60
                    rw [if_neg (fun e => e z1)]
                    have l1 := live_al h
                    have l2 := live_al h2
                    show Both ((F_X1_isLiving N (TW g.1) (nI i)).bind fun r65 => if r65 = 0 then _ else (F_X1_isLiving N (TW g.1) (nI j)).bind _) ((F_X3_isAlive N (em g.1) (nI i)).bind fun r39 => if r39 = 0 then _ else (F_X3_isAlive N (em g.1) (nI j)).bind _)
                    rw [g_isLiving N hg.1 hi, g_isLiving N hg.1 hj, f_isAlive N g.1 (by omega), f_isAlive N g.1 (by omega), l1, l2]
                    try simp only [q_bs]
                    try simp only [q_bs]
                    try simp only [q_bs]
                    try simp only [q_bs]
                    cases aD g.1 i
                    · rw [z6, z3, if_neg z2, if_neg z2]
                      cases aD g.1 j
                      · obtain ⟨b, hb, e⟩ := x_two hN hg hm pr h h2 h5 h6
                        obtain ⟨m2, hm2, e2⟩ := y_two hN hg h3 was pl ma nu to se h h2 h5 h6
                        rw [z6, z3, if_pos z2, if_pos z2, if_pos z1, e, e2]
                        exact ⟨_, g, _, _, rfl, rfl, XR.mk b pr hb rfl, MR.mk m2 was pl ma nu to se hm2 h4 rfl, hg⟩
                      · rw [z5, z4, if_neg (fun e => e z1), if_neg (fun e => e z1), if_neg (show ¬ (-3 : Int32) = 0 by decide)]
                        exact hno3
                    · rw [z5, z4, if_pos z1, if_pos z1, if_neg (show ¬ (-3 : Int32) = 0 by decide)]
                      exact hno3
                  · rw [if_neg h6, if_neg h6, y27 N _ _ _ _ _ (show ¬ (-6 : Int32) = 0 by decide)]
                    exact hno6
              · rw [decide_eq_false h5, z6, z3, z4, if_neg z2, if_pos z1, y27 N _ _ _ _ _ (show ¬ (-1 : Int32) = 0 by decide)]
                exact hno1
        · rw [decide_eq_false h2, z6, z3, z4, if_pos z2, if_pos z1]
          try simp only [q_bs]
          rw [if_pos z1, y27 N _ _ _ _ _ (show ¬ (-1 : Int32) = 0 by decide)]
          exact hno1
    · rw [decide_eq_false h, z6, z3, z4, if_pos z2, if_pos z1]
      try simp only [q_bs]
      rw [if_pos z1, y27 N _ _ _ _ _ (show ¬ (-1 : Int32) = 0 by decide)]
      exact hno1
