/-! a year -/
def lifeOf (k f : Nat) : Nat := match k with
  | 1 => 50 + f
  | 2 => 80 + f
  | 3 => 60 + f
  | 4 => 65 + f
  | 5 => 85 + f
  | _ => 60 + f
theorem lifeOf_le {k f : Nat} (hf : f ≤ 9) : lifeOf k f ≤ 94 ∧ 50 ≤ lifeOf k f := by
  unfold lifeOf; split <;> omega
theorem f_life (N : Nat) {k f : Nat} (hk : k ≤ 5) : F_X3_life N (nI k) (nI f) = some (nI (lifeOf k f)) := by
  unfold F_X3_life
  try rw [nI_add]
  try rw [nI_add]
  try rw [nI_add]
  try rw [nI_add]
  try rw [nI_add]
  rcases (show k = 0 ∨ k = 1 ∨ k = 2 ∨ k = 3 ∨ k = 4 ∨ k = 5 by omega) with rfl | rfl | rfl | rfl | rfl | rfl <;> rfl
/-- whether he stands alone against two or more -/
def alone (a : TA) (t w : Nat) : Bool := decide (say a t w = 1) && decide (2 ≤ say a t (3 - w))
def thn (a : TA) (c t : Nat) : Nat :=
  match aK a c with
  | 1 => if aY a % (aF a c + 1) = 0 ∨ alone a t (aW a c t) = true then 0 else aW a c t
  | 2 => aW a c t
  | 3 => if alone a t (aW a c t) = true then 3 - aW a c t else aW a c t
  | 4 => if aY a % (aF a c + 2) = 0 ∨ alone a t (aW a c t) = true then 3 - aW a c t else aW a c t
  | 5 => if say a t (3 - aW a c t) = 0 then 0 else aW a c t
  | _ => if alone a t (aW a c t) = true then 0 else aW a c t
theorem thn_le {a : TA} {c t : Nat} (h : aW a c t ≤ 2) (h0 : aW a c t ≠ 0) : thn a c t ≤ 2 := by
  unfold thn
  split <;> (try split) <;> omega
theorem f_then {N : Nat} (hN : 2000 ≤ N) {a : TA} (hg : Good a) {c t : Nat} (hc : c < 6) (ht : t < 8) : F_X3_then N (em a) (nI c) (nI t) = some (nI (thn a c t)) := by
  have hx := ix_lt (c := c) (w := 4 + t) hc (by omega)
  have hx0 := ix_lt (c := c) (w := 0) hc (by omega)
  have hx1 := ix_lt (c := c) (w := 1) hc (by omega)
  obtain ⟨hn, hy, hk, hf, ha, hw, -, -⟩ := id hg
  have hw := hw c t
  have hk := hk c
  have hf := hf c
  have s1 := say_le a t (aW a c t)
  have s2 := say_le a t (3 - aW a c t)
  unfold F_X3_then
  try rw [nI_add 4 t]
  try rw [f_of]
  try simp only [q_bs]
  repeat rw [q_ck hx (by decide)]
  repeat rw [q_cl (by omega)]
  try rw [em_w a c ht]
  try rw [f_of]
  try simp only [q_bs]
  repeat rw [q_ck hx1 (by decide)]
  rw [q_sub (by omega), f_saying hN hg ht (by omega)]
  try simp only [q_bs]
  rw [f_saying hN hg ht (by omega)]
  try simp only [q_bs]
  repeat rw [q_cl (by omega)]
  try rw [em_f]
  first | rw [i_eq (by omega) (by omega)] | rw [i_ne (by omega) (by omega)]
  rw [i_lt (by omega) (by omega)]
  have key : ∀ z : Bool, F_X3_then_50 N (em a) (nI c) (nI (aW a c t)) (nI (aF a c)) (nI (say a t (3 - aW a c t))) (bI z) = some (nI (match aK a c with
    | 1 => if aY a % (aF a c + 1) = 0 ∨ z = true then 0 else aW a c t
    | 2 => aW a c t
    | 3 => if z = true then 3 - aW a c t else aW a c t
    | 4 => if aY a % (aF a c + 2) = 0 ∨ z = true then 3 - aW a c t else aW a c t
    | 5 => if say a t (3 - aW a c t) = 0 then 0 else aW a c t
    | _ => if z = true then 0 else aW a c t)) := by
    intro z
    have hm1 : aY a % (aF a c + 1) < 100 := Nat.lt_of_lt_of_le (Nat.mod_lt _ (by omega)) (by omega)
    have hm2 : aY a % (aF a c + 2) < 100 := Nat.lt_of_lt_of_le (Nat.mod_lt _ (by omega)) (by omega)
    unfold F_X3_then_50 F_X3_then_145
    try rw [f_of]
    try simp only [q_bs]
    repeat rw [q_ck hx0 (by decide)]
    repeat rw [q_cl (by omega)]
    try rw [em_k]
    try rw [q_c1]
    try rw [em_1]
    try rw [nI_add]
    try rw [nI_add]
    try rw [q_ckZ (by omega) (by omega)]
    try rw [q_ckZ (by omega) (by omega)]
    try rw [q_rem (by omega) (by omega) (by omega)]
    try rw [q_rem (by omega) (by omega) (by omega)]
    first | rw [i_eq0 (by omega)] | rw [i_ne0 (by omega)]
    first | rw [i_eq0 (by omega)] | rw [i_ne0 (by omega)]
    rw [q_sub (by omega)]
    repeat (first | rw [i_b0] | rw [i_nb0])
    first | rw [i_eq0 (by omega)] | rw [i_ne0 (by omega)]
    generalize aY a % (aF a c + 1) = m1 at *
    generalize aY a % (aF a c + 2) = m2 at *
    generalize say a t (3 - aW a c t) = sg at *
    rcases (show aK a c = 0 ∨ aK a c = 1 ∨ aK a c = 2 ∨ aK a c = 3 ∨ aK a c = 4 ∨ aK a c = 5 by omega) with e | e | e | e | e | e <;> rw [e]
    · rw [if_neg (by decide), if_neg (by decide), if_neg (by decide), if_neg (by decide), if_neg (by decide)]
      cases z <;> rfl
    · rw [if_pos (by first | rfl | decide)]
      by_cases h : m1 = 0
      · rw [if_pos h]; simp [h]
      · rw [if_neg h]; cases z <;> simp [h]
    · rw [if_neg (by decide), if_pos (by first | rfl | decide)]; rfl
    · rw [if_neg (by decide), if_neg (by decide), if_pos (by first | rfl | decide)]
      cases z <;> rfl
    · rw [if_neg (by decide), if_neg (by decide), if_neg (by decide), if_pos (by first | rfl | decide)]
      by_cases h : m2 = 0
      · rw [if_pos h]; simp [h]
      · rw [if_neg h]; cases z <;> simp [h]
    · rw [if_neg (by decide), if_neg (by decide), if_neg (by decide), if_neg (by decide), if_pos (by first | rfl | decide)]
      by_cases h : sg = 0
      · rw [if_neg (fun h2 => h2 h)]; simp [h]
      · rw [if_pos h]; simp [h]
  have e0 : nI 0 = bI false := rfl
  have e1 : nI 1 = bI true := rfl
  unfold thn alone
  by_cases h1 : say a t (aW a c t) = 1
  · by_cases h2 : say a t (3 - aW a c t) < 2
    · rw [if_neg (fun h => h h1), if_pos h2, e0, key, decide_eq_true h1, decide_eq_false (show ¬ 2 ≤ say a t (3 - aW a c t) by omega)]; rfl
    · rw [if_neg (fun h => h h1), if_neg h2]
      have := key true
      rw [show bI true = nI 1 from rfl] at this
      rw [this, decide_eq_true h1, decide_eq_true (show 2 ≤ say a t (3 - aW a c t) by omega)]; rfl
  · rw [if_pos h1, e0, key, decide_eq_false h1]; rfl

def ageK (a : TA) (c : Nat) : Nat := if live a c then min 99 (aA a c + 1) else aA a c
def diesK (a : TA) (c : Nat) : Bool := live a c && decide (lifeOf (aK a c) (aF a c) ≤ ageK a c)
def anyTo (f : Nat → Bool) : Nat → Bool
  | 0 => false
  | k + 1 => anyTo f k || f k
def rowA (a : TA) (i : Nat) : TA := (aN a, aY a + 1, aK a, aF a, fun c => if c < i then ageK a c else aA a c, fun c => if c < i then (aD a c || diesK a c) else aD a c, aW a)
def ageA (a : TA) : TA := (aN a, aY a + 1, aK a, aF a, ageK a, fun c => aD a c || diesK a c, aW a)
theorem updN_self {α : Type} (f : Nat → α) (k : Nat) : updN f k (f k) = f := by
  funext j
  unfold updN
  split
  · rename_i h; rw [h]
  · rfl
theorem updN_lt {α : Type} (f g : Nat → α) (i : Nat) : updN (fun c => if c < i then g c else f c) i (g i) = fun c => if c < i + 1 then g c else f c := by
  funext c
  unfold updN
  by_cases h : c = i
  · rw [if_pos h, if_pos (by omega), h]
  · rw [if_neg h]
    show (if c < i then g c else f c) = _
    by_cases h2 : c < i
    · rw [if_pos h2, if_pos (by omega)]
    · rw [if_neg h2, if_neg (by omega)]
theorem rowA_s (a : TA) (i : Nat) {v : Nat} {b : Bool} (hv : v = ageK a i) (hb : b = (aD a i || diesK a i)) : sD (sA (rowA a i) (updN (aA (rowA a i)) i v)) (updN (aD (rowA a i)) i b) = rowA a (i + 1) := by
  subst hv hb
  unfold rowA
  show (_, _, _, _, updN (fun c => if c < i then ageK a c else aA a c) i (ageK a i), updN (fun c => if c < i then (aD a c || diesK a c) else aD a c) i (aD a i || diesK a i), _) = _
  rw [updN_lt (aA a) (ageK a) i, updN_lt (aD a) (fun c => aD a c || diesK a c) i]
theorem rowA_aA (a : TA) (i : Nat) : aA (rowA a i) i = aA a i := if_neg (Nat.lt_irrefl i)
theorem rowA_aD (a : TA) (i : Nat) : aD (rowA a i) i = aD a i := if_neg (Nat.lt_irrefl i)
theorem rowA_n (a : TA) : rowA a (aN a) = ageA a := by
  unfold rowA ageA
  refine Prod.ext rfl (Prod.ext rfl (Prod.ext rfl (Prod.ext rfl (Prod.ext ?_ (Prod.ext ?_ rfl)))))
  · funext c
    show (if c < aN a then ageK a c else aA a c) = ageK a c
    by_cases h : c < aN a
    · rw [if_pos h]
    · rw [if_neg h]; unfold ageK live; rw [decide_eq_false h]; rfl
  · funext c
    show (if c < aN a then (aD a c || diesK a c) else aD a c) = (aD a c || diesK a c)
    by_cases h : c < aN a
    · rw [if_pos h]
    · rw [if_neg h]; unfold diesK live; rw [decide_eq_false h]; simp
theorem rowA_0 (a : TA) : rowA a 0 = sY a (aY a + 1) := rfl
theorem year_1 {N : Nat} (hN : 2000 ≤ N) {a : TA} (hg : Good a) : F_X3_year_11 N N (em (sY a (aY a + 1))) (nI 1) (nI 0) = F_X3_year_96 N (em (ageA a)) (bI (!anyTo (diesK a) (aN a))) := by
  obtain ⟨hn, hy, hk, hf, ha, hw, -, -⟩ := id hg
  rw [← rowA_0, ← rowA_n]
  refine loop_up (fun n (x : FA × Int32 × Int32) => F_X3_year_11 N n x.1 x.2.1 x.2.2) (fun i => (em (rowA a i), bI (!anyTo (diesK a) i), nI i)) (aN a) _ ?_ ?_ N 0 (Nat.zero_le _) (by omega)
  · intro n i hi
    show F_X3_year_11 N (n + 1) (em (rowA a i)) (bI (!anyTo (diesK a) i)) (nI i) = F_X3_year_11 N n (em (rowA a (i + 1))) (bI (!(anyTo (diesK a) i || diesK a i))) (nI (i + 1))
    have h0 := ix_lt (c := i) (w := 0) (by omega) (by decide)
    have h1 := ix_lt (c := i) (w := 1) (by omega) (by decide)
    have h2 := ix_lt (c := i) (w := 2) (by omega) (by decide)
    have h3 := ix_lt (c := i) (w := 3) (by omega) (by decide)
    have hai := ha i
    have hli := lifeOf_le (k := aK a i) (hf i)
    rw [F_X3_year_11]
    try rw [q_c0]
    try rw [em_0]
    rw [show aN (rowA a i) = aN a from rfl, if_neg (by rw [q_le (by omega) (by omega)]; omega), f_isAlive N (rowA a i) (by omega)]
    try simp only [q_bs]
    repeat (first | rw [i_b0] | rw [i_nb0])
    rw [rowA_aD]
    unfold F_X3_year_90
    try rw [nI_add i 1]
    by_cases hd : aD a i = true
    · rw [hd, if_neg (fun h => h rfl)]
      have hl : live a i = false := by unfold live; rw [hd]; simp
      have e1 : diesK a i = false := by unfold diesK; rw [hl]; rfl
      have e2 := rowA_s a i (v := aA (rowA a i) i) (b := aD (rowA a i) i) (by rw [rowA_aA]; unfold ageK; rw [hl]; rfl) (by rw [rowA_aD, e1]; simp)
      rw [updN_self, updN_self] at e2
      rw [← e2, e1, Bool.or_false]
    · have hd : aD a i = false := by cases h : aD a i; rfl; exact absurd h hd
      have hl : live a i = true := by unfold live; rw [hd, decide_eq_true hi]; rfl
      have ea : ageK a i = min 99 (aA a i + 1) := by unfold ageK; rw [hl]; rfl
      rw [hd, if_pos (by decide)]
      try rw [f_of]
      try simp only [q_bs]
      try rw [f_of]
      try simp only [q_bs]
      repeat rw [q_ck h2 (by decide)]
      repeat rw [q_cl (by omega)]
      try rw [em_a]
      rw [rowA_aA]
      try rw [nI_add]
      rw [f_least N (by decide) (by omega)]
      try simp only [q_bs]
      repeat rw [q_ck h2 (by decide)]
      rw [em_sA]
      try simp only [q_bs]
      repeat rw [q_ck h2 (by decide)]
      try rw [f_of]
      try simp only [q_bs]
      repeat rw [q_ck h0 (by decide)]
      try rw [f_of]
      try simp only [q_bs]
      repeat rw [q_ck h1 (by decide)]
      repeat rw [q_cl (by omega)]
      repeat rw [q_cl (by omega)]
      try rw [em_k]
      try rw [em_f]
      show ((F_X3_life N (nI (aK a i)) (nI (aF a i))).bind _) = _
      rw [f_life N (hk i)]
      try simp only [q_bs]
      repeat rw [q_cl (by omega)]
      try rw [em_a]
      rw [← ea]
      show (if nI (lifeOf (aK a i) (aF a i)) ≤ nI (updN (aA (rowA a i)) i (ageK a i) i) then _ else _) = _
      rw [updN_s]
      rw [i_le (by omega) (by omega)]
      by_cases hx : lifeOf (aK a i) (aF a i) ≤ ageK a i
      · have e1 : diesK a i = true := by unfold diesK; rw [hl, decide_eq_true hx]; rfl
        have e2 := rowA_s a i (v := ageK a i) (b := true) rfl (by rw [e1]; simp)
        rw [if_pos hx]
        try simp only [q_bs]
        repeat rw [q_ck h3 (by decide)]
        repeat rw [q_cl (by omega)]
        rw [show nI 1 = nI true.toNat from rfl, em_sD, ← e2, e1, Bool.or_true]; rfl
      · have e1 : diesK a i = false := by unfold diesK; rw [hl, decide_eq_false hx]; rfl
        have e2 := rowA_s a i (v := ageK a i) (b := aD (rowA a i) i) rfl (by rw [rowA_aD, e1]; simp)
        rw [updN_self] at e2
        rw [if_neg hx, ← e2, e1, Bool.or_false]
  · intro n
    show F_X3_year_11 N (n + 1) (em (rowA a (aN a))) (bI (!anyTo (diesK a) (aN a))) (nI (aN a)) = _
    rw [F_X3_year_11]
    try rw [q_c0]
    try rw [em_0]
    rw [show aN (rowA a (aN a)) = aN a from rfl, if_pos (by rw [q_le (by omega) (by omega)]; exact Nat.le_refl _)]
theorem Good_age {a : TA} (h : Good a) (hy : aY a + 1 < 100000) : Good (ageA a) := by
  obtain ⟨hn, -, hk, hf, ha, hw, ht, h8⟩ := h
  refine ⟨hn, hy, hk, hf, fun c => ?_, hw, fun c hc => ?_, h8⟩
  · show ageK a c ≤ 99
    unfold ageK
    have := ha c
    split
    · exact Nat.min_le_left _ _
    · exact this
  · have hl : live a c = false := by unfold live; rw [decide_eq_false (show ¬ c < aN a from Nat.not_lt.mpr hc)]; rfl
    obtain ⟨t1, t2, t3, t4, t5⟩ := ht c hc
    refine ⟨t1, t2, ?_, ?_, t5⟩
    · show ageK a c = 0
      unfold ageK; rw [hl]; exact t3
    · show (aD a c || diesK a c) = false
      unfold diesK; rw [hl, t4]; rfl
/-- one thinks again of one topic -/
def turn1 (a : TA) (c t : Nat) : TA := if live a c && (aW a c t != 0) then sW a (updW (aW a) c t (thn a c t)) else a
def turns1 (a : TA) (c t : Nat) : Bool := live a c && (aW a c t != 0) && (thn a c t != aW a c t)
def turnC (a : TA) (c : Nat) : Nat → TA
  | 0 => a
  | t + 1 => turn1 (turnC a c t) c t
def turnsC (a : TA) (c : Nat) : Nat → Bool
  | 0 => false
  | t + 1 => turnsC a c t || turns1 (turnC a c t) c t
def turnA (a : TA) : Nat → TA
  | 0 => a
  | c + 1 => turnC (turnA a c) c 8
def turnsA (a : TA) : Nat → Bool
  | 0 => false
  | c + 1 => turnsA a c || turnsC (turnA a c) c 8
def yearF (a : TA) : TA := turnA (ageA a) (aN a)
def changes (a : TA) : Bool := anyTo (diesK a) (aN a) || turnsA (ageA a) (aN a)
theorem Good_turn1 {a : TA} (h : Good a) {c t : Nat} (hc : c < aN a) (ht : t < 8) : Good (turn1 a c t) := by
  unfold turn1
  split
  · rename_i hl
    have hne : aW a c t ≠ 0 := by
      intro e; rw [e] at hl; simp at hl
    obtain ⟨hn, hy, hk, hf, ha, hw, h0, h8⟩ := h
    refine ⟨hn, hy, hk, hf, ha, fun i j => ?_, fun i hi => ?_, fun i j hj => ?_⟩
    · show updW (aW a) c t (thn a c t) i j ≤ 2
      unfold updW
      split
      · exact thn_le (hw c t) hne
      · exact hw i j
    · obtain ⟨t1, t2, t3, t4, t5⟩ := h0 i hi
      refine ⟨t1, t2, t3, t4, fun j => ?_⟩
      show updW (aW a) c t (thn a c t) i j = 0
      unfold updW
      rw [if_neg (fun e => by have := e.1; have hi : aN a ≤ i := hi; omega)]
      exact t5 j
    · show updW (aW a) c t (thn a c t) i j = 0
      unfold updW
      rw [if_neg (fun e => by omega)]
      exact h8 i j hj
  · exact h
theorem turn1_n (a : TA) (c t : Nat) : aN (turn1 a c t) = aN a ∧ aY (turn1 a c t) = aY a ∧ aD (turn1 a c t) = aD a := by
  unfold turn1; split <;> exact ⟨rfl, rfl, rfl⟩
theorem turnC_n (a : TA) (c : Nat) : ∀ t, aN (turnC a c t) = aN a ∧ aY (turnC a c t) = aY a ∧ aD (turnC a c t) = aD a := by
  intro t
  induction t with
  | zero => exact ⟨rfl, rfl, rfl⟩
  | succ t ih =>
    have := turn1_n (turnC a c t) c t
    exact ⟨this.1.trans ih.1, this.2.1.trans ih.2.1, this.2.2.trans ih.2.2⟩
theorem turnA_n (a : TA) : ∀ c, aN (turnA a c) = aN a ∧ aY (turnA a c) = aY a ∧ aD (turnA a c) = aD a := by
  intro c
  induction c with
  | zero => exact ⟨rfl, rfl, rfl⟩
  | succ c ih =>
    have := turnC_n (turnA a c) c 8
    rw [show turnA a (c + 1) = turnC (turnA a c) c 8 from rfl]
    generalize turnC (turnA a c) c 8 = q at *
    exact ⟨this.1.trans ih.1, this.2.1.trans ih.2.1, this.2.2.trans ih.2.2⟩
theorem Good_turnC {a : TA} (h : Good a) {c : Nat} (hc : c < aN a) : ∀ t, t ≤ 8 → Good (turnC a c t) := by
  intro t
  induction t with
  | zero => intro _; exact h
  | succ t ih => intro ht; exact Good_turn1 (ih (by omega)) (by rw [(turnC_n a c t).1]; exact hc) (by omega)
theorem Good_turnA {a : TA} (h : Good a) : ∀ c, c ≤ aN a → Good (turnA a c) := by
  intro c
  induction c with
  | zero => intro _; exact h
  | succ c ih =>
    intro hc
    rw [show turnA a (c + 1) = turnC (turnA a c) c 8 from rfl]
    exact Good_turnC (ih (by omega)) (by rw [(turnA_n a c).1]; omega) 8 (by decide)
theorem Good_year {a : TA} (h : Good a) (hy : aY a + 1 < 100000) : Good (yearF a) := Good_turnA (Good_age h hy) (aN a) (Nat.le_refl _)
theorem year_t {N : Nat} (hN : 2000 ≤ N) {a : TA} (hg : Good a) {c : Nat} (hc : c < aN a) (x : Bool) (k98 : FA → Int32 → Int32 → Option (Int32 × FA)) : F_X3_year_107 N k98 N (em a) (bI x) (nI c) (nI 0) = k98 (em (turnC a c 8)) (bI (x && !turnsC a c 8)) (nI (c + 1)) := by
  have hn := hg.1
  have e0 : ∀ y : Bool, (y && !false) = y := by intro y; cases y <;> rfl
  have h2 : F_X3_year_107 N k98 N (em a) (bI (x && !false)) (nI c) (nI 0) = k98 (em (turnC a c 8)) (bI (x && !turnsC a c 8)) (nI (c + 1)) := by
   refine loop_up (fun n (y : FA × Int32 × Int32) => F_X3_year_107 N k98 n y.1 y.2.1 (nI c) y.2.2) (fun i => (em (turnC a c i), bI (x && !turnsC a c i), nI i)) 8 _ ?_ ?_ N 0 (Nat.zero_le _) (by omega)
   · intro n t ht
     show F_X3_year_107 N k98 (n + 1) (em (turnC a c t)) (bI (x && !turnsC a c t)) (nI c) (nI t) = F_X3_year_107 N k98 n (em (turn1 (turnC a c t) c t)) (bI (x && !(turnsC a c t || turns1 (turnC a c t) c t))) (nI c) (nI (t + 1))
     have hb : Good (turnC a c t) := Good_turnC hg hc t (by omega)
     have hbn : aN (turnC a c t) = aN a := (turnC_n a c t).1
     generalize turnC a c t = b at *
     generalize turnsC a c t = sb at *
     have h4 := ix_lt (c := c) (w := 4 + t) (by omega) (by omega)
     have hw := hb.2.2.2.2.2.1 c t
     rw [F_X3_year_107, if_neg (by rw [q_le (by decide) (by omega)]; omega), f_isAlive N b (by omega)]
     try simp only [q_bs]
     repeat (first | rw [i_b0] | rw [i_nb0])
     unfold F_X3_year_164 F_X3_year_177
     try rw [nI_add t 1]
     by_cases hd : aD b c = true
     · have hl : live b c = false := by unfold live; rw [hd]; simp
       rw [hd, if_pos (by first | rfl | decide)]
       unfold turn1 turns1
       rw [hl]
       simp
     · have hd : aD b c = false := by cases h : aD b c; rfl; exact absurd h hd
       have hl : live b c = true := by unfold live; rw [hd, hbn, decide_eq_true hc]; rfl
       rw [hd, if_neg (by decide)]
       try rw [nI_add 4 t]
       try rw [f_of]
       try simp only [q_bs]
       repeat rw [q_ck h4 (by decide)]
       repeat rw [q_cl (by omega)]
       try rw [em_w b c ht]
       first | rw [i_eq0 (by omega)] | rw [i_ne0 (by omega)]
       by_cases h0 : aW b c t = 0
       · rw [if_neg (fun h => h h0)]
         unfold turn1 turns1
         rw [hl, h0]
         simp
       · have ht2 := thn_le hw h0
         rw [if_pos h0, f_then hN hb (by omega) ht]
         try simp only [q_bs]
         try simp only [q_bs]
         repeat rw [q_ck h4 (by decide)]
         repeat rw [q_cl (by omega)]
         try rw [em_w b c ht]
         first | rw [i_eq (by omega) (by omega)] | rw [i_ne (by omega) (by omega)]
         try simp only [q_bs]
         repeat rw [q_ck h4 (by decide)]
         rw [em_sW b c t _ ht]
         have eT : turn1 b c t = sW b (updW (aW b) c t (thn b c t)) := by
           unfold turn1
           rw [hl, if_pos]
           simp [h0]
         have eS : turns1 b c t = (thn b c t != aW b c t) := by
           unfold turns1
           rw [hl]
           simp [h0]
         rw [eT, eS]
         by_cases hq : thn b c t = aW b c t
         · rw [if_neg (fun h => h hq), hq]
           cases x <;> cases sb <;> simp <;> rfl
         · rw [if_pos hq]
           have : (thn b c t != aW b c t) = true := by simp [hq]
           rw [this]
           cases x <;> cases sb <;> simp <;> rfl
   · intro n
     show F_X3_year_107 N k98 (n + 1) (em (turnC a c 8)) (bI (x && !turnsC a c 8)) (nI c) (nI 8) = _
     rw [F_X3_year_107, if_pos (by decide)]
     unfold F_X3_year_183
     try rw [nI_add]
  rw [e0] at h2
  exact h2
theorem f_year {N : Nat} (hN : 2000 ≤ N) {a : TA} (hg : Good a) (hy : aY a + 1 < 100000) : F_X3_year N (em a) = some (bI (!changes a), em (yearF a)) := by
  unfold F_X3_year
  have hn := hg.1
  try rw [q_c1]
  try rw [em_1]
  try rw [nI_add]
  rw [em_sY, year_1 hN hg]
  unfold F_X3_year_96
  have hG := Good_age hg hy
  have e0 : ∀ y : Bool, (y && !false) = y := by intro y; cases y <;> rfl
  have k2 : F_X3_year_98 N N (em (ageA a)) (bI (!anyTo (diesK a) (aN a) && !false)) (nI 0) = some (bI (!changes a), em (yearF a)) := by
   refine loop_up (fun n (y : FA × Int32 × Int32) => F_X3_year_98 N n y.1 y.2.1 y.2.2) (fun i => (em (turnA (ageA a) i), bI (!anyTo (diesK a) (aN a) && !turnsA (ageA a) i), nI i)) (aN a) _ ?_ ?_ N 0 (Nat.zero_le _) (by omega)
   · intro n c hc
     show F_X3_year_98 N (n + 1) (em (turnA (ageA a) c)) (bI (!anyTo (diesK a) (aN a) && !turnsA (ageA a) c)) (nI c) = F_X3_year_98 N n (em (turnC (turnA (ageA a) c) c 8)) (bI (!anyTo (diesK a) (aN a) && !(turnsA (ageA a) c || turnsC (turnA (ageA a) c) c 8))) (nI (c + 1))
     have hb : Good (turnA (ageA a) c) := Good_turnA hG c (Nat.le_of_lt hc)
     have hbn : aN (turnA (ageA a) c) = aN a := (turnA_n (ageA a) c).1
     rw [F_X3_year_98]
     try rw [q_c0]
     try rw [em_0]
     rw [hbn, if_neg (by rw [q_le (by omega) (by omega)]; omega), year_t hN hb (by omega)]
     congr 2
     cases anyTo (diesK a) (aN a) <;> cases turnsA (ageA a) c <;> rfl
   · intro n
     show F_X3_year_98 N (n + 1) (em (turnA (ageA a) (aN a))) (bI (!anyTo (diesK a) (aN a) && !turnsA (ageA a) (aN a))) (nI (aN a)) = _
     have hbn : aN (turnA (ageA a) (aN a)) = aN a := (turnA_n (ageA a) (aN a)).1
     rw [F_X3_year_98]
     try rw [q_c0]
     try rw [em_0]
     rw [hbn, if_pos (by rw [q_le (by omega) (by omega)]; exact Nat.le_refl _)]
     try rw [q_ckB]
     unfold changes yearF
     rw [Bool.not_or]
  rw [e0] at k2
  exact k2
def yearsF (a : TA) : Nat → TA
  | 0 => a
  | n + 1 => yearF (yearsF a n)
theorem yearF_n (a : TA) : aN (yearF a) = aN a ∧ aY (yearF a) = aY a + 1 := ⟨(turnA_n (ageA a) (aN a)).1, (turnA_n (ageA a) (aN a)).2.1⟩
theorem yearsF_n (a : TA) : ∀ n, aN (yearsF a n) = aN a ∧ aY (yearsF a n) = aY a + n := by
  intro n
  induction n with
  | zero => exact ⟨rfl, rfl⟩
  | succ n ih => exact ⟨(yearF_n _).1.trans ih.1, by rw [show aY (yearsF a (n + 1)) = aY (yearsF a n) + 1 from (yearF_n _).2, ih.2]; omega⟩
theorem Good_years {a : TA} (h : Good a) : ∀ n, aY a + n < 100000 → Good (yearsF a n) := by
  intro n
  induction n with
  | zero => intro _; exact h
  | succ n ih => intro hy; exact Good_year (ih (by omega)) (by rw [(yearsF_n a n).2]; omega)
theorem f_yearsOn {N : Nat} (hN : 2000 ≤ N) {a : TA} (hg : Good a) {n : Nat} (hn : n ≤ 1000) (hy : aY a + n < 100000) : F_X3_yearsOn N (em a) (nI n) = some (em (yearsF a n)) := by
  unfold F_X3_yearsOn
  refine loop_up (fun k (y : FA × Int32) => F_X3_yearsOn_2 N k y.1 (nI n) y.2) (fun i => (em (yearsF a i), nI i)) n _ ?_ ?_ N 0 (Nat.zero_le _) (by omega)
  · intro k i hi
    show F_X3_yearsOn_2 N (k + 1) (em (yearsF a i)) (nI n) (nI i) = F_X3_yearsOn_2 N k (em (yearF (yearsF a i))) (nI n) (nI (i + 1))
    rw [F_X3_yearsOn_2, if_neg (by rw [q_le (by omega) (by omega)]; omega), f_year hN (Good_years hg i (by omega)) (by rw [(yearsF_n a i).2]; omega)]
    try simp only [q_bs]
    try rw [nI_add]
  · intro k
    show F_X3_yearsOn_2 N (k + 1) (em (yearsF a n)) (nI n) (nI n) = _
    rw [F_X3_yearsOn_2, if_pos (by rw [q_le (by omega) (by omega)]; exact Nat.le_refl _)]
