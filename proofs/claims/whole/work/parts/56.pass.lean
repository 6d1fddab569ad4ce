/-! a year of the class -/
theorem g_isYearOf (N : Nat) {a : TA} (hg : Good a) {d : Nat} (h0 : 0 < d) (hd : d < 100) : F_X1_isYearOf N (TW a) (nI d) = some (bI (decide (aY a % d = 0))) := by
  have hy := hg.2.1
  have hm : aY a % d < 100 := Nat.lt_of_lt_of_le (Nat.mod_lt _ h0) (by omega)
  unfold F_X1_isYearOf
  rw [i_le0 (by omega)]
  rw [if_neg (by omega)]
  try rw [q_ckZ h0 (by omega)]
  try rw [TW_Y]
  try rw [q_rem (by omega) h0 (by omega)]
  first | rw [i_eq0 (by omega)] | rw [i_ne0 (by omega)]
  by_cases h : aY a % d = 0
  · rw [if_neg (fun e => e h), decide_eq_true h]; rfl
  · rw [if_pos h, decide_eq_false h]; rfl
/-- what he does then: 0 nothing, 1 falls silent, 2 says the other -/
def deed (a : TA) (c : Nat) (same against : Nat) : Nat :=
  match aK a c with
  | 1 => if (same = 1 ∧ 2 ≤ against) ∨ aY a % (aF a c + 1) = 0 then 1 else 0
  | 2 => 0
  | 3 => if same = 1 ∧ 2 ≤ against then 2 else 0
  | 4 => if (same = 1 ∧ 2 ≤ against) ∨ aY a % (aF a c + 2) = 0 then 2 else 0
  | 5 => if against = 0 then 1 else 0
  | _ => if same = 1 ∧ 2 ≤ against then 1 else 0
theorem g_deedOf (N : Nat) {a : TA} (hg : Good a) {c s g : Nat} (hc : c < 6) (hs : s ≤ 6) (hgg : g ≤ 6) : F_X1_deedOf N (TW a) (nI c) (nI s) (nI g) = some (nI (deed a c s g)) := by
  have hk := hg.2.2.1 c
  have hf := hg.2.2.2.1 c
  have key : ∀ z : Bool, F_X1_deedOf_15 N (TW a) (nI c) (nI g) (bI z) = some (nI (match aK a c with
    | 1 => if z = true ∨ aY a % (aF a c + 1) = 0 then 1 else 0
    | 2 => 0
    | 3 => if z = true then 2 else 0
    | 4 => if z = true ∨ aY a % (aF a c + 2) = 0 then 2 else 0
    | 5 => if g = 0 then 1 else 0
    | _ => if z = true then 1 else 0)) := by
    intro z
    unfold F_X1_deedOf_15
    repeat rw [q_ck hc (by decide)]
    repeat rw [q_ck hc (by decide)]
    repeat rw [q_ck hc (by decide)]
    repeat rw [q_cl (by omega)]
    try rw [TW_k]
    try rw [TW_f]
    try rw [nI_add]
    try rw [nI_add]
    rw [g_isYearOf N hg (by omega) (by omega), g_isYearOf N hg (by omega) (by omega)]
    try simp only [q_bs]
    try simp only [q_bs]
    repeat (first | rw [i_b0] | rw [i_nb0])
    repeat (first | rw [i_b0] | rw [i_nb0])
    repeat (first | rw [i_b0] | rw [i_nb0])
    first | rw [i_eq0 (by omega)] | rw [i_ne0 (by omega)]
    rcases (show aK a c = 0 ∨ aK a c = 1 ∨ aK a c = 2 ∨ aK a c = 3 ∨ aK a c = 4 ∨ aK a c = 5 by omega) with e | e | e | e | e | e <;> rw [e]
    · rw [if_pos (by first | rfl | decide)]
      cases z <;> rfl
    · rw [if_neg (by decide), if_pos (by first | rfl | decide)]
      cases z
      · rw [if_neg (fun h => h rfl)]
        by_cases h : aY a % (aF a c + 1) = 0
        · simp [h]
        · simp [h]
      · simp
    · rw [if_neg (by decide), if_neg (by decide), if_pos (by first | rfl | decide)]; rfl
    · rw [if_neg (by decide), if_neg (by decide), if_neg (by decide), if_pos (by first | rfl | decide)]
      cases z <;> rfl
    · rw [if_neg (by decide), if_neg (by decide), if_neg (by decide), if_neg (by decide), if_pos (by first | rfl | decide)]
      cases z
      · rw [if_neg (fun h => h rfl)]
        by_cases h : aY a % (aF a c + 2) = 0
        · simp [h]
        · simp [h]
      · simp
    · rw [if_neg (by decide), if_neg (by decide), if_neg (by decide), if_neg (by decide), if_neg (by decide), if_pos (by first | rfl | decide)]
      by_cases h : g = 0
      · rw [if_neg (fun e => e h)]; simp [h]
      · rw [if_pos h]; simp [h]
  unfold F_X1_deedOf
  first | rw [i_eq (by omega) (by decide)] | rw [i_ne (by omega) (by decide)]
  rw [i_lt (by omega) (by decide)]
  have e0 : nI 0 = bI false := rfl
  have kt := key true
  have kf := key false
  rw [show bI true = nI 1 from rfl] at kt
  rw [show bI false = nI 0 from rfl] at kf
  unfold deed
  by_cases h1 : s = 1
  · rw [if_neg (fun e => e h1)]
    by_cases h2 : g < 2
    · rw [if_pos h2, kf]
      have : ¬ 2 ≤ g := by omega
      simp [h1, this]
    · rw [if_neg h2, kt]
      have : 2 ≤ g := by omega
      simp [h1, this]
  · rw [if_pos h1, kf]
    simp [h1]
theorem deed_thn {a : TA} {c t : Nat} (hw : aW a c t ≤ 2) (h0 : aW a c t ≠ 0) (hk : aK a c ≤ 5) : thn a c t = (match deed a c (say a t (aW a c t)) (say a t (3 - aW a c t)) with
    | 0 => aW a c t
    | 1 => 0
    | _ => 3 - aW a c t) := by
  unfold thn deed alone
  generalize say a t (aW a c t) = s
  generalize say a t (3 - aW a c t) = g
  rcases (show aK a c = 0 ∨ aK a c = 1 ∨ aK a c = 2 ∨ aK a c = 3 ∨ aK a c = 4 ∨ aK a c = 5 by omega) with e | e | e | e | e | e <;> rw [e] <;> by_cases h1 : s = 1 <;> by_cases h2 : 2 ≤ g <;> (try (by_cases h3 : aY a % (aF a c + 1) = 0)) <;> (try (by_cases h4 : aY a % (aF a c + 2) = 0)) <;> (try (by_cases h5 : g = 0)) <;> simp [*]
set_option maxRecDepth 100000 in
theorem g_thinkAgain (N : Nat) {a : TA} (hg : Good a) {c t : Nat} (hl : live a c = true) (ht : t < 8) : F_X1_thinkAgain N (TW a) (nI c) (nI t) = some (bI (turns1 a c t), TW (turn1 a c t)) := by
  have hn := hg.1
  have hc := live_lt hl
  have hw := hg.2.2.2.2.2.1 c t
  have hk := hg.2.2.1 c
  have s1 := say_le a t 1
  have s2 := say_le a t 2
  have eT : turn1 a c t = if aW a c t = 0 then a else sW a (updW (aW a) c t (thn a c t)) := by
    unfold turn1; rw [hl]
    by_cases h : aW a c t = 0 <;> simp [h]
  have eS : turns1 a c t = (!decide (aW a c t = 0) && !decide (thn a c t = aW a c t)) := by
    unfold turns1; rw [hl]
    by_cases h : aW a c t = 0 <;> by_cases h2 : thn a c t = aW a c t <;> simp [h, h2]
  unfold F_X1_thinkAgain F_X1_thinkAgain_45 F_X1_thinkAgain_59 F_X1_thinkAgain_95
  rw [g_wordOf N hg (by omega) ht]
  try simp only [q_bs]
  first | rw [i_eq0 (by omega)] | rw [i_ne0 (by omega)]
  rw [g_livingYes N ht]
  try simp only [q_bs]
  rw [f_bc6]
  try simp only [q_bs]
  rw [g_livingNo N ht]
  try simp only [q_bs]
  rw [f_bc6]
  try simp only [q_bs]
  rw [eT, eS]
  by_cases h0 : aW a c t = 0
  · rw [if_neg (fun e => e h0), if_pos h0, decide_eq_true h0]; rfl
  · rw [if_pos h0, if_neg h0, decide_eq_false h0]
    have hd := deed_thn hw h0 hk
    have key : ∀ w s g, aW a c t = w → (w = 1 ∨ w = 2) → s = say a t w → g = say a t (3 - w) → ((F_X1_deedOf N (TW a) (nI c) (nI s) (nI g)).bind fun r67 => if ¬ r67 = 0 then (if ¬ r67 = (nI 1) then ((F_X1_put N (TW a) (nI c) (nI t) ((nI 3) - (nI w))).bind fun r95 => some ((nI 1), r95)) else ((F_X1_put N (TW a) (nI c) (nI t) (nI 0)).bind fun r95 => some ((nI 1), r95))) else (some ((nI 0), TW a))) = some (bI (!false && !decide (thn a c t = w)), TW (sW a (updW (aW a) c t (thn a c t)))) := by
      intro w s g e1 e2 e3 e4
      have h7 := say_le a t w
      have h8 := say_le a t (3 - w)
      rw [g_deedOf N hg (by omega) (by omega) (by omega)]
      try simp only [q_bs]
      rw [q_sub (by omega), g_put N a (by omega) ht (by omega), g_put N a (by omega) ht (by omega)]
      try simp only [q_bs]
      try simp only [q_bs]
      rw [hd, e1, ← e3, ← e4]
      have hle : deed a c s g ≤ 2 := by
        unfold deed
        split <;> (try split) <;> omega
      first | rw [i_eq0 (by omega)] | rw [i_ne0 (by omega)]
      first | rw [i_eq (by omega) (by decide)] | rw [i_ne (by omega) (by decide)]
      rcases (show deed a c s g = 0 ∨ deed a c s g = 1 ∨ deed a c s g = 2 by omega) with e | e | e <;> rw [e]
      · have hu : updW (aW a) c t w = aW a := by
          funext i j
          unfold updW
          by_cases h : i = c ∧ j = t
          · rw [if_pos h, h.1, h.2, e1]
          · rw [if_neg h]
        rw [if_neg (fun h => h rfl)]
        show some (nI 0, TW a) = some (bI (!false && !decide (w = w)), TW (sW a (updW (aW a) c t w)))
        rw [hu, decide_eq_true rfl]; rfl
      · rw [if_pos (by decide), if_neg (fun h => h rfl)]
        show some (nI 1, _) = some (bI (!false && !decide (0 = w)), _)
        rw [decide_eq_false (by omega)]; rfl
      · rw [if_pos (by decide), if_pos (by decide)]
        show some (nI 1, _) = some (bI (!false && !decide (3 - w = w)), _)
        rw [decide_eq_false (by omega)]; rfl
    rcases (show aW a c t = 1 ∨ aW a c t = 2 by omega) with e | e
    · have := key 1 (say a t 1) (say a t 2) e (Or.inl rfl) rfl rfl
      rw [e]
      first | rw [i_eq (by decide) (by decide)] | rw [i_ne (by decide) (by decide)]
      rw [if_neg (fun h => h rfl), if_neg (fun h => h rfl)]
      exact this
    · have := key 2 (say a t 2) (say a t 1) e (Or.inr rfl) rfl rfl
      rw [e]
      first | rw [i_eq (by decide) (by decide)] | rw [i_ne (by decide) (by decide)]
      rw [if_pos (by decide), if_pos (by decide)]
      exact this
/-- one thinks again of some topics, from f on -/
def turnR (a : TA) (c f : Nat) : Nat → TA
  | 0 => a
  | k + 1 => turn1 (turnR a c f k) c (f + k)
def turnsR (a : TA) (c f : Nat) : Nat → Bool
  | 0 => false
  | k + 1 => turnsR a c f k || turns1 (turnR a c f k) c (f + k)
theorem turnR_0 (a : TA) (c : Nat) : ∀ k, turnR a c 0 k = turnC a c k := by
  intro k
  induction k with
  | zero => rfl
  | succ k ih => show turn1 (turnR a c 0 k) c (0 + k) = turn1 (turnC a c k) c k; rw [ih, Nat.zero_add]
theorem turnsR_0 (a : TA) (c : Nat) : ∀ k, turnsR a c 0 k = turnsC a c k := by
  intro k
  induction k with
  | zero => rfl
  | succ k ih => show (turnsR a c 0 k || turns1 (turnR a c 0 k) c (0 + k)) = (turnsC a c k || turns1 (turnC a c k) c k); rw [ih, turnR_0, Nat.zero_add]
theorem turnR_n (a : TA) (c f : Nat) : ∀ t, aN (turnR a c f t) = aN a ∧ aY (turnR a c f t) = aY a ∧ aD (turnR a c f t) = aD a := by
  intro t
  induction t with
  | zero => exact ⟨rfl, rfl, rfl⟩
  | succ t ih =>
    have := turn1_n (turnR a c f t) c (f + t)
    exact ⟨this.1.trans ih.1, this.2.1.trans ih.2.1, this.2.2.trans ih.2.2⟩
theorem Good_turnR {a : TA} (h : Good a) {c f : Nat} (hc : c < aN a) : ∀ k, f + k ≤ 8 → Good (turnR a c f k) := by
  intro k
  induction k with
  | zero => intro _; exact h
  | succ k ih => intro ht; exact Good_turn1 (ih (by omega)) (by rw [(turnR_n a c f k).1]; exact hc) (by omega)
/-- those who live, up to c -/
def passA (a : TA) (f k : Nat) : Nat → TA
  | 0 => a
  | c + 1 => if live (passA a f k c) c then turnR (passA a f k c) c f k else passA a f k c
def passesA (a : TA) (f k : Nat) : Nat → Bool
  | 0 => false
  | c + 1 => if live (passA a f k c) c then passesA a f k c || turnsR (passA a f k c) c f k else passesA a f k c
theorem passA_n (a : TA) (f k : Nat) : ∀ c, aN (passA a f k c) = aN a ∧ aY (passA a f k c) = aY a ∧ aD (passA a f k c) = aD a := by
  intro c
  induction c with
  | zero => exact ⟨rfl, rfl, rfl⟩
  | succ c ih =>
    have := turnR_n (passA a f k c) c f k
    show aN (if _ then _ else _) = _ ∧ aY (if _ then _ else _) = _ ∧ aD (if _ then _ else _) = _
    split
    · exact ⟨this.1.trans ih.1, this.2.1.trans ih.2.1, this.2.2.trans ih.2.2⟩
    · exact ih
theorem Good_passA {a : TA} (h : Good a) {f k : Nat} (hfk : f + k ≤ 8) : ∀ c, c ≤ aN a → Good (passA a f k c) := by
  intro c
  induction c with
  | zero => intro _; exact h
  | succ c ih =>
    intro hc
    show Good (if _ then _ else _)
    split
    · exact Good_turnR (ih (by omega)) (by rw [(passA_n a f k c).1]; omega) k hfk
    · exact ih (by omega)
theorem turn1_dead {a : TA} {c : Nat} (h : live a c = false) (t : Nat) : turn1 a c t = a ∧ turns1 a c t = false := by
  unfold turn1 turns1; rw [h]; exact ⟨rfl, rfl⟩
theorem turnC_dead {a : TA} {c : Nat} (h : live a c = false) : ∀ t, turnC a c t = a ∧ turnsC a c t = false := by
  intro t
  induction t with
  | zero => exact ⟨rfl, rfl⟩
  | succ t ih =>
    show turn1 (turnC a c t) c t = a ∧ (turnsC a c t || turns1 (turnC a c t) c t) = false
    rw [ih.1, ih.2, (turn1_dead h t).1, (turn1_dead h t).2]; exact ⟨rfl, rfl⟩
theorem passA_8 (a : TA) : ∀ c, passA a 0 8 c = turnA a c ∧ passesA a 0 8 c = turnsA a c := by
  intro c
  induction c with
  | zero => exact ⟨rfl, rfl⟩
  | succ c ih =>
    show (if live (passA a 0 8 c) c then turnR (passA a 0 8 c) c 0 8 else passA a 0 8 c) = turnC (turnA a c) c 8 ∧ (if live (passA a 0 8 c) c then passesA a 0 8 c || turnsR (passA a 0 8 c) c 0 8 else passesA a 0 8 c) = (turnsA a c || turnsC (turnA a c) c 8)
    rw [ih.1, ih.2, turnR_0, turnsR_0]
    cases h : live (turnA a c) c
    · rw [(turnC_dead h 8).1, (turnC_dead h 8).2]; simp
    · exact ⟨rfl, rfl⟩
def yearR (a : TA) (f k : Nat) : TA := passA (ageA a) f k (aN a)
def changesR (a : TA) (f k : Nat) : Bool := anyTo (diesK a) (aN a) || passesA (ageA a) f k (aN a)
theorem yearR_8 (a : TA) : yearR a 0 8 = yearF a := (passA_8 (ageA a) (aN a)).1
theorem changesR_8 (a : TA) : changesR a 0 8 = changes a := by
  unfold changesR changes
  rw [(passA_8 (ageA a) (aN a)).2]
theorem yearR_n (a : TA) (f k : Nat) : aN (yearR a f k) = aN a ∧ aY (yearR a f k) = aY a + 1 := ⟨(passA_n (ageA a) f k (aN a)).1, (passA_n (ageA a) f k (aN a)).2.1⟩
theorem Good_yearR {a : TA} (h : Good a) (hy : aY a + 1 < 100000) {f k : Nat} (hfk : f + k ≤ 8) : Good (yearR a f k) := Good_passA (Good_age h hy) hfk (aN a) (Nat.le_refl _)
theorem pass_1 {N : Nat} (hN : 2000 ≤ N) {a : TA} (hg : Good a) {c : Nat} (hc : c < aN a) (hl : live a c = true) {f k : Nat} (hfk : f + k ≤ 8) (x : Bool) (x1 : Int32) (k42 : TownS → Int32 → Int32 → Int32 → Int32 → Option (Int32 × TownS)) : F_X1_passOne_66 N k42 N (TW a) x1 (nI (f + k)) (bI x) (nI c) (nI f) = k42 (TW (turnR a c f k)) x1 (nI (f + k)) (bI (x || turnsR a c f k)) (nI (c + 1)) := by
  have hn := hg.1
  have hst : F_X1_passOne_66 N k42 N (TW a) x1 (nI (f + k)) (bI x) (nI c) (nI f) = F_X1_passOne_66 N k42 N (TW (turnR a c f 0)) x1 (nI (f + k)) (bI (x || turnsR a c f 0)) (nI c) (nI (f + 0)) := by
    show _ = F_X1_passOne_66 N k42 N (TW a) x1 (nI (f + k)) (bI (x || false)) (nI c) (nI f)
    rw [Bool.or_false]
  rw [hst]
  refine loop_up (fun n (y : TownS × Int32 × Int32) => F_X1_passOne_66 N k42 n y.1 x1 (nI (f + k)) y.2.1 (nI c) y.2.2) (fun i => (TW (turnR a c f i), bI (x || turnsR a c f i), nI (f + i))) k _ ?_ ?_ N 0 (Nat.zero_le _) (by omega)
  · intro n i hi
    show F_X1_passOne_66 N k42 (n + 1) (TW (turnR a c f i)) x1 (nI (f + k)) (bI (x || turnsR a c f i)) (nI c) (nI (f + i)) = F_X1_passOne_66 N k42 n (TW (turn1 (turnR a c f i) c (f + i))) x1 (nI (f + k)) (bI (x || (turnsR a c f i || turns1 (turnR a c f i) c (f + i)))) (nI c) (nI (f + (i + 1)))
    have hb : Good (turnR a c f i) := Good_turnR hg hc i (by omega)
    have hbl : live (turnR a c f i) c = true := by
      unfold live
      rw [(turnR_n a c f i).1, (turnR_n a c f i).2.2]; exact hl
    generalize turnR a c f i = b at *
    generalize turnsR a c f i = sb at *
    rw [F_X1_passOne_66, if_neg (by rw [q_le (by omega) (by omega)]; omega), g_thinkAgain N hb hbl (by omega)]
    try simp only [q_bs]
    unfold F_X1_passOne_86
    try rw [nI_add]
    rw [Nat.add_assoc f i 1]
    show (if bI (turns1 b c (f + i)) = 0 then _ else _) = _
    repeat (first | rw [i_b0] | rw [i_nb0])
    cases turns1 b c (f + i)
    · rw [if_pos (by first | rfl | decide), Bool.or_false]
    · rw [if_neg (by decide), Bool.or_true, Bool.or_true]; rfl
  · intro n
    show F_X1_passOne_66 N k42 (n + 1) (TW (turnR a c f k)) x1 (nI (f + k)) (bI (x || turnsR a c f k)) (nI c) (nI (f + k)) = _
    rw [F_X1_passOne_66, if_pos (by rw [q_le (by omega) (by omega)]; exact Nat.le_refl _)]
    unfold F_X1_passOne_92
    try rw [nI_add]
theorem liv_died {a : TA} : (mskTo (live (ageA a)) 6 = mskTo (live a) 6) ↔ anyTo (diesK a) 6 = false := by
  have h1 : ∀ c, live (ageA a) c = (live a c && !diesK a c) := by
    intro c
    show (decide (c < aN a) && !(aD a c || diesK a c)) = ((decide (c < aN a) && !aD a c) && !diesK a c)
    cases decide (c < aN a) <;> cases aD a c <;> cases diesK a c <;> rfl
  have h2 : ∀ c, diesK a c = true → live a c = true := by
    intro c h
    unfold diesK at h
    rw [Bool.and_eq_true] at h
    exact h.1
  have any : ∀ k, anyTo (diesK a) k = false ↔ ∀ c, c < k → diesK a c = false := by
    intro k
    induction k with
    | zero => exact ⟨fun _ c hc => by omega, fun _ => rfl⟩
    | succ k ih =>
      show (anyTo (diesK a) k || diesK a k) = false ↔ _
      rw [Bool.or_eq_false_iff, ih]
      exact ⟨fun h c hc => by rcases Nat.lt_succ_iff_lt_or_eq.mp hc with h3 | h3; exact h.1 c h3; subst h3; exact h.2, fun h => ⟨fun c hc => h c (by omega), h k (by omega)⟩⟩
  rw [any]
  constructor
  · intro h c hc
    have hb := congrArg (fun m => Nat.testBit m c) h
    simp only [mskTo_bit, decide_eq_true hc, Bool.true_and] at hb
    rw [h1] at hb
    cases hd : diesK a c
    · rfl
    · rw [hd, h2 c hd] at hb; cases hb
  · intro h
    refine mskTo_congr (fun c hc => ?_)
    rw [h1, h c hc]; simp
theorem i_died {α : Type} {a : TA} {i : Decidable (mskTo (live (ageA a)) 6 = mskTo (live a) 6)} (A B : α) : @ite α (mskTo (live (ageA a)) 6 = mskTo (live a) 6) i A B = if anyTo (diesK a) 6 = false then A else B := i_c (propext liv_died) A B
theorem anyTo_ge {f : Nat → Bool} {n : Nat} (hf : ∀ c, n ≤ c → f c = false) : ∀ k, n ≤ k → anyTo f k = anyTo f n := by
  intro k
  induction k with
  | zero => intro h; have : n = 0 := by omega
            subst this; rfl
  | succ k ih =>
    intro h
    rcases Nat.lt_or_ge k n with h1 | h1
    · have : n = k + 1 := by omega
      subst this; rfl
    · show (anyTo f k || f k) = anyTo f n
      rw [ih h1, hf k h1, Bool.or_false]
theorem g_passOne {N : Nat} (hN : 2000 ≤ N) {a : TA} (hg : Good a) (hy : aY a + 1 < 100000) {f k : Nat} (hfk : f + k ≤ 8) : F_X1_passOne N (TW a) (nI f) (nI (f + k)) = some (bI (changesR a f k), TW (yearR a f k)) := by
  have hn := hg.1
  have hgy : Good (sY a (aY a + 1)) := ⟨hg.1, hy, hg.2.2⟩
  have hgo : Good (olderA (sY a (aY a + 1)) 1) := by
    obtain ⟨h1, h2, h3, h4, h5, h6, h7, h8⟩ := hgy
    refine ⟨h1, h2, h3, h4, fun c => ?_, h6, fun c hc => ?_, h8⟩
    · show (if live a c then min 99 (aA a c + 1) else aA a c) ≤ 99
      have := h5 c
      split
      · exact Nat.min_le_left _ _
      · exact this
    · obtain ⟨t1, t2, t3, t4⟩ := h7 c hc
      refine ⟨t1, t2, ?_, t4⟩
      show (if live a c then min 99 (aA a c + 1) else aA a c) = 0
      have hc : aN a ≤ c := hc
      rw [if_neg (fun e => absurd (live_lt e) (by omega))]; exact t3
  unfold F_X1_passOne
  have e1 : ((TW a).1, (TW a).2.1, (TW a).2.2.1, (TW a).2.2.2.1, (TW a).2.2.2.2.1, (TW a).2.2.2.2.2.1, (TW a).2.2.2.2.2.2.1, (TW a).2.2.2.2.2.2.2 + nI 1) = TW (sY a (aY a + 1)) := by
    try rw [TW_Y]
    (try rw [nI_add]); rfl
  rw [e1, g_growOlder hN hgy (by decide)]
  try simp only [q_bs]
  rw [g_buryTheOld hN hgo]
  try simp only [q_bs]
  rw [age_is]
  try rw [TW_l]
  try rw [TW_l]
  have hG := Good_age hg hy
  have l1 := msk6_lt (live (ageA a))
  have l2 := msk6_lt (live a)
  have hany : anyTo (diesK a) 6 = anyTo (diesK a) (aN a) := anyTo_ge (n := aN a) (fun c hc => by
    unfold diesK
    have : live a c = false := by cases e : live a c; rfl; exact absurd (live_lt e) (by omega)
    rw [this]; rfl) 6 hn
  first | rw [i_eq (by omega) (by omega)] | rw [i_ne (by omega) (by omega)]
  rw [i_died]
  rw [hany]
  have key : ∀ x : Bool, F_X1_passOne_37 N (TW (ageA a)) (nI f) (nI (f + k)) (bI x) = some (bI (x || passesA (ageA a) f k (aN a)), TW (yearR a f k)) := by
    intro x
    unfold F_X1_passOne_37 yearR
    have hst : F_X1_passOne_42 N N (TW (ageA a)) (nI f) (nI (f + k)) (bI x) (nI 0) = F_X1_passOne_42 N N (TW (passA (ageA a) f k 0)) (nI f) (nI (f + k)) (bI (x || passesA (ageA a) f k 0)) (nI 0) := by
      show _ = F_X1_passOne_42 N N (TW (ageA a)) (nI f) (nI (f + k)) (bI (x || false)) (nI 0)
      rw [Bool.or_false]
    rw [hst]
    refine loop_up (fun n (y : TownS × Int32 × Int32) => F_X1_passOne_42 N n y.1 (nI f) (nI (f + k)) y.2.1 y.2.2) (fun i => (TW (passA (ageA a) f k i), bI (x || passesA (ageA a) f k i), nI i)) (aN a) _ ?_ ?_ N 0 (Nat.zero_le _) (by omega)
    · intro n c hc
      show F_X1_passOne_42 N (n + 1) (TW (passA (ageA a) f k c)) (nI f) (nI (f + k)) (bI (x || passesA (ageA a) f k c)) (nI c) = F_X1_passOne_42 N n (TW (if live (passA (ageA a) f k c) c then turnR (passA (ageA a) f k c) c f k else passA (ageA a) f k c)) (nI f) (nI (f + k)) (bI (x || (if live (passA (ageA a) f k c) c then passesA (ageA a) f k c || turnsR (passA (ageA a) f k c) c f k else passesA (ageA a) f k c))) (nI (c + 1))
      have hb : Good (passA (ageA a) f k c) := Good_passA hG hfk c (Nat.le_of_lt hc)
      have hbn : aN (passA (ageA a) f k c) = aN a := (passA_n (ageA a) f k c).1
      generalize passA (ageA a) f k c = b at *
      generalize passesA (ageA a) f k c = sb at *
      rw [F_X1_passOne_42]
      try rw [TW_n]
      rw [hbn, if_neg (by rw [q_le (by omega) (by omega)]; omega), g_isLiving N hb (by omega)]
      try simp only [q_bs]
      repeat (first | rw [i_b0] | rw [i_nb0])
      unfold F_X1_passOne_92
      cases hl : live b c
      · rw [if_neg (fun h => h rfl)]
        (try rw [nI_add]); rfl
      · rw [if_pos (by decide), pass_1 hN hb (by omega) hl hfk, Bool.or_assoc]; rfl
    · intro n
      show F_X1_passOne_42 N (n + 1) (TW (passA (ageA a) f k (aN a))) (nI f) (nI (f + k)) (bI (x || passesA (ageA a) f k (aN a))) (nI (aN a)) = _
      rw [F_X1_passOne_42]
      try rw [TW_n]
      rw [show aN (passA (ageA a) f k (aN a)) = aN a from (passA_n (ageA a) f k (aN a)).1, if_pos (by rw [q_le (by omega) (by omega)]; exact Nat.le_refl _)]
      try rw [q_ckB]
  unfold changesR
  cases h : anyTo (diesK a) (aN a)
  · rw [if_pos (by first | rfl | decide)]
    exact key false
  · rw [if_neg (by decide)]
    exact key true
