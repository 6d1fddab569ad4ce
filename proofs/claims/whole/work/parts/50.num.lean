/-! numbers -/
theorem q_le {a b : Nat} (ha : a < 2147483648) (hb : b < 2147483648) : (nI a ≤ nI b) = (a ≤ b) := propext (nI_leI ha hb)
theorem q_lt {a b : Nat} (ha : a < 2147483648) (hb : b < 2147483648) : (nI a < nI b) = (a < b) := propext (nI_ltI ha hb)
theorem q_eq {a b : Nat} (ha : a < 2147483648) (hb : b < 2147483648) : (nI a = nI b) = (a = b) := propext (nI_eq ha hb)
theorem q_z : (0 : Int32) = nI 0 := rfl
theorem q_cl {a : Nat} (ha : a < 2147483648) : (nI a).toNatClampNeg = a := nI_clamp ha
theorem q_lt0 {a : Nat} (ha : a < 2147483648) : (nI a < 0) = False := eq_false (nI_pos ha)
theorem q_ge0 {a : Nat} (ha : a < 2147483648) : (0 ≤ nI a) = True := eq_true (nI_pos' ha)
theorem q_eq0 {a : Nat} (ha : a < 2147483648) : (nI a = 0) = (a = 0) := q_eq ha (by decide)
theorem q_gt0 {a : Nat} (ha : a < 2147483648) : (0 < nI a) = (0 < a) := q_lt (by decide) ha
theorem q_le0 {a : Nat} (ha : a < 2147483648) : (nI a ≤ 0) = (a ≤ 0) := q_le ha (by decide)
theorem q_ck {α : Type} {j n : Nat} {k : Option α} (hj : j < n) (hn : n < 2147483648) : ckI (nI j) n k = k := if_neg (vp_in_nI hj hn)
theorem q_ckZ {α : Type} {j : Nat} {k : Option α} (h0 : 0 < j) (hj : j < 2147483648) : ckZ (nI j) k = k := if_neg (nI_ne0 h0 hj)
def bI (b : Bool) : Int32 := if b then nI 1 else nI 0
theorem q_b0 (b : Bool) : (bI b = 0) = (b = false) := by cases b <;> decide
theorem q_bt : bI true = nI 1 := rfl
theorem q_bf : bI false = nI 0 := rfl
theorem q_ckB {α : Type} (b : Bool) {k : Option α} : ckB (bI b) k = k := by cases b <;> rfl
theorem q_ckB0 {α : Type} {k : Option α} : ckB (nI 0) k = k := rfl
theorem q_ckB1 {α : Type} {k : Option α} : ckB (nI 1) k = k := rfl
theorem q_bs0 {α β : Type} (o : Option α) (a : α) (f : α → Option β) (h : o = some a) : o.bind f = f a := by subst h; rfl
theorem q_bs {α β : Type} (a : α) (f : α → Option β) : (some a).bind f = f a := q_bs0 (some a) a f rfl
theorem q_rem {a d : Nat} (ha : a < 2147483648) (h0 : 0 < d) (hd : d < 2147483648) : nI a - nI a / nI d * nI d = nI (a % d) := pk_rem ha h0 hd
theorem q_sub {a b : Nat} (h : b ≤ a) : nI a - nI b = nI (a - b) := pk_sub h
theorem q_ite {c : Prop} [Decidable c] {α : Type} (a b : α) : (if c then some a else some b) = some (if c then a else b) := by split <;> rfl
theorem q_iteI {c : Prop} [Decidable c] : (if c then nI 1 else nI 0) = bI (decide c) := by by_cases h : c <;> simp [h, bI]
theorem q_iteI' {c : Prop} [Decidable c] : (if c then nI 0 else nI 1) = bI (!decide c) := by by_cases h : c <;> simp [h, bI]
theorem i_c {α : Type} {p q : Prop} {ip : Decidable p} {iq : Decidable q} (h : p = q) (A B : α) : @ite α p ip A B = @ite α q iq A B := by
  subst h
  congr
theorem i_le {α : Type} {a b : Nat} (ha : a < 2147483648) (hb : b < 2147483648) {i : Decidable (nI a ≤ nI b)} (A B : α) : @ite α (nI a ≤ nI b) i A B = if a ≤ b then A else B := i_c (q_le ha hb) A B
theorem i_lt {α : Type} {a b : Nat} (ha : a < 2147483648) (hb : b < 2147483648) {i : Decidable (nI a < nI b)} (A B : α) : @ite α (nI a < nI b) i A B = if a < b then A else B := i_c (q_lt ha hb) A B
theorem i_eq {α : Type} {a b : Nat} (ha : a < 2147483648) (hb : b < 2147483648) {i : Decidable (nI a = nI b)} (A B : α) : @ite α (nI a = nI b) i A B = if a = b then A else B := i_c (q_eq ha hb) A B
theorem i_ne {α : Type} {a b : Nat} (ha : a < 2147483648) (hb : b < 2147483648) {i : Decidable (¬ nI a = nI b)} (A B : α) : @ite α (¬ nI a = nI b) i A B = if ¬ a = b then A else B := i_c (congrArg Not (q_eq ha hb)) A B
theorem i_lt0 {α : Type} {a : Nat} (ha : a < 2147483648) {i : Decidable (nI a < 0)} (A B : α) : @ite α (nI a < 0) i A B = if False then A else B := i_c (q_lt0 ha) A B
theorem i_ge0 {α : Type} {a : Nat} (ha : a < 2147483648) {i : Decidable (0 ≤ nI a)} (A B : α) : @ite α (0 ≤ nI a) i A B = if True then A else B := i_c (q_ge0 ha) A B
theorem i_gt0 {α : Type} {a : Nat} (ha : a < 2147483648) {i : Decidable (0 < nI a)} (A B : α) : @ite α (0 < nI a) i A B = if 0 < a then A else B := i_c (q_gt0 ha) A B
theorem i_le0 {α : Type} {a : Nat} (ha : a < 2147483648) {i : Decidable (nI a ≤ 0)} (A B : α) : @ite α (nI a ≤ 0) i A B = if a ≤ 0 then A else B := i_c (q_le0 ha) A B
theorem i_eq0 {α : Type} {a : Nat} (ha : a < 2147483648) {i : Decidable (nI a = 0)} (A B : α) : @ite α (nI a = 0) i A B = if a = 0 then A else B := i_c (q_eq0 ha) A B
theorem i_ne0 {α : Type} {a : Nat} (ha : a < 2147483648) {i : Decidable (¬ nI a = 0)} (A B : α) : @ite α (¬ nI a = 0) i A B = if ¬ a = 0 then A else B := i_c (congrArg Not (q_eq0 ha)) A B
theorem i_b0 {α : Type} (b : Bool) {i : Decidable (bI b = 0)} (A B : α) : @ite α (bI b = 0) i A B = if b = false then A else B := i_c (q_b0 b) A B
theorem i_nb0 {α : Type} (b : Bool) {i : Decidable (¬ bI b = 0)} (A B : α) : @ite α (¬ bI b = 0) i A B = if ¬ b = false then A else B := i_c (congrArg Not (q_b0 b)) A B
/-! loops -/
theorem loop_up {α β : Type} (L : Nat → α → Option β) (e : Nat → α) (B : Nat) (res : Option β) (step : ∀ n i, i < B → L (n + 1) (e i) = L n (e (i + 1))) (exit : ∀ n, L (n + 1) (e B) = res) : ∀ (n i : Nat), i ≤ B → B - i < n → L n (e i) = res := by
  intro n
  induction n with
  | zero => intro i _ h; omega
  | succ n ih =>
    intro i hi h
    rcases Nat.lt_or_ge i B with hlt | hge
    · rw [step n i hlt]
      exact ih (i + 1) hlt (by omega)
    · have : i = B := by omega
      subst this
      exact exit n
/-! counts and sets -/
def cntTo (f : Nat → Bool) : Nat → Nat
  | 0 => 0
  | k + 1 => cntTo f k + (f k).toNat
def mskTo (f : Nat → Bool) : Nat → Nat
  | 0 => 0
  | k + 1 => mskTo f k + (if f k then 2 ^ k else 0)
theorem cntTo_le (f : Nat → Bool) (k : Nat) : cntTo f k ≤ k := by
  induction k with
  | zero => exact Nat.le_refl _
  | succ k ih => show cntTo f k + (f k).toNat ≤ k + 1; have := Bool.toNat_le (f k); omega
theorem mskTo_lt (f : Nat → Bool) (k : Nat) : mskTo f k < 2 ^ k := by
  induction k with
  | zero => exact Nat.one_pos
  | succ k ih =>
    show mskTo f k + (if f k then 2 ^ k else 0) < 2 ^ (k + 1)
    rw [Nat.pow_succ]
    split <;> omega
theorem cntTo_ge {f : Nat → Bool} {n : Nat} (hf : ∀ c, n ≤ c → f c = false) : ∀ k, n ≤ k → cntTo f k = cntTo f n := by
  intro k
  induction k with
  | zero => intro h; have : n = 0 := by omega
            subst this; rfl
  | succ k ih =>
    intro h
    rcases Nat.lt_or_ge k n with h1 | h1
    · have : n = k + 1 := by omega
      subst this; rfl
    · show cntTo f k + (f k).toNat = cntTo f n
      rw [ih h1, hf k h1]; rfl
theorem mskTo_ge {f : Nat → Bool} {n : Nat} (hf : ∀ c, n ≤ c → f c = false) : ∀ k, n ≤ k → mskTo f k = mskTo f n := by
  intro k
  induction k with
  | zero => intro h; have : n = 0 := by omega
            subst this; rfl
  | succ k ih =>
    intro h
    rcases Nat.lt_or_ge k n with h1 | h1
    · have : n = k + 1 := by omega
      subst this; rfl
    · show mskTo f k + (if f k then 2 ^ k else 0) = mskTo f n
      rw [ih h1, hf k h1]; rfl
theorem cntTo_congr {f g : Nat → Bool} {k : Nat} (h : ∀ i, i < k → f i = g i) : cntTo f k = cntTo g k := by
  induction k with
  | zero => rfl
  | succ k ih => show cntTo f k + (f k).toNat = cntTo g k + (g k).toNat; rw [ih (fun i hi => h i (by omega)), h k (by omega)]
theorem mskTo_congr {f g : Nat → Bool} {k : Nat} (h : ∀ i, i < k → f i = g i) : mskTo f k = mskTo g k := by
  induction k with
  | zero => rfl
  | succ k ih => show mskTo f k + (if f k then 2 ^ k else 0) = mskTo g k + (if g k then 2 ^ k else 0); rw [ih (fun i hi => h i (by omega)), h k (by omega)]
def updN {α : Type} (f : Nat → α) (k : Nat) (v : α) : Nat → α := fun j => if j = k then v else f j
theorem updN_s {α : Type} (f : Nat → α) (k : Nat) (v : α) : updN f k v k = v := if_pos (by first | rfl | decide)
theorem updN_n {α : Type} (f : Nat → α) {k j : Nat} (v : α) (h : j ≠ k) : updN f k v j = f j := if_neg h
/-- the town as it is meant: how many, the year, kinds, figures, ages, who is dead, words -/
abbrev TA : Type := Nat × Nat × (Nat → Nat) × (Nat → Nat) × (Nat → Nat) × (Nat → Bool) × (Nat → Nat → Nat)
abbrev aN (a : TA) : Nat := a.1
abbrev aY (a : TA) : Nat := a.2.1
abbrev aK (a : TA) : Nat → Nat := a.2.2.1
abbrev aF (a : TA) : Nat → Nat := a.2.2.2.1
abbrev aA (a : TA) : Nat → Nat := a.2.2.2.2.1
abbrev aD (a : TA) : Nat → Bool := a.2.2.2.2.2.1
abbrev aW (a : TA) : Nat → Nat → Nat := a.2.2.2.2.2.2
/-- what is always so of a town -/
def Good (a : TA) : Prop := aN a ≤ 6 ∧ aY a < 100000 ∧ (∀ c, aK a c ≤ 5) ∧ (∀ c, aF a c ≤ 9) ∧ (∀ c, aA a c ≤ 99) ∧ (∀ c t, aW a c t ≤ 2) ∧ (∀ c, aN a ≤ c → aK a c = 0 ∧ aF a c = 0 ∧ aA a c = 0 ∧ aD a c = false ∧ ∀ t, aW a c t = 0) ∧ ∀ c t, 8 ≤ t → aW a c t = 0
/-- the reference's row of it -/
def fld (a : TA) (c w : Nat) : Nat := match w with
  | 0 => aK a c
  | 1 => aF a c
  | 2 => aA a c
  | 3 => (aD a c).toNat
  | w + 4 => aW a c w
def emN (a : TA) (k : Nat) : Nat := if k = 0 then aN a else if k = 1 then aY a else fld a ((k - 2) / 12) ((k - 2) % 12)
def em (a : TA) : FA := fun k => nI (emN a k)
def ix (c w : Nat) : Nat := 2 + 12 * c + w
theorem ix_lt {c w : Nat} (hc : c < 6) (hw : w < 12) : ix c w < 74 := by unfold ix; omega
theorem ix_div {c w : Nat} (hw : w < 12) : (ix c w - 2) / 12 = c := by unfold ix; omega
theorem ix_mod {c w : Nat} (hw : w < 12) : (ix c w - 2) % 12 = w := by unfold ix; omega
theorem em_0 (a : TA) : em a 0 = nI (aN a) := rfl
theorem em_1 (a : TA) : em a 1 = nI (aY a) := rfl
theorem emN_ix (a : TA) {c w : Nat} (hw : w < 12) : emN a (ix c w) = fld a c w := by
  unfold emN
  rw [if_neg (by unfold ix; omega), if_neg (by unfold ix; omega), ix_div hw, ix_mod hw]
theorem em_k (a : TA) (c : Nat) : em a (ix c 0) = nI (aK a c) := congrArg nI (emN_ix a (by decide))
theorem em_f (a : TA) (c : Nat) : em a (ix c 1) = nI (aF a c) := congrArg nI (emN_ix a (by decide))
theorem em_a (a : TA) (c : Nat) : em a (ix c 2) = nI (aA a c) := congrArg nI (emN_ix a (by decide))
theorem em_d (a : TA) (c : Nat) : em a (ix c 3) = bI (aD a c) := by
  have h : em a (ix c 3) = nI (aD a c).toNat := congrArg nI (emN_ix a (by decide))
  rw [h]; cases aD a c <;> rfl
theorem em_w (a : TA) (c : Nat) {t : Nat} (ht : t < 8) : em a (ix c (4 + t)) = nI (aW a c t) := by
  refine congrArg nI ((emN_ix a (by omega)).trans ?_)
  rw [show 4 + t = t + 4 from by omega]
  rfl
theorem em_get {f : Nat → Nat} {a : TA} (h : ∀ k, emN a k = f k) : em a = fun k => nI (f k) := funext fun k => congrArg nI (h k)
/-- a key is one of the row's places -/
theorem key_cases (k : Nat) : k = 0 ∨ k = 1 ∨ ∃ c w, w < 12 ∧ k = ix c w := by
  rcases Nat.lt_or_ge k 2 with h | h
  · omega
  · exact Or.inr (Or.inr ⟨(k - 2) / 12, (k - 2) % 12, Nat.mod_lt _ (by decide), by unfold ix; omega⟩)
theorem ix_inj {c w c' w' : Nat} (hw : w < 12) (hw' : w' < 12) : ix c w = ix c' w' ↔ c = c' ∧ w = w' := by unfold ix; omega
theorem em_upd {a b : TA} {k v : Nat} (h : ∀ j, emN b j = if j = k then v else emN a j) : upd (em a) k (nI v) = em b := by
  funext j
  show (if j = k then nI v else nI (emN a j)) = nI (emN b j)
  rw [h j]
  split <;> rfl
theorem em_ext {a b : TA} {k v : Nat} (h0 : aN b = if 0 = k then v else aN a) (h1 : aY b = if 1 = k then v else aY a) (h2 : ∀ c w, w < 12 → emN b (ix c w) = if ix c w = k then v else emN a (ix c w)) : upd (em a) k (nI v) = em b := by
  refine em_upd (fun j => ?_)
  rcases key_cases j with rfl | rfl | ⟨c, w, hw, rfl⟩
  · exact h0
  · exact h1
  · exact h2 c w hw
abbrev sN (a : TA) (v : Nat) : TA := (v, a.2)
abbrev sY (a : TA) (v : Nat) : TA := (a.1, v, a.2.2)
abbrev sK (a : TA) (f : Nat → Nat) : TA := (a.1, a.2.1, f, a.2.2.2)
abbrev sF (a : TA) (f : Nat → Nat) : TA := (a.1, a.2.1, a.2.2.1, f, a.2.2.2.2)
abbrev sA (a : TA) (f : Nat → Nat) : TA := (a.1, a.2.1, a.2.2.1, a.2.2.2.1, f, a.2.2.2.2.2)
abbrev sD (a : TA) (f : Nat → Bool) : TA := (a.1, a.2.1, a.2.2.1, a.2.2.2.1, a.2.2.2.2.1, f, a.2.2.2.2.2.2)
abbrev sW (a : TA) (f : Nat → Nat → Nat) : TA := (a.1, a.2.1, a.2.2.1, a.2.2.2.1, a.2.2.2.2.1, a.2.2.2.2.2.1, f)
theorem em_sN (a : TA) (v : Nat) : upd (em a) 0 (nI v) = em (sN a v) := em_ext rfl rfl (fun c w hw => by rw [if_neg (by unfold ix; omega), emN_ix _ hw, emN_ix _ hw]; rfl)
theorem em_sY (a : TA) (v : Nat) : upd (em a) 1 (nI v) = em (sY a v) := em_ext rfl rfl (fun c w hw => by rw [if_neg (by unfold ix; omega), emN_ix _ hw, emN_ix _ hw]; rfl)
theorem em_set (a b : TA) (c0 w0 v : Nat) (hw0 : w0 < 12) (h0 : aN b = aN a) (h1 : aY b = aY a) (h2 : ∀ c w, w < 12 → emN b (ix c w) = if c = c0 ∧ w = w0 then v else emN a (ix c w)) : upd (em a) (ix c0 w0) (nI v) = em b := by
  refine em_ext ?_ ?_ (fun c w hw => ?_)
  · rw [if_neg (by unfold ix; omega)]; exact h0
  · rw [if_neg (by unfold ix; omega)]; exact h1
  · rw [h2 c w hw]
    by_cases h : c = c0 ∧ w = w0
    · rw [if_pos h, if_pos ((ix_inj hw hw0).mpr h)]
    · rw [if_neg h, if_neg (fun e => h ((ix_inj hw hw0).mp e))]
theorem em_sK (a : TA) (c v : Nat) : upd (em a) (ix c 0) (nI v) = em (sK a (updN (aK a) c v)) := by
  refine em_set a _ c 0 v (by decide) rfl rfl (fun c' w hw => ?_)
  rw [emN_ix _ hw, emN_ix _ hw]
  match w, hw with
  | 0, _ =>
    show updN (aK a) c v c' = if c' = c ∧ 0 = 0 then v else aK a c'
    by_cases h : c' = c <;> simp [updN, h]
  | 1, _ =>
    show aF a c' = if c' = c ∧ 1 = 0 then _ else aF a c'
    simp
  | 2, _ =>
    show aA a c' = if c' = c ∧ 2 = 0 then _ else aA a c'
    simp
  | 3, _ =>
    show (aD a c').toNat = if c' = c ∧ 3 = 0 then _ else (aD a c').toNat
    simp
  | w + 4, _ =>
    show aW a c' w = if c' = c ∧ w + 4 = 0 then _ else aW a c' w
    rw [if_neg (fun e => by omega)]
theorem em_sF (a : TA) (c v : Nat) : upd (em a) (ix c 1) (nI v) = em (sF a (updN (aF a) c v)) := by
  refine em_set a _ c 1 v (by decide) rfl rfl (fun c' w hw => ?_)
  rw [emN_ix _ hw, emN_ix _ hw]
  match w, hw with
  | 0, _ =>
    show aK a c' = if c' = c ∧ 0 = 1 then _ else aK a c'
    simp
  | 1, _ =>
    show updN (aF a) c v c' = if c' = c ∧ 1 = 1 then v else aF a c'
    by_cases h : c' = c <;> simp [updN, h]
  | 2, _ =>
    show aA a c' = if c' = c ∧ 2 = 1 then _ else aA a c'
    simp
  | 3, _ =>
    show (aD a c').toNat = if c' = c ∧ 3 = 1 then _ else (aD a c').toNat
    simp
  | w + 4, _ =>
    show aW a c' w = if c' = c ∧ w + 4 = 1 then _ else aW a c' w
    rw [if_neg (fun e => by omega)]
theorem em_sA (a : TA) (c v : Nat) : upd (em a) (ix c 2) (nI v) = em (sA a (updN (aA a) c v)) := by
  refine em_set a _ c 2 v (by decide) rfl rfl (fun c' w hw => ?_)
  rw [emN_ix _ hw, emN_ix _ hw]
  match w, hw with
  | 0, _ =>
    show aK a c' = if c' = c ∧ 0 = 2 then _ else aK a c'
    simp
  | 1, _ =>
    show aF a c' = if c' = c ∧ 1 = 2 then _ else aF a c'
    simp
  | 2, _ =>
    show updN (aA a) c v c' = if c' = c ∧ 2 = 2 then v else aA a c'
    by_cases h : c' = c <;> simp [updN, h]
  | 3, _ =>
    show (aD a c').toNat = if c' = c ∧ 3 = 2 then _ else (aD a c').toNat
    simp
  | w + 4, _ =>
    show aW a c' w = if c' = c ∧ w + 4 = 2 then _ else aW a c' w
    rw [if_neg (fun e => by omega)]
theorem em_sD (a : TA) (c : Nat) (b : Bool) : upd (em a) (ix c 3) (nI b.toNat) = em (sD a (updN (aD a) c b)) := by
  refine em_set a _ c 3 b.toNat (by decide) rfl rfl (fun c' w hw => ?_)
  rw [emN_ix _ hw, emN_ix _ hw]
  match w, hw with
  | 0, _ =>
    show aK a c' = if c' = c ∧ 0 = 3 then _ else aK a c'
    simp
  | 1, _ =>
    show aF a c' = if c' = c ∧ 1 = 3 then _ else aF a c'
    simp
  | 2, _ =>
    show aA a c' = if c' = c ∧ 2 = 3 then _ else aA a c'
    simp
  | 3, _ =>
    show (updN (aD a) c b c').toNat = if c' = c ∧ 3 = 3 then b.toNat else (aD a c').toNat
    by_cases h : c' = c <;> simp [updN, h]
  | w + 4, _ =>
    show aW a c' w = if c' = c ∧ w + 4 = 3 then _ else aW a c' w
    rw [if_neg (fun e => by omega)]
def updW (f : Nat → Nat → Nat) (c t v : Nat) : Nat → Nat → Nat := fun i j => if i = c ∧ j = t then v else f i j
theorem em_sW (a : TA) (c t v : Nat) (ht : t < 8) : upd (em a) (ix c (4 + t)) (nI v) = em (sW a (updW (aW a) c t v)) := by
  refine em_set a _ c (4 + t) v (by omega) rfl rfl (fun c' w hw => ?_)
  rw [emN_ix _ hw, emN_ix _ hw]
  match w, hw with
  | 0, _ => show aK a c' = if c' = c ∧ 0 = 4 + t then _ else aK a c'; rw [if_neg (fun e => by omega)]
  | 1, _ => show aF a c' = if c' = c ∧ 1 = 4 + t then _ else aF a c'; rw [if_neg (fun e => by omega)]
  | 2, _ => show aA a c' = if c' = c ∧ 2 = 4 + t then _ else aA a c'; rw [if_neg (fun e => by omega)]
  | 3, _ => show (aD a c').toNat = if c' = c ∧ 3 = 4 + t then _ else (aD a c').toNat; rw [if_neg (fun e => by omega)]
  | w + 4, _ =>
    show (if c' = c ∧ w = t then v else aW a c' w) = if c' = c ∧ w + 4 = 4 + t then v else aW a c' w
    by_cases h : c' = c ∧ w = t
    · rw [if_pos h, if_pos ⟨h.1, by omega⟩]
    · rw [if_neg h, if_neg (fun e => h ⟨e.1, by omega⟩)]
