/-! the reference, its parts -/
theorem q_c0 : (nI 0).toNatClampNeg = 0 := by decide
theorem q_c1 : (nI 1).toNatClampNeg = 1 := by decide
def live (a : TA) (c : Nat) : Bool := decide (c < aN a) && !aD a c
def saysB (a : TA) (t w : Nat) (c : Nat) : Bool := live a c && (aW a c t == w)
def say (a : TA) (t w : Nat) : Nat := cntTo (saysB a t w) 6
def wrt (a : TA) (t : Nat) : Bool := decide (0 < say a t 1) && decide (0 < say a t 2)
def book (a : TA) : Nat := mskTo (wrt a) 8
def bookN (a : TA) : Nat := cntTo (wrt a) 8
def liv (a : TA) : Nat := mskTo (live a) 6
def livN (a : TA) : Nat := cntTo (live a) 6
theorem say_le (a : TA) (t w : Nat) : say a t w ≤ 6 := cntTo_le _ _
theorem f_of (N c w : Nat) : F_X3_of N (nI c) (nI w) = some (nI (ix c w)) := by
  show some (nI 2 + nI 12 * nI c + nI w) = _
  rw [pk_mul]
  try rw [nI_add]
  (try rw [nI_add]); rfl
theorem f_least (N : Nat) {x y : Nat} (hx : x < 2147483648) (hy : y < 2147483648) : F_X3_least N (nI x) (nI y) = some (nI (min x y)) := by
  unfold F_X3_least
  rw [i_le hy hx]
  split
  · rw [Nat.min_eq_right (by assumption)]
  · rw [Nat.min_eq_left (by omega)]
theorem f_isIn (N : Nat) {x lo hi : Nat} (hx : x < 2147483648) (hlo : lo < 2147483648) (hhi : hi < 2147483648) : F_X3_isIn N (nI x) (nI lo) (nI hi) = some (bI (decide (lo ≤ x ∧ x ≤ hi))) := by
  unfold F_X3_isIn
  rw [i_lt hx hlo]
  rw [i_lt hhi hx]
  split
  · rw [decide_eq_false (by omega)]; rfl
  · split
    · rw [decide_eq_false (by omega)]; rfl
    · rw [decide_eq_true (by omega)]; rfl
theorem f_isIn_neg (N : Nat) {p q : Int32} {lo : Nat} (hlo : lo < 2147483648) (hp : p < 0) : F_X3_isIn N p (nI lo) q = some (nI 0) := by
  unfold F_X3_isIn
  rw [if_pos]
  have := nI_pos' hlo
  exact Int32.lt_of_lt_of_le hp this
theorem f_isTopic (N : Nat) {t : Nat} (ht : t < 2147483648) : F_X3_isTopic N (nI t) = some (bI (decide (t < 8))) := by
  unfold F_X3_isTopic
  rw [f_isIn N ht (by decide) (by decide)]
  try simp only [q_bs]
  try rw [q_ckB]
  congr 2
  apply decide_eq_decide.mpr
  omega
theorem f_isTopic_neg (N : Nat) {p : Int32} (hp : p < 0) : F_X3_isTopic N p = some (nI 0) := by
  unfold F_X3_isTopic
  rw [f_isIn_neg N (by decide) hp]
  rfl
theorem q_pred {n j : Nat} (hn : n ≤ 6) (hj : j < 2147483648) : (nI n - nI 1 < nI j) = (n ≤ j) := by
  rcases Nat.eq_zero_or_pos n with h | h
  · subst h
    have : (nI 0 - nI 1 : Int32) < 0 := by decide
    exact propext ⟨fun _ => Nat.zero_le _, fun _ => Int32.lt_of_lt_of_le this (nI_pos' hj)⟩
  · rw [q_sub h, (q_lt (by omega) hj)]
    exact propext (by omega)
theorem i_pred {α : Type} {n j : Nat} (hn : n ≤ 6) (hj : j < 2147483648) {i : Decidable (nI n - nI 1 < nI j)} (A B : α) : @ite α (nI n - nI 1 < nI j) i A B = if n ≤ j then A else B := i_c (q_pred hn hj) A B
theorem f_isCit (N : Nat) (y : MS) (a : TA) (hy : y.1 = em a) (hg : Good a) {j : Nat} (hj : j < 2147483648) : F_X3_isCitizen N y (nI j) = some (bI (decide (j < aN a))) := by
  unfold F_X3_isCitizen F_X3_isIn
  rw [hy]
  try rw [q_c0]
  try rw [em_0]
  rw [i_lt hj (by decide)]
  rw [if_neg (by omega)]
  rw [i_pred hg.1 hj]
  by_cases h : aN a ≤ j
  · rw [if_pos h, decide_eq_false (by omega)]; rfl
  · rw [if_neg h, decide_eq_true (by omega)]; rfl
theorem f_isCit_neg (N : Nat) (y : MS) {p : Int32} (hp : p < 0) : F_X3_isCitizen N y p = some (nI 0) := by
  unfold F_X3_isCitizen
  rw [f_isIn_neg N (by decide) hp]
  rfl
theorem f_isAlive (N : Nat) (a : TA) {c : Nat} (hc : c < 6) : F_X3_isAlive N (em a) (nI c) = some (bI (!aD a c)) := by
  unfold F_X3_isAlive
  have := ix_lt hc (w := 3) (by decide)
  try rw [f_of]
  try simp only [q_bs]
  repeat rw [q_ck this (by decide)]
  repeat rw [q_cl (by omega)]
  try rw [em_d]
  cases aD a c <;> rfl
theorem f_saying {N : Nat} (hN : 2000 ≤ N) {a : TA} (hg : Good a) {t w : Nat} (ht : t < 8) (hw : w ≤ 3) : F_X3_saying N (em a) (nI t) (nI w) = some (nI (say a t w)) := by
  unfold F_X3_saying
  have h6 := hg.1
  have hS : say a t w = cntTo (saysB a t w) (aN a) := cntTo_ge (fun c hc => by unfold saysB live; rw [decide_eq_false (by omega)]; rfl) 6 h6
  rw [hS]
  refine loop_up (fun n (x : Int32 × Int32) => F_X3_saying_5 N (em a) n (nI t) (nI w) x.1 x.2) (fun i => (nI (cntTo (saysB a t w) i), nI i)) (aN a) _ ?_ ?_ N 0 (Nat.zero_le _) (by omega)
  · intro n i hi
    show F_X3_saying_5 N (em a) (n + 1) (nI t) (nI w) (nI (cntTo (saysB a t w) i)) (nI i) = F_X3_saying_5 N (em a) n (nI t) (nI w) (nI (cntTo (saysB a t w) i + (saysB a t w i).toNat)) (nI (i + 1))
    have hx := ix_lt (c := i) (w := 4 + t) (by omega) (by omega)
    have hb := (hg.2.2.2.2.2.1) i t
    rw [F_X3_saying_5]
    try rw [q_c0]
    try rw [em_0]
    rw [if_neg (by rw [q_le (by omega) (by omega)]; omega), f_isAlive N a (by omega)]
    try simp only [q_bs]
    repeat (first | rw [i_b0] | rw [i_nb0])
    unfold F_X3_saying_42
    try rw [nI_add 4 t]
    try rw [f_of]
    try simp only [q_bs]
    repeat rw [q_ck hx (by decide)]
    repeat rw [q_cl (by omega)]
    try rw [em_w a i ht]
    first | rw [i_eq (by omega) (by omega)] | rw [i_ne (by omega) (by omega)]
    try rw [nI_add]
    try rw [nI_add]
    try rw [nI_add]
    unfold saysB live
    rw [decide_eq_true hi]
    cases aD a i
    · rw [if_neg (by decide)]
      by_cases h : aW a i t = w
      · rw [if_neg (fun h2 => h2 h), h]; simp
      · have h2 : (aW a i t == w) = false := by simp [h]
        rw [if_pos h, h2]; rfl
    · rw [if_pos (by first | rfl | decide)]; rfl
  · intro n
    show F_X3_saying_5 N (em a) (n + 1) (nI t) (nI w) (nI (cntTo (saysB a t w) (aN a))) (nI (aN a)) = _
    rw [F_X3_saying_5]
    try rw [q_c0]
    try rw [em_0]
    rw [if_pos (by rw [q_le (by omega) (by omega)]; exact Nat.le_refl _)]
theorem f_isWritten {N : Nat} (hN : 2000 ≤ N) {a : TA} (hg : Good a) {t : Nat} (ht : t < 8) : F_X3_isWritten N (em a) (nI t) = some (bI (wrt a t)) := by
  unfold F_X3_isWritten
  have h1 := say_le a t 1
  have h2 := say_le a t 2
  rw [f_saying hN hg ht (by decide)]
  try simp only [q_bs]
  rw [f_saying hN hg ht (by decide)]
  try simp only [q_bs]
  rw [i_le0 (by omega)]
  rw [i_le0 (by omega)]
  unfold wrt
  by_cases e1 : say a t 1 ≤ 0
  · rw [if_pos e1, decide_eq_false (by omega)]; rfl
  · rw [if_neg e1, decide_eq_true (by omega)]
    by_cases e2 : say a t 2 ≤ 0
    · rw [if_pos e2, decide_eq_false (by omega)]; rfl
    · rw [if_neg e2, decide_eq_true (by omega)]; rfl
theorem q_shl {i : Nat} (hi : i < 31) : nI 1 <<< (nI i &&& 31) = nI (2 ^ i) := by
  have : ∀ j : Fin 31, nI 1 <<< (nI j.val &&& 31) = nI (2 ^ j.val) := by decide +kernel
  exact this ⟨i, hi⟩
theorem q_or {a b : Nat} : nI a ||| nI b = nI (a ||| b) := by
  apply Int32.toBitVec_inj.mp
  show BitVec.ofNat 32 a ||| BitVec.ofNat 32 b = BitVec.ofNat 32 (a ||| b)
  apply BitVec.eq_of_getLsbD_eq
  intro i hi
  simp [BitVec.getLsbD_or, BitVec.getLsbD_ofNat, Nat.testBit_or]
theorem or_pow {m k : Nat} (h : m < 2 ^ k) : m ||| 2 ^ k = m + 2 ^ k := by
  have := Nat.two_pow_add_eq_or_of_lt h 1
  rw [Nat.mul_one] at this
  rw [Nat.or_comm]
  omega
theorem q_msk (f : Nat → Bool) {k : Nat} (hk : k < 31) : nI (mskTo f k) ||| (if f k then nI 1 <<< (nI k &&& 31) else nI 0) = nI (mskTo f (k + 1)) := by
  show _ = nI (mskTo f k + (if f k then 2 ^ k else 0))
  cases f k
  · show nI (mskTo f k) ||| nI 0 = nI (mskTo f k + 0)
    rw [q_or, Nat.or_zero]; rfl
  · show nI (mskTo f k) ||| (nI 1 <<< (nI k &&& 31)) = nI (mskTo f k + 2 ^ k)
    rw [q_shl hk, q_or, or_pow (mskTo_lt f k)]
theorem f_writtenIn {N : Nat} (hN : 2000 ≤ N) {a : TA} (hg : Good a) : F_X3_writtenIn N (em a) = some (nI (book a)) := by
  unfold F_X3_writtenIn
  refine loop_up (fun n (x : Int32 × Int32) => F_X3_writtenIn_4 N (em a) n x.1 x.2) (fun i => (nI (mskTo (wrt a) i), nI i)) 8 _ ?_ ?_ N 0 (Nat.zero_le _) (by omega)
  · intro n i hi
    show F_X3_writtenIn_4 N (em a) (n + 1) (nI (mskTo (wrt a) i)) (nI i) = F_X3_writtenIn_4 N (em a) n (nI (mskTo (wrt a) (i + 1))) (nI (i + 1))
    rw [F_X3_writtenIn_4, if_neg (by rw [q_le (by omega) (by omega)]; omega), f_isWritten hN hg hi]
    try simp only [q_bs]
    repeat (first | rw [i_b0] | rw [i_nb0])
    rw [← q_msk (wrt a) (by omega)]
    unfold F_X3_writtenIn_26
    cases wrt a i
    · rw [if_pos (by first | rfl | decide)]
      (try rw [nI_add]); rfl
    · rw [if_neg (by decide)]
      (try rw [nI_add]); rfl
  · intro n
    show F_X3_writtenIn_4 N (em a) (n + 1) (nI (mskTo (wrt a) 8)) (nI 8) = _
    rw [F_X3_writtenIn_4, if_pos (by decide)]; rfl
theorem f_livingIn {N : Nat} (hN : 2000 ≤ N) {a : TA} (hg : Good a) : F_X3_livingIn N (em a) = some (nI (liv a)) := by
  unfold F_X3_livingIn
  have h6 := hg.1
  have hS : liv a = mskTo (live a) (aN a) := mskTo_ge (fun c hc => by unfold live; rw [decide_eq_false (by omega)]; rfl) 6 h6
  rw [hS]
  refine loop_up (fun n (x : Int32 × Int32) => F_X3_livingIn_4 N (em a) n x.1 x.2) (fun i => (nI (mskTo (live a) i), nI i)) (aN a) _ ?_ ?_ N 0 (Nat.zero_le _) (by omega)
  · intro n i hi
    show F_X3_livingIn_4 N (em a) (n + 1) (nI (mskTo (live a) i)) (nI i) = F_X3_livingIn_4 N (em a) n (nI (mskTo (live a) (i + 1))) (nI (i + 1))
    rw [F_X3_livingIn_4]
    try rw [q_c0]
    try rw [em_0]
    rw [if_neg (by rw [q_le (by omega) (by omega)]; omega), f_isAlive N a (by omega)]
    try simp only [q_bs]
    repeat (first | rw [i_b0] | rw [i_nb0])
    rw [← q_msk (live a) (by omega)]
    have hl : live a i = !aD a i := by unfold live; rw [decide_eq_true hi]; rfl
    rw [hl]
    unfold F_X3_livingIn_27
    cases aD a i
    · rw [if_neg (by decide)]
      (try rw [nI_add]); rfl
    · rw [if_pos (by first | rfl | decide)]
      (try rw [nI_add]); rfl
  · intro n
    show F_X3_livingIn_4 N (em a) (n + 1) (nI (mskTo (live a) (aN a))) (nI (aN a)) = _
    rw [F_X3_livingIn_4]
    try rw [q_c0]
    try rw [em_0]
    rw [if_pos (by rw [q_le (by omega) (by omega)]; exact Nat.le_refl _)]
def pop8 (m : Nat) : Nat := cntTo (fun i => m.testBit i) 8
theorem q_bit {m i : Nat} (hm : m < 2147483648) (hi : i < 31) : ((nI m >>> (nI i &&& 31)) &&& nI 1) = bI (m.testBit i) := by
  have hs : ∀ j : Fin 31, ((nI j.val &&& 31).toBitVec.smod 32).toNat = j.val := by decide +kernel
  rw [pk_shrN hm _ i (hs ⟨i, hi⟩)]
  have e : nI (m / 2 ^ i) &&& nI 1 = nI ((m / 2 ^ i) % 2) := by
    have := pk_andN (n := m / 2 ^ i) (Nat.lt_of_le_of_lt (Nat.div_le_self _ _) (by omega)) (m := nI 1) 1 (by decide)
    rw [this]
  rw [e, Nat.testBit_eq_decide_div_mod_eq]
  rcases Nat.mod_two_eq_zero_or_one (m / 2 ^ i) with h | h <;> rw [h] <;> rfl
theorem f_bits {N : Nat} (hN : 2000 ≤ N) {m : Nat} (hm : m < 2147483648) : F_X3_bits N (nI m) = some (nI (pop8 m)) := by
  unfold F_X3_bits
  refine loop_up (fun n (x : Int32 × Int32) => F_X3_bits_4 N n (nI m) x.1 x.2) (fun i => (nI (cntTo (fun i => m.testBit i) i), nI i)) 8 _ ?_ ?_ N 0 (Nat.zero_le _) (by omega)
  · intro n i hi
    show F_X3_bits_4 N (n + 1) (nI m) (nI (cntTo (fun i => m.testBit i) i)) (nI i) = F_X3_bits_4 N n (nI m) (nI (cntTo (fun i => m.testBit i) i + (m.testBit i).toNat)) (nI (i + 1))
    rw [F_X3_bits_4, if_neg (by rw [q_le (by omega) (by omega)]; omega), q_bit hm (by omega)]
    try rw [nI_add i 1]
    congr 1
    cases m.testBit i <;> exact nI_add _ _
  · intro n
    show F_X3_bits_4 N (n + 1) (nI m) (nI (cntTo (fun i => m.testBit i) 8)) (nI 8) = _
    rw [F_X3_bits_4, if_pos (by decide)]; rfl
theorem mskTo_bit (f : Nat → Bool) : ∀ k i, (mskTo f k).testBit i = (decide (i < k) && f i) := by
  intro k
  induction k with
  | zero => intro i; simp [mskTo]
  | succ k ih =>
    intro i
    show (mskTo f k + (if f k then 2 ^ k else 0)).testBit i = _
    have hlt := mskTo_lt f k
    cases hk : f k
    · rw [if_neg (by decide), Nat.add_zero, ih]
      by_cases h : i = k
      · subst h; simp [hk]
      · by_cases h2 : i < k
        · simp [h2, Nat.lt_succ_of_lt h2]
        · simp [h2, show ¬ i < k + 1 from by omega]
    · rw [if_pos (by first | rfl | decide), ← or_pow hlt, Nat.testBit_or, ih, Nat.testBit_two_pow]
      by_cases h : i = k
      · subst h; simp [hk]
      · by_cases h2 : i < k
        · simp [h2, Nat.lt_succ_of_lt h2, show ¬ k = i from fun e => h e.symm]
        · simp [h2, show ¬ i < k + 1 from by omega, show ¬ k = i from fun e => h e.symm]
theorem pop8_msk8 (f : Nat → Bool) : pop8 (mskTo f 8) = cntTo f 8 := cntTo_congr (fun i hi => by rw [mskTo_bit, decide_eq_true hi]; rfl)
theorem pop8_msk6 (f : Nat → Bool) : pop8 (mskTo f 6) = cntTo f 6 := by
  have h : pop8 (mskTo f 6) = cntTo (fun i => decide (i < 6) && f i) 8 := cntTo_congr (fun i hi => mskTo_bit f 6 i)
  rw [h, cntTo_ge (n := 6) (fun c hc => by rw [decide_eq_false (by omega)]; rfl) 8 (by decide)]
  exact cntTo_congr (fun i hi => by rw [decide_eq_true hi]; rfl)
