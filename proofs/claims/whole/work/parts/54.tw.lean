/-! the class's town -/
def isW (a : TA) (t w : Nat) (i : Nat) : Bool := aW a i t == w
def TW (a : TA) : TownS := (fun i => nI (aK a i), fun i => nI (aF a i), fun i => nI (aA a i), fun t => nI (mskTo (isW a t 1) 6), fun t => nI (mskTo (isW a t 2) 6), nI (aN a), nI (mskTo (live a) 6), nI (aY a))
theorem TW_k (a : TA) (i : Nat) : (TW a).1 i = nI (aK a i) := rfl
theorem TW_f (a : TA) (i : Nat) : (TW a).2.1 i = nI (aF a i) := rfl
theorem TW_a (a : TA) (i : Nat) : (TW a).2.2.1 i = nI (aA a i) := rfl
theorem TW_y (a : TA) (t : Nat) : (TW a).2.2.2.1 t = nI (mskTo (isW a t 1) 6) := rfl
theorem TW_o (a : TA) (t : Nat) : (TW a).2.2.2.2.1 t = nI (mskTo (isW a t 2) 6) := rfl
theorem TW_n (a : TA) : (TW a).2.2.2.2.2.1 = nI (aN a) := rfl
theorem TW_l (a : TA) : (TW a).2.2.2.2.2.2.1 = nI (mskTo (live a) 6) := rfl
theorem TW_Y (a : TA) : (TW a).2.2.2.2.2.2.2 = nI (aY a) := rfl
theorem msk6_lt (f : Nat → Bool) : mskTo f 6 < 64 := mskTo_lt f 6
theorem msk8_lt (f : Nat → Bool) : mskTo f 8 < 256 := mskTo_lt f 8
theorem q_bit6 (f : Nat → Bool) {i : Nat} (hi : i < 6) : (nI (mskTo f 6) >>> (nI i &&& 31)) &&& nI 1 = bI (f i) := by
  have := msk6_lt f
  rw [q_bit (by omega) (by omega), mskTo_bit, decide_eq_true hi]; rfl
theorem q_and (a b : Nat) : nI a &&& nI b = nI (a &&& b) := by
  apply Int32.toBitVec_inj.mp
  show BitVec.ofNat 32 a &&& BitVec.ofNat 32 b = BitVec.ofNat 32 (a &&& b)
  apply BitVec.eq_of_getLsbD_eq
  intro i hi
  simp [BitVec.getLsbD_and, BitVec.getLsbD_ofNat, Nat.testBit_and]
theorem q_and6 (f g : Nat → Bool) (k : Nat) : nI (mskTo f k) &&& nI (mskTo g k) = nI (mskTo (fun i => f i && g i) k) := by
  rw [q_and]
  congr 1
  apply Nat.eq_of_testBit_eq
  intro i
  rw [Nat.testBit_and, mskTo_bit, mskTo_bit, mskTo_bit]
  cases decide (i < k) <;> cases f i <;> cases g i <;> rfl
theorem q_or6 (f g : Nat → Bool) (k : Nat) : nI (mskTo f k) ||| nI (mskTo g k) = nI (mskTo (fun i => f i || g i) k) := by
  rw [q_or]
  congr 1
  apply Nat.eq_of_testBit_eq
  intro i
  rw [Nat.testBit_or, mskTo_bit, mskTo_bit, mskTo_bit]
  cases decide (i < k) <;> cases f i <;> cases g i <;> rfl
theorem q_put1 (f : Nat → Bool) {i : Nat} (hi : i < 6) : nI (mskTo f 6) ||| (nI 1 <<< (nI i &&& 31)) = nI (mskTo (updN f i true) 6) := by
  rw [q_shl (by omega), q_or]
  congr 1
  apply Nat.eq_of_testBit_eq
  intro j
  rw [Nat.testBit_or, mskTo_bit, mskTo_bit, Nat.testBit_two_pow]
  unfold updN
  by_cases h : j = i
  · subst h; simp [hi]
  · have : ¬ i = j := fun e => h e.symm
    simp [h, this]
theorem q_put0 (f : Nat → Bool) {i : Nat} (hi : i < 6) : nI (mskTo f 6) &&& ((nI 1 <<< (nI i &&& 31)) ^^^ (-1)) = nI (mskTo (updN f i false) 6) := by
  have hx : ∀ j : Fin 6, (nI 1 <<< (nI j.val &&& 31)) ^^^ (-1) = nI (4294967295 - 2 ^ j.val) := by decide +kernel
  rw [hx ⟨i, hi⟩, q_and]
  congr 1
  apply Nat.eq_of_testBit_eq
  intro j
  rw [Nat.testBit_and, mskTo_bit, mskTo_bit]
  unfold updN
  have hy : ∀ p : Fin 6, ∀ q : Fin 6, (4294967295 - 2 ^ p.val).testBit q.val = !decide (q.val = p.val) := by decide +kernel
  by_cases h6 : j < 6
  · show (decide (j < 6) && f j && (4294967295 - 2 ^ i).testBit j) = _
    rw [hy ⟨i, hi⟩ ⟨j, h6⟩]
    show (decide (j < 6) && f j && !decide (j = i)) = _
    by_cases h : j = i
    · simp [h]
    · simp [h]
  · rw [decide_eq_false h6]; rfl
theorem q_z0 : (nI 0).toNatClampNeg = 0 := by decide
theorem msk_pos {f : Nat → Bool} {k : Nat} : mskTo f k = 0 ↔ cntTo f k = 0 := by
  induction k with
  | zero => exact Iff.rfl
  | succ k ih =>
    show mskTo f k + (if f k then 2 ^ k else 0) = 0 ↔ cntTo f k + (f k).toNat = 0
    have : 0 < 2 ^ k := Nat.two_pow_pos k
    cases f k
    · simp [ih]
    · simp
theorem bc_N (N : Nat) (x : Int32) : F_J6_bitCount_0f7a4 N x = F_J6_bitCount_0f7a4 0 x := rfl
theorem f_bc64 (N : Nat) {m : Nat} (hm : m < 256) : F_J6_bitCount_0f7a4 N (nI m) = some (nI (pop8 m)) := by
  rw [bc_N]
  have : ∀ j : Fin 256, F_J6_bitCount_0f7a4 0 (nI j.val) = some (nI (pop8 j.val)) := by decide +kernel
  exact this ⟨m, hm⟩
theorem f_bc6 (N : Nat) (f : Nat → Bool) : F_J6_bitCount_0f7a4 N (nI (mskTo f 6)) = some (nI (cntTo f 6)) := by
  have := msk6_lt f
  rw [f_bc64 N (by omega), pop8_msk6]
theorem f_bc8 (N : Nat) (f : Nat → Bool) : F_J6_bitCount_0f7a4 N (nI (mskTo f 8)) = some (nI (cntTo f 8)) := by
  have := msk8_lt f
  rw [f_bc64 N (by omega), pop8_msk8]
theorem g_isLiving (N : Nat) {a : TA} (hg : Good a) {i : Nat} (hi : i < 2147483648) : F_X1_isLiving N (TW a) (nI i) = some (bI (live a i)) := by
  have hn := hg.1
  unfold F_X1_isLiving
  try rw [TW_n]
  try rw [TW_l]
  rw [i_lt0 hi]
  rw [if_neg (fun h => h)]
  rw [i_le (by omega) hi]
  by_cases h : aN a ≤ i
  · rw [if_pos h]; unfold live; rw [decide_eq_false (by omega)]; rfl
  · rw [if_neg h, q_bit6 _ (by omega)]
    cases live a i <;> rfl
theorem g_isLiving_neg (N : Nat) (w : TownS) {p : Int32} (hp : p < 0) : F_X1_isLiving N w p = some (nI 0) := by
  unfold F_X1_isLiving
  rw [if_pos hp]
theorem g_wordOf (N : Nat) {a : TA} (hg : Good a) {i t : Nat} (hi : i < 6) (ht : t < 8) : F_X1_wordOf N (TW a) (nI i) (nI t) = some (nI (aW a i t)) := by
  have hw := hg.2.2.2.2.2.1 i t
  unfold F_X1_wordOf
  repeat rw [q_ck ht (by decide)]
  repeat rw [q_ck ht (by decide)]
  repeat rw [q_cl (by omega)]
  try rw [TW_y]
  try rw [TW_o]
  rw [q_bit6 _ hi, q_bit6 _ hi]
  unfold isW
  rcases (show aW a i t = 0 ∨ aW a i t = 1 ∨ aW a i t = 2 by omega) with e | e | e <;> rw [e] <;> rfl
theorem g_livingYes (N : Nat) {a : TA} {t : Nat} (ht : t < 8) : F_X1_livingYes N (TW a) (nI t) = some (nI (mskTo (saysB a t 1) 6)) := by
  unfold F_X1_livingYes
  repeat rw [q_ck ht (by decide)]
  repeat rw [q_cl (by omega)]
  try rw [TW_y]
  try rw [TW_l]
  rw [q_and6]
  congr 2
  exact mskTo_congr (fun i _ => Bool.and_comm _ _)
theorem g_livingNo (N : Nat) {a : TA} {t : Nat} (ht : t < 8) : F_X1_livingNo N (TW a) (nI t) = some (nI (mskTo (saysB a t 2) 6)) := by
  unfold F_X1_livingNo
  repeat rw [q_ck ht (by decide)]
  repeat rw [q_cl (by omega)]
  try rw [TW_o]
  try rw [TW_l]
  rw [q_and6]
  congr 2
  exact mskTo_congr (fun i _ => Bool.and_comm _ _)
theorem g_isWritten (N : Nat) {a : TA} {t : Nat} (ht : t < 8) : F_X1_isWritten N (TW a) (nI t) = some (bI (wrt a t)) := by
  unfold F_X1_isWritten
  have h1 := msk6_lt (saysB a t 1)
  have h2 := msk6_lt (saysB a t 2)
  rw [g_livingYes N ht]
  try simp only [q_bs]
  rw [g_livingNo N ht]
  try simp only [q_bs]
  first | rw [i_eq0 (by omega)] | rw [i_ne0 (by omega)]
  first | rw [i_eq0 (by omega)] | rw [i_ne0 (by omega)]
  unfold wrt say
  by_cases e1 : mskTo (saysB a t 1) 6 = 0
  · have := msk_pos.mp e1
    rw [if_pos e1, decide_eq_false (by omega)]; rfl
  · have : cntTo (saysB a t 1) 6 ≠ 0 := fun e => e1 (msk_pos.mpr e)
    rw [if_neg e1, decide_eq_true (by omega)]
    by_cases e2 : mskTo (saysB a t 2) 6 = 0
    · have := msk_pos.mp e2
      rw [if_pos e2, decide_eq_false (by omega)]; rfl
    · have : cntTo (saysB a t 2) 6 ≠ 0 := fun e => e2 (msk_pos.mpr e)
      rw [if_neg e2, decide_eq_true (by omega)]; rfl
theorem g_book {N : Nat} (hN : 2000 ≤ N) (a : TA) : F_X1_book N (TW a) = some (nI (book a)) := by
  unfold F_X1_book
  refine loop_up (fun n (x : Int32 × Int32) => F_X1_book_4 N (TW a) n x.1 x.2) (fun i => (nI (mskTo (wrt a) i), nI i)) 8 _ ?_ ?_ N 0 (Nat.zero_le _) (by omega)
  · intro n i hi
    show F_X1_book_4 N (TW a) (n + 1) (nI (mskTo (wrt a) i)) (nI i) = F_X1_book_4 N (TW a) n (nI (mskTo (wrt a) (i + 1))) (nI (i + 1))
    rw [F_X1_book_4, if_neg (by rw [q_le (by omega) (by omega)]; omega), g_isWritten N hi]
    try simp only [q_bs]
    repeat (first | rw [i_b0] | rw [i_nb0])
    rw [← q_msk (wrt a) (by omega)]
    unfold F_X1_book_24
    try rw [nI_add i 1]
    cases wrt a i
    · rw [if_pos (by first | rfl | decide)]
      show _ = F_X1_book_4 N (TW a) n (nI (mskTo (wrt a) i) ||| nI 0) (nI (i + 1))
      rw [q_or, Nat.or_zero]
    · rw [if_neg (by decide)]; rfl
  · intro n
    show F_X1_book_4 N (TW a) (n + 1) (nI (mskTo (wrt a) 8)) (nI 8) = _
    rw [F_X1_book_4, if_pos (by decide)]; rfl
theorem g_bookSize {N : Nat} (hN : 2000 ≤ N) (a : TA) : F_X1_bookSize N (TW a) = some (nI (bookN a)) := by
  unfold F_X1_bookSize
  rw [g_book hN]
  try simp only [q_bs]
  rw [book, f_bc8]
  (try simp only [q_bs]); rfl
theorem g_howMany (N : Nat) (a : TA) : F_X1_howManyLive N (TW a) = some (nI (livN a)) := by
  unfold F_X1_howManyLive
  try rw [TW_l]
  rw [f_bc6]
  (try simp only [q_bs]); rfl
theorem va_cpy_f {f g : FA} {n : Nat} (h : ∀ j, n ≤ j → f j = g j) : va_cpy f g 0 0 n = f := by
  funext j
  unfold va_cpy
  by_cases hj : j < n
  · rw [if_pos (by omega)]; congr 1; omega
  · rw [if_neg (by omega)]; exact (h j (by omega)).symm
theorem Good_tail {a : TA} (hg : Good a) {c : Nat} (hc : 6 ≤ c) : aK a c = 0 ∧ aF a c = 0 ∧ aA a c = 0 ∧ aD a c = false ∧ ∀ t, aW a c t = 0 := hg.2.2.2.2.2.2.1 c (Nat.le_trans hg.1 hc)
theorem g_become (N : Nat) {a b : TA} (ha : Good a) (hb : Good b) : F_X1_become N (TW a) (TW b) = some (TW b) := by
  unfold F_X1_become
  have e6 : (nI 6).toNatClampNeg = 6 := by decide
  have e8 : (nI 8).toNatClampNeg = 8 := by decide
  rw [q_z0, e6, e8]
  have h1 : va_cpy (TW b).1 (TW a).1 0 0 6 = (TW b).1 := va_cpy_f (fun j hj => by rw [TW_k, TW_k, (Good_tail ha hj).1, (Good_tail hb hj).1])
  have h2 : va_cpy (TW b).2.1 (TW a).2.1 0 0 6 = (TW b).2.1 := va_cpy_f (fun j hj => by rw [TW_f, TW_f, (Good_tail ha hj).2.1, (Good_tail hb hj).2.1])
  have h3 : va_cpy (TW b).2.2.1 (TW a).2.2.1 0 0 6 = (TW b).2.2.1 := va_cpy_f (fun j hj => by rw [TW_a, TW_a, (Good_tail ha hj).2.2.1, (Good_tail hb hj).2.2.1])
  have z : ∀ {x : TA}, Good x → ∀ w t, w ≠ 0 → 8 ≤ t → mskTo (isW x t w) 6 = 0 := by
    intro x hx w t hw ht
    refine (mskTo_ge (n := 0) (fun c _ => ?_) 6 (by decide)).trans rfl
    unfold isW
    rw [hx.2.2.2.2.2.2.2 c t ht]
    cases w with
    | zero => exact absurd rfl hw
    | succ w => rfl
  have h4 : va_cpy (TW b).2.2.2.1 (TW a).2.2.2.1 0 0 8 = (TW b).2.2.2.1 := va_cpy_f (fun j hj => by rw [TW_y, TW_y, z hb 1 j (by decide) hj, z ha 1 j (by decide) hj])
  have h5 : va_cpy (TW b).2.2.2.2.1 (TW a).2.2.2.2.1 0 0 8 = (TW b).2.2.2.2.1 := va_cpy_f (fun j hj => by rw [TW_o, TW_o, z hb 2 j (by decide) hj, z ha 2 j (by decide) hj])
  rw [h1, h2, h3, h4, h5]
theorem TW_ext {x : TownS} {a : TA} (h1 : ∀ i, x.1 i = nI (aK a i)) (h2 : ∀ i, x.2.1 i = nI (aF a i)) (h3 : ∀ i, x.2.2.1 i = nI (aA a i)) (h4 : ∀ t, x.2.2.2.1 t = nI (mskTo (isW a t 1) 6)) (h5 : ∀ t, x.2.2.2.2.1 t = nI (mskTo (isW a t 2) 6)) (h6 : x.2.2.2.2.2.1 = nI (aN a)) (h7 : x.2.2.2.2.2.2.1 = nI (mskTo (live a) 6)) (h8 : x.2.2.2.2.2.2.2 = nI (aY a)) : x = TW a :=
  Prod.ext (funext h1) (Prod.ext (funext h2) (Prod.ext (funext h3) (Prod.ext (funext h4) (Prod.ext (funext h5) (Prod.ext h6 (Prod.ext h7 h8))))))
theorem g_put (N : Nat) (a : TA) {i t w : Nat} (hi : i < 6) (ht : t < 8) (hw : w ≤ 2) : F_X1_put N (TW a) (nI i) (nI t) (nI w) = some (TW (sW a (updW (aW a) i t w))) := by
  have m1 : ∀ u v : Nat, ∀ b : Bool, b = (v == u) → ∀ s, (if s = t then nI (mskTo (updN (isW a t u) i b) 6) else nI (mskTo (isW a s u) 6)) = nI (mskTo (isW (sW a (updW (aW a) i t v)) s u) 6) := by
    intro u v b hb s
    by_cases h : s = t
    · subst h
      rw [if_pos (by first | rfl | decide)]
      congr 1
      refine mskTo_congr (fun j _ => ?_)
      show (if j = i then b else isW a s u j) = (updW (aW a) i s v j s == u)
      unfold updW
      by_cases hj : j = i
      · rw [if_pos hj, if_pos ⟨hj, rfl⟩, hb]
      · rw [if_neg hj, if_neg (fun e => hj e.1)]; rfl
    · rw [if_neg h]
      congr 1
      refine mskTo_congr (fun j _ => ?_)
      show isW a s u j = (updW (aW a) i t v j s == u)
      unfold updW
      rw [if_neg (fun e => h e.2)]; rfl
  unfold F_X1_put F_X1_put_38 F_X1_put_72
  repeat rw [q_ck ht (by decide)]
  repeat rw [q_ck ht (by decide)]
  repeat rw [q_ck ht (by decide)]
  repeat rw [q_ck ht (by decide)]
  repeat rw [q_ck ht (by decide)]
  repeat rw [q_cl (by omega)]
  try rw [TW_y]
  try rw [TW_o]
  rw [q_put0 _ hi, q_put1 _ hi, q_put0 _ hi, q_put1 _ hi]
  rcases (show w = 0 ∨ w = 1 ∨ w = 2 by omega) with e | e | e <;> subst e
  · rw [if_pos (by decide), if_pos (by decide)]
    exact congrArg some (TW_ext (fun _ => rfl) (fun _ => rfl) (fun _ => rfl) (m1 1 0 false rfl) (m1 2 0 false rfl) rfl rfl rfl)
  · rw [if_neg (by decide), if_pos (by decide)]
    exact congrArg some (TW_ext (fun _ => rfl) (fun _ => rfl) (fun _ => rfl) (m1 1 1 true rfl) (m1 2 1 false rfl) rfl rfl rfl)
  · rw [if_pos (by decide), if_neg (by decide)]
    exact congrArg some (TW_ext (fun _ => rfl) (fun _ => rfl) (fun _ => rfl) (m1 1 2 false rfl) (m1 2 2 true rfl) rfl rfl rfl)
