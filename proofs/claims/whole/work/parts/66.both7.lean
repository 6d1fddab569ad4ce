/-! both sides, twos who differ, whom to quarrel with, who had better live, who is heir -/
def pickV (o : Option (Nat × Nat)) (w : Nat) : Int32 := match o with
  | none => -9
  | some p => if w = 0 then nI p.1 else nI p.2
def difI (a : TA) (x : Nat) (o : Option (Nat × Nat)) : Nat → Option (Nat × Nat)
  | 0 => o
  | j + 1 => if x < j ∧ live a x = true ∧ live a j = true then maxN (difI a x o j) (10 * x + j) (den a x j) else difI a x o j
def difO (a : TA) : Nat → Option (Nat × Nat)
  | 0 => none
  | x + 1 => difI a x (difO a x) (aN a)
theorem difI_BO {a : TA} {x : Nat} (hx : x < 6) {o : Option (Nat × Nat)} (ho : BO o) : ∀ j, j ≤ 6 → BO (difI a x o j) := by
  intro j
  induction j with
  | zero => intro _; exact ho
  | succ j ih =>
    intro hj
    have hd := den_le a x j
    show BO (if _ then _ else _)
    split
    · exact BO_max (ih (by omega)) (by omega) (by omega)
    · exact ih (by omega)
theorem difI_0 (a : TA) (x : Nat) (o : Option (Nat × Nat)) : ∀ j, j ≤ x + 1 → difI a x o j = o := by
  intro j
  induction j with
  | zero => intro _; rfl
  | succ j ih =>
    intro hj
    show (if _ then _ else _) = _
    rw [if_neg (by omega)]
    exact ih (by omega)
theorem difO_BO {a : TA} (hn : aN a ≤ 6) : ∀ x, x ≤ 6 → BO (difO a x) := by
  intro x
  induction x with
  | zero => intro _; exact BO_none
  | succ x ih => intro h; exact difI_BO (by omega) (ih (by omega)) (aN a) hn
theorem nI_code (a b : Nat) : nI 10 * nI a + nI b = nI (10 * a + b) := by rw [pk_mul, nI_add]
theorem x_difI {N : Nat} (hN : 2000 ≤ N) {g : GS} (hg : GI g) (mind : TA) (pr : FA) (w : Int32) {x : Nat} (hx : x < aN g.1) {o : Option (Nat × Nat)} (ho : BO o) (k35 : XS → Int32 → Int32 → Int32 → Int32 → Option (Int32 × XS)) : F_X2_differ_53 N k35 N (xs g mind pr) w (encF o) (encV (-9) o) (nI x) (nI (x + 1)) = k35 (xs g mind pr) w (encF (difI g.1 x o (aN g.1))) (encV (-9) (difI g.1 x o (aN g.1))) (nI (x + 1)) := by
  have hn := hg.1.1
  have h0 := difI_0 g.1 x o (x + 1) (Nat.le_refl _)
  have main := loop_up (fun n (z : Int32 × Int32 × Int32) => F_X2_differ_53 N k35 n (xs g mind pr) w z.1 z.2.1 (nI x) z.2.2) (fun i => (encF (difI g.1 x o (x + 1 + i)), encV (-9) (difI g.1 x o (x + 1 + i)), nI (x + 1 + i))) (aN g.1 - (x + 1)) (k35 (xs g mind pr) w (encF (difI g.1 x o (aN g.1))) (encV (-9) (difI g.1 x o (aN g.1))) (nI (x + 1))) ?_ ?_
  · have := main N 0 (by omega) (by omega)
    rw [Nat.add_zero, h0] at this
    exact this
  · intro n i hi
    obtain ⟨j, hj⟩ : ∃ j, x + 1 + i = j := ⟨_, rfl⟩
    have hb := difI_BO (by omega) ho j (by omega) (a := g.1) (x := x)
    have hd := den_le g.1 x j
    show F_X2_differ_53 N k35 (n + 1) (xs g mind pr) w (encF (difI g.1 x o (x + 1 + i))) (encV (-9) (difI g.1 x o (x + 1 + i))) (nI x) (nI (x + 1 + i)) = F_X2_differ_53 N k35 n (xs g mind pr) w (encF (difI g.1 x o (x + 1 + i + 1))) (encV (-9) (difI g.1 x o (x + 1 + i + 1))) (nI x) (nI (x + 1 + i + 1))
    rw [hj]
    show _ = F_X2_differ_53 N k35 n (xs g mind pr) w (encF (if x < j ∧ live g.1 x = true ∧ live g.1 j = true then maxN (difI g.1 x o j) (10 * x + j) (den g.1 x j) else difI g.1 x o j)) (encV (-9) (if x < j ∧ live g.1 x = true ∧ live g.1 j = true then maxN (difI g.1 x o j) (10 * x + j) (den g.1 x j) else difI g.1 x o j)) (nI x) (nI (j + 1))
    rw [F_X2_differ_53]
    unfold F_X2_differ_123
    show (if nI (aN g.1) ≤ nI j then _ else (F_X1_isLiving N (TW g.1) (nI x)).bind fun r71 => if r71 = 0 then _ else (F_X1_isLiving N (TW g.1) (nI j)).bind fun r83 => if ¬ r83 = 0 then (F_X1_denials N (TW g.1) (nI x) (nI j)).bind _ else _) = _
    rw [if_neg (by rw [q_le (by omega) (by omega)]; omega), g_isLiving N hg.1 (by omega)]
    try simp only [q_bs]
    rw [g_isLiving N hg.1 (by omega)]
    try simp only [q_bs]
    rw [g_den hN hg.1 (by omega) (by omega)]
    try simp only [q_bs]
    try rw [nI_add]
    rw [nI_code]
    cases hl1 : live g.1 x
    · rw [if_pos (show bI false = 0 from rfl), if_neg (fun e => by cases e.2.1)]
    · rw [if_neg (show ¬ bI true = 0 by decide)]
      cases hl2 : live g.1 j
      · rw [if_neg (fun e => e rfl), if_neg (fun e => by cases e.2.2)]
      · rw [if_pos (show ¬ bI true = 0 by decide), if_pos (show x < j ∧ true = true ∧ true = true from ⟨by omega, rfl, rfl⟩)]
        exact max_le (by decide) hb (10 * x + j) (by omega) (fun p q => F_X2_differ_53 N k35 n (xs g mind pr) w p q (nI x) (nI (j + 1)))
  · intro n
    have hB : x + 1 + (aN g.1 - (x + 1)) = aN g.1 := by omega
    show F_X2_differ_53 N k35 (n + 1) (xs g mind pr) w (encF (difI g.1 x o (x + 1 + (aN g.1 - (x + 1))))) (encV (-9) (difI g.1 x o (x + 1 + (aN g.1 - (x + 1))))) (nI x) (nI (x + 1 + (aN g.1 - (x + 1)))) = _
    rw [hB, F_X2_differ_53]
    unfold F_X2_differ_129
    try rw [nI_add]
    exact if_pos (nI_le (Nat.le_refl _) (by omega))
theorem x_differ {N : Nat} (hN : 2000 ≤ N) {g : GS} (hg : GI g) (mind : TA) (pr : FA) {w : Nat} (hw : w ≤ 1) : F_X2_differ_35 N N (xs g mind pr) (nI w) (-9) (-9) (nI 0) = some (pickV (difO g.1 (aN g.1)) w, xs g mind pr) := by
  have hn := hg.1.1
  refine loop_up (fun n (z : Int32 × Int32 × Int32) => F_X2_differ_35 N n (xs g mind pr) (nI w) z.1 z.2.1 z.2.2) (fun i => (encF (difO g.1 i), encV (-9) (difO g.1 i), nI i)) (aN g.1) _ ?_ ?_ N 0 (Nat.zero_le _) (by omega)
  · intro n x hx
    show F_X2_differ_35 N (n + 1) (xs g mind pr) (nI w) (encF (difO g.1 x)) (encV (-9) (difO g.1 x)) (nI x) = F_X2_differ_35 N n (xs g mind pr) (nI w) (encF (difI g.1 x (difO g.1 x) (aN g.1))) (encV (-9) (difI g.1 x (difO g.1 x) (aN g.1))) (nI (x + 1))
    rw [F_X2_differ_35]
    show (if nI (aN g.1) ≤ nI x then _ else _) = _
    rw [if_neg (by rw [q_le (by omega) (by omega)]; omega)]
    try rw [nI_add]
    exact x_difI hN hg mind pr (nI w) hx (difO_BO hn x (by omega)) (fun ctW cx1 cx2 cx3 cx4 => F_X2_differ_35 N n ctW cx1 cx2 cx3 cx4)
  · intro n
    show F_X2_differ_35 N (n + 1) (xs g mind pr) (nI w) (encF (difO g.1 (aN g.1))) (encV (-9) (difO g.1 (aN g.1))) (nI (aN g.1)) = _
    rw [F_X2_differ_35]
    refine (if_pos (nI_le (Nat.le_refl _) (by omega))).trans ?_
    unfold F_X2_differ_135
    generalize difO g.1 (aN g.1) = o
    rcases (show w = 0 ∨ w = 1 by omega) with rfl | rfl
    · rw [if_neg (fun e => e rfl)]
      cases o <;> rfl
    · rw [if_pos (by decide)]
      cases o <;> rfl
theorem y_difI {N : Nat} (hN : 2000 ≤ N) {g : GS} (hg : GI g) (m was : TA) (pl ma : Int32) (nu to : FA) (se : Int32) (w : Int32) {x : Nat} (hx : x < aN g.1) {o : Option (Nat × Nat)} (ho : BO o) (k35 : MS → Int32 → Int32 → Int32 → Int32 → Option (Int32 × MS)) : F_X3_differ_58 N k35 N (ys g m was pl ma nu to se) w (encF o) (encV (-1) o) (nI x) (nI (x + 1)) = k35 (ys g m was pl ma nu to se) w (encF (difI g.1 x o (aN g.1))) (encV (-1) (difI g.1 x o (aN g.1))) (nI (x + 1)) := by
  have hn := hg.1.1
  have h0 := difI_0 g.1 x o (x + 1) (Nat.le_refl _)
  have main := loop_up (fun n (z : Int32 × Int32 × Int32) => F_X3_differ_58 N k35 n (ys g m was pl ma nu to se) w z.1 z.2.1 (nI x) z.2.2) (fun i => (encF (difI g.1 x o (x + 1 + i)), encV (-1) (difI g.1 x o (x + 1 + i)), nI (x + 1 + i))) (aN g.1 - (x + 1)) (k35 (ys g m was pl ma nu to se) w (encF (difI g.1 x o (aN g.1))) (encV (-1) (difI g.1 x o (aN g.1))) (nI (x + 1))) ?_ ?_
  · have := main N 0 (by omega) (by omega)
    rw [Nat.add_zero, h0] at this
    exact this
  · intro n i hi
    obtain ⟨j, hj⟩ : ∃ j, x + 1 + i = j := ⟨_, rfl⟩
    have hb := difI_BO (by omega) ho j (by omega) (a := g.1) (x := x)
    have hd := den_le g.1 x j
    show F_X3_differ_58 N k35 (n + 1) (ys g m was pl ma nu to se) w (encF (difI g.1 x o (x + 1 + i))) (encV (-1) (difI g.1 x o (x + 1 + i))) (nI x) (nI (x + 1 + i)) = F_X3_differ_58 N k35 n (ys g m was pl ma nu to se) w (encF (difI g.1 x o (x + 1 + i + 1))) (encV (-1) (difI g.1 x o (x + 1 + i + 1))) (nI x) (nI (x + 1 + i + 1))
    rw [hj]
    show _ = F_X3_differ_58 N k35 n (ys g m was pl ma nu to se) w (encF (if x < j ∧ live g.1 x = true ∧ live g.1 j = true then maxN (difI g.1 x o j) (10 * x + j) (den g.1 x j) else difI g.1 x o j)) (encV (-1) (if x < j ∧ live g.1 x = true ∧ live g.1 j = true then maxN (difI g.1 x o j) (10 * x + j) (den g.1 x j) else difI g.1 x o j)) (nI x) (nI (j + 1))
    have hm1 : ¬ encV (-1) (difI g.1 x o j) < -1 := by
      generalize difI g.1 x o j = o2 at *
      cases o2 with
      | none => show ¬ (-1 : Int32) < -1; decide
      | some p =>
        have hp := hb p rfl
        intro e
        have : nI p.2 < 0 := Int32.lt_of_lt_of_le e (by decide)
        exact nI_pos (by omega) this
    rw [F_X3_differ_58]
    unfold F_X3_differ_105 F_X3_differ_128
    show (if em g.1 (nI 0).toNatClampNeg ≤ nI j then _ else (F_X3_isAlive N (em g.1) (nI x)).bind fun r75 => if r75 = 0 then _ else (F_X3_isAlive N (em g.1) (nI j)).bind fun r87 => if r87 = 0 then _ else (F_X3_differing N (ys g m was pl ma nu to se) (nI x) (nI j)).bind _) = _
    try rw [q_c0]
    try rw [em_0]
    rw [if_neg (by rw [q_le (by omega) (by omega)]; omega), f_isAlive N g.1 (by omega)]
    try simp only [q_bs]
    rw [f_isAlive N g.1 (by omega)]
    try simp only [q_bs]
    rw [f_den hN hg.1 rfl (by omega) (by omega)]
    try simp only [q_bs]
    try rw [nI_add]
    rw [nI_code, live_al hx, live_al (show j < aN g.1 by omega)]
    cases aD g.1 x
    · rw [if_neg (show ¬ bI (!false) = 0 by decide)]
      cases aD g.1 j
      · rw [if_neg (show ¬ bI (!false) = 0 by decide), if_pos (show x < j ∧ (!false) = true ∧ (!false) = true from ⟨by omega, rfl, rfl⟩)]
        exact max_lt (by decide) hb (10 * x + j) (by omega) (fun p q => F_X3_differ_58 N k35 n (ys g m was pl ma nu to se) w p q (nI x) (nI (j + 1)))
      · rw [if_pos (show bI (!true) = 0 from rfl), if_neg (show ¬ (x < j ∧ (!false) = true ∧ (!true) = true) from fun e => by cases e.2.2), if_neg hm1]
    · rw [if_pos (show bI (!true) = 0 from rfl), if_neg hm1, if_neg (fun e => by cases e.2.1)]
  · intro n
    have hB : x + 1 + (aN g.1 - (x + 1)) = aN g.1 := by omega
    show F_X3_differ_58 N k35 (n + 1) (ys g m was pl ma nu to se) w (encF (difI g.1 x o (x + 1 + (aN g.1 - (x + 1))))) (encV (-1) (difI g.1 x o (x + 1 + (aN g.1 - (x + 1))))) (nI x) (nI (x + 1 + (aN g.1 - (x + 1)))) = _
    rw [hB, F_X3_differ_58]
    unfold F_X3_differ_134
    show (if em g.1 (nI 0).toNatClampNeg ≤ nI (aN g.1) then _ else _) = _
    try rw [q_c0]
    try rw [em_0]
    try rw [nI_add]
    exact if_pos (nI_le (Nat.le_refl _) (by omega))
theorem y_differ {N : Nat} (hN : 2000 ≤ N) {g : GS} (hg : GI g) (m was : TA) (pl ma : Int32) (nu to : FA) (se : Int32) {w : Nat} (hw : w ≤ 1) : F_X3_differ_41 N N (ys g m was pl ma nu to se) (nI w) (-9) (-1) (nI 0) = some (pickV (difO g.1 (aN g.1)) w, ys g m was pl ma nu to se) := by
  have hn := hg.1.1
  refine loop_up (fun n (z : Int32 × Int32 × Int32) => F_X3_differ_41 N n (ys g m was pl ma nu to se) (nI w) z.1 z.2.1 z.2.2) (fun i => (encF (difO g.1 i), encV (-1) (difO g.1 i), nI i)) (aN g.1) _ ?_ ?_ N 0 (Nat.zero_le _) (by omega)
  · intro n x hx
    show F_X3_differ_41 N (n + 1) (ys g m was pl ma nu to se) (nI w) (encF (difO g.1 x)) (encV (-1) (difO g.1 x)) (nI x) = F_X3_differ_41 N n (ys g m was pl ma nu to se) (nI w) (encF (difI g.1 x (difO g.1 x) (aN g.1))) (encV (-1) (difI g.1 x (difO g.1 x) (aN g.1))) (nI (x + 1))
    rw [F_X3_differ_41]
    show (if em g.1 (nI 0).toNatClampNeg ≤ nI x then _ else _) = _
    try rw [q_c0]
    try rw [em_0]
    rw [if_neg (by rw [q_le (by omega) (by omega)]; omega)]
    try rw [nI_add]
    exact y_difI hN hg m was pl ma nu to se (nI w) hx (difO_BO hn x (by omega)) (fun ctW cx1 cx2 cx3 cx4 => F_X3_differ_41 N n ctW cx1 cx2 cx3 cx4)
  · intro n
    show F_X3_differ_41 N (n + 1) (ys g m was pl ma nu to se) (nI w) (encF (difO g.1 (aN g.1))) (encV (-1) (difO g.1 (aN g.1))) (nI (aN g.1)) = _
    have hb := difO_BO hn (aN g.1) hn
    rw [F_X3_differ_41]
    show (if em g.1 (nI 0).toNatClampNeg ≤ nI (aN g.1) then _ else _) = _
    try rw [q_c0]
    try rw [em_0]
    refine (if_pos (nI_le (Nat.le_refl _) (by omega))).trans ?_
    unfold F_X3_differ_140
    generalize difO g.1 (aN g.1) = o at *
    cases o with
    | none => exact if_pos (by show (-9 : Int32) < 0; decide)
    | some p =>
      have hp := hb p rfl
      refine (if_neg (nI_pos (by omega))).trans ?_
      rcases (show w = 0 ∨ w = 1 by omega) with rfl | rfl
      · exact if_neg (fun e => e rfl)
      · exact if_pos (by decide)
def putT (a : TA) (x j t : Nat) : TA := sW a (updW (updW (aW a) x t 1) j t 2)
theorem Good_putT {a : TA} (h : Good a) {x j t : Nat} (hx : x < aN a) (hj : j < aN a) (ht : t < 8) : Good (putT a x j t) := Good_put (a := sW a (updW (aW a) x t 1)) (Good_put h hx ht (by decide)) hj ht (by decide)
def quaI (a : TA) (t x : Nat) (o : Option (Nat × Nat)) : Nat → Option (Nat × Nat)
  | 0 => o
  | j + 1 => if x ≠ j ∧ live a x = true ∧ live a j = true then maxN (quaI a t x o j) (10 * x + j) (endN (putT a x j t) t) else quaI a t x o j
def quaO (a : TA) (t : Nat) : Nat → Option (Nat × Nat)
  | 0 => none
  | x + 1 => quaI a t x (quaO a t x) (aN a)
theorem quaI_BO {a : TA} {t x : Nat} (hx : x < 6) {o : Option (Nat × Nat)} (ho : BO o) : ∀ j, j ≤ 6 → BO (quaI a t x o j) := by
  intro j
  induction j with
  | zero => intro _; exact ho
  | succ j ih =>
    intro hj
    have hd := endN_le (putT a x j t) t
    show BO (if _ then _ else _)
    split
    · exact BO_max (ih (by omega)) (by omega) (by omega)
    · exact ih (by omega)
theorem quaO_BO {a : TA} {t : Nat} (hn : aN a ≤ 6) : ∀ x, x ≤ 6 → BO (quaO a t x) := by
  intro x
  induction x with
  | zero => intro _; exact BO_none
  | succ x ih => intro h; exact quaI_BO (by omega) (ih (by omega)) (aN a) hn
theorem x_endQ {N : Nat} (hN : 2000 ≤ N) {g : GS} (hg : GI g) {mind : TA} (hm : Good mind) (pr : FA) {x j t : Nat} (hx : x < aN g.1) (hj : j < aN g.1) (ht : t < 8) : ∃ b, Good b ∧ F_X2_endOfQuarrel N (xs g mind pr) (nI x) (nI j) (nI t) = some (nI (endN (putT g.1 x j t) t), xs g b pr) := by
  have hn := hg.1.1
  have h9 := hg.2.1
  have hG := Good_putT hg.1 hx hj ht
  obtain ⟨b, hb, e⟩ := g_endOf hN hG ht (show aY (putT g.1 x j t) < 90000 from by show aY g.1 < 90000; omega)
  refine ⟨b, hb, ?_⟩
  unfold F_X2_endOfQuarrel
  show ((F_X1_become N (TW mind) (TW g.1)).bind fun r8 => (F_X1_put N r8 (nI x) (nI t) (nI 1)).bind fun r18 => (F_X1_put N r18 (nI j) (nI t) (nI 2)).bind fun r28 => (F_X1_endOf N r28 (nI t)).bind fun r36 => some (r36.1, (TW g.1, r36.2, (xs g mind pr).2.2))) = _
  rw [g_become N hm hg.1]
  try simp only [q_bs]
  rw [g_put N g.1 (by omega) ht (by decide)]
  try simp only [q_bs]
  rw [g_put N _ (by omega) ht (by decide)]
  try simp only [q_bs]
  show ((F_X1_endOf N (TW (putT g.1 x j t)) (nI t)).bind _) = _
  rw [e]
  try simp only [q_bs]
theorem x_quaI {N : Nat} (hN : 2000 ≤ N) {g : GS} (hg : GI g) {mind : TA} (hm : Good mind) (pr : FA) {t : Nat} (ht : t < 8) {x : Nat} (hx : x < aN g.1) {o : Option (Nat × Nat)} (ho : BO o) (k22 : XS → Int32 → Int32 → Int32 → Int32 → Option (Int32 × XS)) : ∃ b, Good b ∧ F_X2_quarrel_37 N k22 N (xs g mind pr) (nI t) (encV (-9) o) (encF o) (nI x) (nI 0) = k22 (xs g b pr) (nI t) (encV (-9) (quaI g.1 t x o (aN g.1))) (encF (quaI g.1 t x o (aN g.1))) (nI (x + 1)) := by
  have hn := hg.1.1
  refine loop_ex (fun n (z : XS × Int32 × Int32 × Int32) => F_X2_quarrel_37 N k22 n z.1 (nI t) z.2.1 z.2.2.1 (nI x) z.2.2.2) (fun i z => ∃ b, Good b ∧ z = (xs g b pr, encV (-9) (quaI g.1 t x o i), encF (quaI g.1 t x o i), nI i)) (fun r => ∃ b, Good b ∧ r = k22 (xs g b pr) (nI t) (encV (-9) (quaI g.1 t x o (aN g.1))) (encF (quaI g.1 t x o (aN g.1))) (nI (x + 1))) (aN g.1) ?_ ?_ N 0 (xs g mind pr, encV (-9) o, encF o, nI 0) (Nat.zero_le _) (by omega) ⟨mind, hm, rfl⟩
  · rintro n j z hj ⟨b, hb, rfl⟩
    have hB := quaI_BO (by omega) ho j (by omega) (a := g.1) (x := x) (t := t)
    have hel := endN_le (putT g.1 x j t) t
    obtain ⟨b2, hb2, e2⟩ := x_endQ hN hg hb pr hx hj ht
    have key : ∃ b3, Good b3 ∧ F_X2_quarrel_37 N k22 (n + 1) (xs g b pr) (nI t) (encV (-9) (quaI g.1 t x o j)) (encF (quaI g.1 t x o j)) (nI x) (nI j) = F_X2_quarrel_37 N k22 n (xs g b3 pr) (nI t) (encV (-9) (quaI g.1 t x o (j + 1))) (encF (quaI g.1 t x o (j + 1))) (nI x) (nI (j + 1)) := by
      show ∃ b3, Good b3 ∧ _ = F_X2_quarrel_37 N k22 n (xs g b3 pr) (nI t) (encV (-9) (if x ≠ j ∧ live g.1 x = true ∧ live g.1 j = true then maxN (quaI g.1 t x o j) (10 * x + j) (endN (putT g.1 x j t) t) else quaI g.1 t x o j)) (encF (if x ≠ j ∧ live g.1 x = true ∧ live g.1 j = true then maxN (quaI g.1 t x o j) (10 * x + j) (endN (putT g.1 x j t) t) else quaI g.1 t x o j)) (nI x) (nI (j + 1))
      rw [F_X2_quarrel_37]
      unfold F_X2_quarrel_112
      show ∃ b3, Good b3 ∧ (if nI (aN g.1) ≤ nI j then _ else if nI x = nI j then _ else (F_X1_isLiving N (TW g.1) (nI x)).bind fun r62 => if r62 = 0 then _ else (F_X1_isLiving N (TW g.1) (nI j)).bind fun r74 => if ¬ r74 = 0 then (F_X2_endOfQuarrel N (xs g b pr) (nI x) (nI j) (nI t)).bind _ else _) = _
      rw [if_neg (by rw [q_le (by omega) (by omega)]; omega), i_eq (by omega) (by omega), g_isLiving N hg.1 (by omega)]
      try simp only [q_bs]
      rw [g_isLiving N hg.1 (by omega)]
      try simp only [q_bs]
      rw [e2]
      try simp only [q_bs]
      try rw [nI_add]
      rw [nI_code]
      by_cases hxj : x = j
      · rw [if_pos hxj, if_neg (fun e => e.1 hxj)]
        exact ⟨b, hb, rfl⟩
      · rw [if_neg hxj]
        cases hl1 : live g.1 x
        · rw [if_pos (show bI false = 0 from rfl), if_neg (fun e => by cases e.2.1)]
          exact ⟨b, hb, rfl⟩
        · rw [if_neg (show ¬ bI true = 0 by decide)]
          cases hl2 : live g.1 j
          · rw [if_neg (fun e => e rfl), if_neg (fun e => by cases e.2.2)]
            exact ⟨b, hb, rfl⟩
          · rw [if_pos (show ¬ bI true = 0 by decide), if_pos (show x ≠ j ∧ true = true ∧ true = true from ⟨hxj, rfl, rfl⟩)]
            exact ⟨b2, hb2, max_le (by decide) hB (10 * x + j) (by omega) (fun p q => F_X2_quarrel_37 N k22 n (xs g b2 pr) (nI t) q p (nI x) (nI (j + 1)))⟩
    obtain ⟨b3, hb3, e3⟩ := key
    exact Or.inl ⟨(xs g b3 pr, encV (-9) (quaI g.1 t x o (j + 1)), encF (quaI g.1 t x o (j + 1)), nI (j + 1)), ⟨b3, hb3, rfl⟩, e3⟩
  · rintro n z ⟨b, hb, rfl⟩
    refine ⟨b, hb, ?_⟩
    show F_X2_quarrel_37 N k22 (n + 1) (xs g b pr) (nI t) _ _ (nI x) (nI (aN g.1)) = _
    rw [F_X2_quarrel_37]
    unfold F_X2_quarrel_118
    try rw [nI_add]
    exact if_pos (nI_le (Nat.le_refl _) (by omega))
theorem x_quarrel {N : Nat} (hN : 2000 ≤ N) {g : GS} (hg : GI g) {mind : TA} (hm : Good mind) (pr : FA) {t : Nat} (ht : t < 8) : ∃ b, Good b ∧ F_X2_quarrel_22 N N (xs g mind pr) (nI t) (-9) (-9) (nI 0) = some (encF (quaO g.1 t (aN g.1)), xs g b pr) := by
  have hn := hg.1.1
  refine loop_ex (fun n (z : XS × Int32 × Int32 × Int32) => F_X2_quarrel_22 N n z.1 (nI t) z.2.1 z.2.2.1 z.2.2.2) (fun i z => ∃ b, Good b ∧ z = (xs g b pr, encV (-9) (quaO g.1 t i), encF (quaO g.1 t i), nI i)) (fun r => ∃ b, Good b ∧ r = some (encF (quaO g.1 t (aN g.1)), xs g b pr)) (aN g.1) ?_ ?_ N 0 (xs g mind pr, -9, -9, nI 0) (Nat.zero_le _) (by omega) ⟨mind, hm, rfl⟩
  · rintro n x z hx ⟨b, hb, rfl⟩
    obtain ⟨b2, hb2, e2⟩ := x_quaI hN hg hb pr ht hx (quaO_BO hn x (by omega)) (fun ctW cx1 cx2 cx3 cx4 => F_X2_quarrel_22 N n ctW cx1 cx2 cx3 cx4)
    refine Or.inl ⟨(xs g b2 pr, encV (-9) (quaO g.1 t (x + 1)), encF (quaO g.1 t (x + 1)), nI (x + 1)), ⟨b2, hb2, rfl⟩, ?_⟩
    show F_X2_quarrel_22 N (n + 1) (xs g b pr) (nI t) (encV (-9) (quaO g.1 t x)) (encF (quaO g.1 t x)) (nI x) = _
    rw [F_X2_quarrel_22]
    refine (if_neg (by show ¬ nI (aN g.1) ≤ nI x; rw [q_le (by omega) (by omega)]; omega)).trans ?_
    exact e2
  · rintro n z ⟨b, hb, rfl⟩
    refine ⟨b, hb, ?_⟩
    show F_X2_quarrel_22 N (n + 1) (xs g b pr) (nI t) _ _ (nI (aN g.1)) = _
    rw [F_X2_quarrel_22]
    exact if_pos (nI_le (Nat.le_refl _) (by omega))
theorem y_quaI {N : Nat} (hN : 2000 ≤ N) {g : GS} (hg : GI g) {m : TA} (hm : Good m) (was : TA) (pl ma : Int32) (nu to : FA) (se : Int32) {t : Nat} (ht : t < 8) {x : Nat} (hx : x < aN g.1) {o : Option (Nat × Nat)} (ho : BO o) (k21 : MS → Int32 → Int32 → Int32 → Int32 → Option (Int32 × MS)) : ∃ b, Good b ∧ F_X3_quarrel_35 N k21 N (ys g m was pl ma nu to se) (nI t) (encF o) (encV (-1) o) (nI x) (nI 0) = k21 (ys g b was pl ma nu to se) (nI t) (encF (quaI g.1 t x o (aN g.1))) (encV (-1) (quaI g.1 t x o (aN g.1))) (nI (x + 1)) := by
  have hn := hg.1.1
  have h9 := hg.2.1
  refine loop_ex (fun n (z : MS × Int32 × Int32 × Int32) => F_X3_quarrel_35 N k21 n z.1 (nI t) z.2.1 z.2.2.1 (nI x) z.2.2.2) (fun i z => ∃ b, Good b ∧ z = (ys g b was pl ma nu to se, encF (quaI g.1 t x o i), encV (-1) (quaI g.1 t x o i), nI i)) (fun r => ∃ b, Good b ∧ r = k21 (ys g b was pl ma nu to se) (nI t) (encF (quaI g.1 t x o (aN g.1))) (encV (-1) (quaI g.1 t x o (aN g.1))) (nI (x + 1))) (aN g.1) ?_ ?_ N 0 (ys g m was pl ma nu to se, encF o, encV (-1) o, nI 0) (Nat.zero_le _) (by omega) ⟨m, hm, rfl⟩
  · rintro n j z hj ⟨b, hb, rfl⟩
    have hB := quaI_BO (by omega) ho j (by omega) (a := g.1) (x := x) (t := t)
    have hel := endN_le (putT g.1 x j t) t
    have hG := Good_putT hg.1 hx hj ht
    obtain ⟨b2, hb2, e2⟩ := y_lastsT hN g hG (show aY (putT g.1 x j t) < 90000 from by show aY g.1 < 90000; omega) was pl ma nu to se ht
    have w1 := ix_lt (c := x) (w := 4 + t) (by omega) (by omega)
    have w2 := ix_lt (c := j) (w := 4 + t) (by omega) (by omega)
    have key : ∃ b3, Good b3 ∧ F_X3_quarrel_35 N k21 (n + 1) (ys g b was pl ma nu to se) (nI t) (encF (quaI g.1 t x o j)) (encV (-1) (quaI g.1 t x o j)) (nI x) (nI j) = F_X3_quarrel_35 N k21 n (ys g b3 was pl ma nu to se) (nI t) (encF (quaI g.1 t x o (j + 1))) (encV (-1) (quaI g.1 t x o (j + 1))) (nI x) (nI (j + 1)) := by
      show ∃ b3, Good b3 ∧ _ = F_X3_quarrel_35 N k21 n (ys g b3 was pl ma nu to se) (nI t) (encF (if x ≠ j ∧ live g.1 x = true ∧ live g.1 j = true then maxN (quaI g.1 t x o j) (10 * x + j) (endN (putT g.1 x j t) t) else quaI g.1 t x o j)) (encV (-1) (if x ≠ j ∧ live g.1 x = true ∧ live g.1 j = true then maxN (quaI g.1 t x o j) (10 * x + j) (endN (putT g.1 x j t) t) else quaI g.1 t x o j)) (nI x) (nI (j + 1))
      rw [F_X3_quarrel_35]
      unfold F_X3_quarrel_140 F_X3_quarrel_163
      show ∃ b3, Good b3 ∧ (if em g.1 (nI 0).toNatClampNeg ≤ nI j then _ else if nI x = nI j then _ else (F_X3_isAlive N (em g.1) (nI x)).bind fun r59 => if r59 = 0 then _ else (F_X3_isAlive N (em g.1) (nI j)).bind fun r71 => if ¬ r71 = 0 then (F_X3_copies N (em g.1) (em b)).bind fun r88 => (F_X3_of N (nI x) (nI 4 + nI t)).bind fun r100 => ckI r100 74 ((F_X3_of N (nI j) (nI 4 + nI t)).bind fun r114 => ckI r114 74 ((F_X3_lastsIn N (em g.1, upd (upd r88 r100.toNatClampNeg (nI 1)) r114.toNatClampNeg (nI 2), (ys g m was pl ma nu to se).2.2) ((nI 1) <<< (nI t &&& 31))).bind _)) else _) = _
      try rw [q_c0]
      try rw [em_0]
      rw [if_neg (by rw [q_le (by omega) (by omega)]; omega), i_eq (by omega) (by omega), f_isAlive N g.1 (by omega)]
      try simp only [q_bs]
      rw [f_isAlive N g.1 (by omega)]
      try simp only [q_bs]
      rw [f_copies hN hg.1 hb]
      try simp only [q_bs]
      try rw [nI_add 4 t]
      try rw [f_of]
      try simp only [q_bs]
      try rw [f_of]
      try simp only [q_bs]
      repeat rw [q_ck w1 (by decide)]
      repeat rw [q_ck w2 (by decide)]
      rw [nI_clamp (show ix x (4 + t) < 2 ^ 31 by omega), nI_clamp (show ix j (4 + t) < 2 ^ 31 by omega), em_sW g.1 x t 1 ht, em_sW _ j t 2 ht]
      show ∃ b3, Good b3 ∧ (if x = j then _ else if bI (!aD g.1 x) = 0 then _ else if ¬ bI (!aD g.1 j) = 0 then ((F_X3_lastsIn N (ys g (putT g.1 x j t) was pl ma nu to se) ((nI 1) <<< (nI t &&& 31))).bind _) else _) = _
      rw [e2]
      try simp only [q_bs]
      try rw [nI_add]
      rw [nI_code, live_al hx, live_al hj]
      by_cases hxj : x = j
      · rw [if_pos hxj, if_neg (fun e => e.1 hxj)]
        exact ⟨b, hb, rfl⟩
      · rw [if_neg hxj]
        cases aD g.1 x
        · rw [if_neg (show ¬ bI (!false) = 0 by decide)]
          cases aD g.1 j
          · rw [if_pos (show ¬ bI (!false) = 0 by decide), if_pos (show x ≠ j ∧ (!false) = true ∧ (!false) = true from ⟨hxj, rfl, rfl⟩)]
            refine ⟨b2, hb2, Eq.trans ?_ (max_lt (by decide) hB (10 * x + j) (show endN (putT g.1 x j t) t < 100 by omega) (fun p q => F_X3_quarrel_35 N k21 n (ys g b2 was pl ma nu to se) (nI t) p q (nI x) (nI (j + 1))))⟩
            show (if 0 ≤ ansN (endN (putT g.1 x j t) t) then _ else _) = _
            by_cases h60 : endN (putT g.1 x j t) t ≤ 60
            · have ea : ansN (endN (putT g.1 x j t) t) = nI (endN (putT g.1 x j t) t) := if_pos h60
              rw [ea, if_pos (nI_pos' (by omega))]
            · have ea : ansN (endN (putT g.1 x j t) t) = -9 := if_neg h60
              rw [ea, if_neg (by decide), show endN (putT g.1 x j t) t = 61 by omega]
          · rw [if_neg (fun e => e rfl), if_neg (show ¬ (x ≠ j ∧ (!false) = true ∧ (!true) = true) from fun e => by cases e.2.2)]
            exact ⟨b, hb, rfl⟩
        · rw [if_pos (show bI (!true) = 0 from rfl), if_neg (fun e => by cases e.2.1)]
          exact ⟨b, hb, rfl⟩
    obtain ⟨b3, hb3, e3⟩ := key
    exact Or.inl ⟨(ys g b3 was pl ma nu to se, encF (quaI g.1 t x o (j + 1)), encV (-1) (quaI g.1 t x o (j + 1)), nI (j + 1)), ⟨b3, hb3, rfl⟩, e3⟩
  · rintro n z ⟨b, hb, rfl⟩
    refine ⟨b, hb, ?_⟩
    show F_X3_quarrel_35 N k21 (n + 1) (ys g b was pl ma nu to se) (nI t) _ _ (nI x) (nI (aN g.1)) = _
    rw [F_X3_quarrel_35]
    unfold F_X3_quarrel_169
    try rw [nI_add]
    show (if em g.1 (nI 0).toNatClampNeg ≤ nI (aN g.1) then _ else _) = _
    try rw [q_c0]
    try rw [em_0]
    exact if_pos (nI_le (Nat.le_refl _) (by omega))
theorem y_quarrel {N : Nat} (hN : 2000 ≤ N) {g : GS} (hg : GI g) {m : TA} (hm : Good m) (was : TA) (pl ma : Int32) (nu to : FA) (se : Int32) {t : Nat} (ht : t < 8) : ∃ b, Good b ∧ F_X3_quarrel_21 N N (ys g m was pl ma nu to se) (nI t) (-9) (-1) (nI 0) = some (encF (quaO g.1 t (aN g.1)), ys g b was pl ma nu to se) := by
  have hn := hg.1.1
  refine loop_ex (fun n (z : MS × Int32 × Int32 × Int32) => F_X3_quarrel_21 N n z.1 (nI t) z.2.1 z.2.2.1 z.2.2.2) (fun i z => ∃ b, Good b ∧ z = (ys g b was pl ma nu to se, encF (quaO g.1 t i), encV (-1) (quaO g.1 t i), nI i)) (fun r => ∃ b, Good b ∧ r = some (encF (quaO g.1 t (aN g.1)), ys g b was pl ma nu to se)) (aN g.1) ?_ ?_ N 0 (ys g m was pl ma nu to se, -9, -1, nI 0) (Nat.zero_le _) (by omega) ⟨m, hm, rfl⟩
  · rintro n x z hx ⟨b, hb, rfl⟩
    obtain ⟨b2, hb2, e2⟩ := y_quaI hN hg hb was pl ma nu to se ht hx (quaO_BO hn x (by omega)) (fun ctW cx1 cx2 cx3 cx4 => F_X3_quarrel_21 N n ctW cx1 cx2 cx3 cx4)
    refine Or.inl ⟨(ys g b2 was pl ma nu to se, encF (quaO g.1 t (x + 1)), encV (-1) (quaO g.1 t (x + 1)), nI (x + 1)), ⟨b2, hb2, rfl⟩, ?_⟩
    show F_X3_quarrel_21 N (n + 1) (ys g b was pl ma nu to se) (nI t) (encF (quaO g.1 t x)) (encV (-1) (quaO g.1 t x)) (nI x) = _
    rw [F_X3_quarrel_21]
    refine (if_neg (by show ¬ em g.1 (nI 0).toNatClampNeg ≤ nI x; rw [q_c0, em_0, (q_le (by omega) (by omega))]; omega)).trans ?_
    exact e2
  · rintro n z ⟨b, hb, rfl⟩
    refine ⟨b, hb, ?_⟩
    show F_X3_quarrel_21 N (n + 1) (ys g b was pl ma nu to se) (nI t) _ _ (nI (aN g.1)) = _
    rw [F_X3_quarrel_21]
    show (if em g.1 (nI 0).toNatClampNeg ≤ nI (aN g.1) then _ else _) = _
    try rw [q_c0]
    try rw [em_0]
    exact if_pos (nI_le (Nat.le_refl _) (by omega))
theorem s_quarrel {N : Nat} (hN : 2000 ≤ N) {g : GS} {x : XS} {y : MS} (hx : XR g x) (hy : MR g y) (hg : GI g) (p : Int32) : Both (F_X2_quarrel N x p) (F_X3_quarrel N y p) := by
  have hno := both_no N hx hy hg c1
  unfold F_X2_quarrel F_X3_quarrel
  rcases arg_cases p with hp | ⟨t, ht, rfl⟩
  · rw [g_noTopic_neg N hp, f_isTopic_neg N hp]; exact hno
  · rw [g_noTopic N ht, f_isTopic N ht]
    simp (disch := omega) only [k_0, k_1, k_2, k_3, k_4, k_6, Nat.reduceEqDiff, Nat.reduceLeDiff, Nat.reduceLT, q_le, q_lt, q_eq, q_lt0, q_ge0, q_eq0, q_gt0, q_le0, q_b0, q_ck, q_cl, nI_add, q_bs, ↓reduceIte, not_true_eq_false, not_false_eq_true, Bool.false_eq_true, reduceCtorEq, Bool.not_eq_false', decide_eq_false_iff_not, decide_eq_true_eq, Bool.not_false, Bool.not_true]
    by_cases h : t < 8
    · simp only [k_0, k_1, k_2, k_3, k_4, k_6, Nat.reduceEqDiff, Nat.reduceLeDiff, Nat.reduceLT, q_bs, ↓reduceIte, not_true_eq_false, not_false_eq_true, Bool.false_eq_true, reduceCtorEq, h]
      obtain ⟨mind, pr, hm, rfl⟩ := hx
      obtain ⟨m, was, pl, ma, nu, to, se, h3, h4, rfl⟩ := hy
      obtain ⟨b, hb, e⟩ := x_quarrel hN hg hm pr h
      obtain ⟨m2, hm2, e2⟩ := y_quarrel hN hg h3 was pl ma nu to se h
      rw [e, e2]
      exact ⟨_, g, _, _, rfl, rfl, XR.mk b pr hb rfl, MR.mk m2 was pl ma nu to se hm2 h4 rfl, hg⟩
    · simp only [k_0, k_1, k_2, k_3, k_4, k_6, Nat.reduceEqDiff, Nat.reduceLeDiff, Nat.reduceLT, q_bs, ↓reduceIte, not_true_eq_false, not_false_eq_true, Bool.false_eq_true, reduceCtorEq, h]; exact hno
