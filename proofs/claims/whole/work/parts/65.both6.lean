/-! both sides, the largest and the first of them -/
def encF (o : Option (Nat × Nat)) : Int32 := match o with
  | none => -9
  | some p => nI p.1
def encV (E : Int32) (o : Option (Nat × Nat)) : Int32 := match o with
  | none => E
  | some p => nI p.2
def maxN (o : Option (Nat × Nat)) (c v : Nat) : Option (Nat × Nat) := match o with
  | none => some (c, v)
  | some p => if p.2 < v then some (c, v) else some p
def minN (o : Option (Nat × Nat)) (c v : Nat) : Option (Nat × Nat) := match o with
  | none => some (c, v)
  | some p => if v < p.2 then some (c, v) else some p
def BO (o : Option (Nat × Nat)) : Prop := ∀ p, o = some p → p.1 < 100 ∧ p.2 < 100
theorem BO_none : BO none := fun p h => by cases h
theorem BO_max {o : Option (Nat × Nat)} (h : BO o) {c v : Nat} (hc : c < 100) (hv : v < 100) : BO (maxN o c v) := by
  intro p hp
  cases o with
  | none =>
    obtain rfl := Option.some.inj (show some (c, v) = some p from hp)
    exact ⟨hc, hv⟩
  | some q =>
    have hp : (if q.2 < v then some (c, v) else some q) = some p := hp
    by_cases e : q.2 < v
    · rw [if_pos e] at hp
      obtain rfl := Option.some.inj hp
      exact ⟨hc, hv⟩
    · rw [if_neg e] at hp
      obtain rfl := Option.some.inj hp
      exact h q rfl
theorem BO_min {o : Option (Nat × Nat)} (h : BO o) {c v : Nat} (hc : c < 100) (hv : v < 100) : BO (minN o c v) := by
  intro p hp
  cases o with
  | none =>
    obtain rfl := Option.some.inj (show some (c, v) = some p from hp)
    exact ⟨hc, hv⟩
  | some q =>
    have hp : (if v < q.2 then some (c, v) else some q) = some p := hp
    by_cases e : v < q.2
    · rw [if_pos e] at hp
      obtain rfl := Option.some.inj hp
      exact ⟨hc, hv⟩
    · rw [if_neg e] at hp
      obtain rfl := Option.some.inj hp
      exact h q rfl
theorem max_le {α : Type} {E : Int32} (hE : E < 0) {o : Option (Nat × Nat)} (ho : BO o) (c : Nat) {v : Nat} (hv : v < 100) (k : Int32 → Int32 → α) : (if nI v ≤ encV E o then k (encF o) (encV E o) else k (nI c) (nI v)) = k (encF (maxN o c v)) (encV E (maxN o c v)) := by
  cases o with
  | none => exact if_neg (neg_nle hE (by omega))
  | some p =>
    have hp := ho p rfl
    show (if nI v ≤ nI p.2 then k (nI p.1) (nI p.2) else k (nI c) (nI v)) = k (encF (if p.2 < v then some (c, v) else some p)) (encV E (if p.2 < v then some (c, v) else some p))
    rw [i_le (by omega) (by omega)]
    by_cases h : v ≤ p.2
    · rw [if_pos h, if_neg (by omega)]; rfl
    · rw [if_neg h, if_pos (by omega)]; rfl
theorem max_lt {α : Type} {E : Int32} (hE : E < 0) {o : Option (Nat × Nat)} (ho : BO o) (c : Nat) {v : Nat} (hv : v < 100) (k : Int32 → Int32 → α) : (if encV E o < nI v then k (nI c) (nI v) else k (encF o) (encV E o)) = k (encF (maxN o c v)) (encV E (maxN o c v)) := by
  cases o with
  | none => exact if_pos (neg_lt hE (by omega))
  | some p =>
    have hp := ho p rfl
    show (if nI p.2 < nI v then k (nI c) (nI v) else k (nI p.1) (nI p.2)) = k (encF (if p.2 < v then some (c, v) else some p)) (encV E (if p.2 < v then some (c, v) else some p))
    rw [i_lt (by omega) (by omega)]
    by_cases h : p.2 < v
    · rw [if_pos h, if_pos h]; rfl
    · rw [if_neg h, if_neg h]; rfl
theorem live_al {a : TA} {c : Nat} (h : c < aN a) : live a c = !aD a c := by
  unfold live
  rw [decide_eq_true h]; rfl
def bigS (a : TA) : Nat → Option (Nat × Nat)
  | 0 => none
  | i + 1 => if live a i then maxN (bigS a i) i (chap a i) else bigS a i
theorem bigS_BO (a : TA) : ∀ i, i < 100 → BO (bigS a i) := by
  intro i
  induction i with
  | zero => intro _; exact BO_none
  | succ i ih =>
    intro h
    show BO (if live a i then maxN (bigS a i) i (chap a i) else bigS a i)
    have := chap_le a i
    cases live a i
    · exact ih (by omega)
    · exact BO_max (ih (by omega)) (by omega) (by omega)
theorem bigS_in (a : TA) : ∀ i p, bigS a i = some p → p.1 < i ∧ p.2 = chap a p.1 := by
  intro i
  induction i with
  | zero => intro p h; cases h
  | succ i ih =>
    intro p h
    have h : (if live a i then maxN (bigS a i) i (chap a i) else bigS a i) = some p := h
    cases hl : live a i
    · rw [hl, if_neg (by decide)] at h
      have := ih p h
      exact ⟨by omega, this.2⟩
    · rw [hl, if_pos rfl] at h
      cases e : bigS a i with
      | none =>
        rw [e] at h
        obtain rfl := Option.some.inj (show some (i, chap a i) = some p from h)
        exact ⟨Nat.lt_succ_self i, rfl⟩
      | some q =>
        rw [e] at h
        have h : (if q.2 < chap a i then some (i, chap a i) else some q) = some p := h
        have hq := ih q e
        by_cases e : q.2 < chap a i
        · rw [if_pos e] at h
          obtain rfl := Option.some.inj h
          exact ⟨Nat.lt_succ_self i, rfl⟩
        · rw [if_neg e] at h
          obtain rfl := Option.some.inj h
          exact ⟨by omega, hq.2⟩
theorem x_largest {N : Nat} (hN : 2000 ≤ N) {g : GS} (hg : GI g) (mind : TA) (pr : FA) : F_X2_largestChapter N (xs g mind pr) = some (encF (bigS g.1 (aN g.1))) := by
  have hn := hg.1.1
  unfold F_X2_largestChapter
  refine loop_up (fun n (z : Int32 × Int32 × Int32) => F_X2_largestChapter_8 N (xs g mind pr) n z.1 z.2.1 z.2.2) (fun i => (encF (bigS g.1 i), encV (-9) (bigS g.1 i), nI i)) (aN g.1) _ ?_ ?_ N 0 (Nat.zero_le _) (by omega)
  · intro n i hi
    show F_X2_largestChapter_8 N (xs g mind pr) (n + 1) (encF (bigS g.1 i)) (encV (-9) (bigS g.1 i)) (nI i) = F_X2_largestChapter_8 N (xs g mind pr) n (encF (if live g.1 i then maxN (bigS g.1 i) i (chap g.1 i) else bigS g.1 i)) (encV (-9) (if live g.1 i then maxN (bigS g.1 i) i (chap g.1 i) else bigS g.1 i)) (nI (i + 1))
    have hb := bigS_BO g.1 i (by omega)
    have hc := chap_le g.1 i
    rw [F_X2_largestChapter_8]
    show (if nI (aN g.1) ≤ nI i then _ else (F_X1_isLiving N (TW g.1) (nI i)).bind fun r24 => if r24 = 0 then _ else (F_X1_chapterOf N (TW g.1) (nI i)).bind fun r35 => if r35 ≤ encV (-9) (bigS g.1 i) then _ else (F_X1_chapterOf N (TW g.1) (nI i)).bind _) = _
    rw [if_neg (by rw [q_le (by omega) (by omega)]; omega), g_isLiving N hg.1 (by omega)]
    try simp only [q_bs]
    rw [g_chap hN hg.1 (by omega)]
    try simp only [q_bs]
    try simp only [q_bs]
    unfold F_X2_largestChapter_53
    try rw [nI_add]
    cases live g.1 i
    · rw [if_pos (show bI false = 0 from rfl)]; rfl
    · rw [if_neg (by decide), if_pos rfl]
      exact max_le (by decide) hb i (by omega) (fun p q => F_X2_largestChapter_8 N (xs g mind pr) n p q (nI (i + 1)))
  · intro n
    show F_X2_largestChapter_8 N (xs g mind pr) (n + 1) _ _ (nI (aN g.1)) = _
    rw [F_X2_largestChapter_8]
    exact if_pos (nI_le (Nat.le_refl _) (by omega))
theorem y_largest {N : Nat} (hN : 2000 ≤ N) {g : GS} (hg : GI g) (m was : TA) (pl ma : Int32) (nu to : FA) (se : Int32) : F_X3_chapter_37 N N (ys g m was pl ma nu to se) (-9) (nI 0) = some (encF (bigS g.1 (aN g.1)), ys g m was pl ma nu to se) := by
  have hn := hg.1.1
  refine loop_up (fun n (z : Int32 × Int32) => F_X3_chapter_37 N n (ys g m was pl ma nu to se) z.1 z.2) (fun i => (encF (bigS g.1 i), nI i)) (aN g.1) _ ?_ ?_ N 0 (Nat.zero_le _) (by omega)
  · intro n i hi
    show F_X3_chapter_37 N (n + 1) (ys g m was pl ma nu to se) (encF (bigS g.1 i)) (nI i) = F_X3_chapter_37 N n (ys g m was pl ma nu to se) (encF (if live g.1 i then maxN (bigS g.1 i) i (chap g.1 i) else bigS g.1 i)) (nI (i + 1))
    have hb := bigS_BO g.1 i (by omega)
    have hin := bigS_in g.1 i
    have hc := chap_le g.1 i
    rw [F_X3_chapter_37]
    show (if em g.1 (nI 0).toNatClampNeg ≤ nI i then _ else (F_X3_isAlive N (em g.1) (nI i)).bind fun r52 => if r52 = 0 then _ else if encF (bigS g.1 i) < 0 then _ else (F_X3_chapterOf N (em g.1) (nI i)).bind fun r67 => (F_X3_chapterOf N (em g.1) (encF (bigS g.1 i))).bind _) = _
    try rw [q_c0]
    try rw [em_0]
    rw [if_neg (by rw [q_le (by omega) (by omega)]; omega), f_isAlive N g.1 (by omega)]
    try simp only [q_bs]
    rw [live_al hi, f_chap hN hg.1 hi]
    try simp only [q_bs]
    unfold F_X3_chapter_81 F_X3_chapter_83
    try rw [nI_add]
    cases aD g.1 i
    · rw [if_neg (by decide), if_pos (show (!false) = true from rfl)]
      generalize bigS g.1 i = o at *
      cases o with
      | none => exact if_pos (by show (-9 : Int32) < 0; decide)
      | some p =>
        have hp := hb p rfl
        have hp2 := hin p rfl
        show (if nI p.1 < 0 then _ else (F_X3_chapterOf N (em g.1) (nI p.1)).bind _) = F_X3_chapter_37 N n (ys g m was pl ma nu to se) (encF (if p.2 < chap g.1 i then some (i, chap g.1 i) else some p)) (nI (i + 1))
        rw [i_lt0 (by omega), if_neg (fun e => e), f_chap hN hg.1 (by omega)]
        try simp only [q_bs]
        rw [← hp2.2]
        rw [i_le (by omega) (by omega)]
        by_cases h : chap g.1 i ≤ p.2
        · exact (if_pos h).trans (by rw [if_neg (by omega)])
        · rw [if_neg h, if_pos (by omega)]; rfl
    · rw [if_pos (show bI (!true) = 0 from rfl)]
      rfl
  · intro n
    show F_X3_chapter_37 N (n + 1) (ys g m was pl ma nu to se) _ (nI (aN g.1)) = _
    rw [F_X3_chapter_37]
    show (if em g.1 (nI 0).toNatClampNeg ≤ nI (aN g.1) then _ else _) = _
    try rw [q_c0]
    try rw [em_0]
    exact if_pos (nI_le (Nat.le_refl _) (by omega))
theorem s_chapter {N : Nat} (hN : 2000 ≤ N) {g : GS} {x : XS} {y : MS} (hx : XR g x) (hy : MR g y) (hg : GI g) (p : Int32) : Both (F_X2_chapter N x p) (F_X3_chapter N y p) := by
  have hno := both_no N hx hy hg c1
  have hn := hg.1.1
  unfold F_X2_chapter F_X3_chapter F_X3_chapter_19
  by_cases hp1 : p = -1
  · subst hp1
    obtain ⟨mind, pr, hm, rfl⟩ := hx
    obtain ⟨m, was, pl, ma, nu, to, se, h3, h4, rfl⟩ := hy
    rw [if_neg (fun e => e rfl), if_pos (Eq.refl (-1 : Int32)), if_pos (by decide), x_largest hN hg, y_largest hN hg]
    try simp only [q_bs]
    exact ⟨_, g, _, _, rfl, rfl, XR.mk mind pr hm rfl, MR.mk m was pl ma nu to se h3 h4 rfl, hg⟩
  · rw [if_pos hp1, if_neg hp1]
    rcases arg_cases p with hp | ⟨j, hj, rfl⟩
    · rw [x_noCit_neg N x hp, f_isCit_neg N y hp]; exact hno
    · obtain ⟨mind, pr, hm, rfl⟩ := hx
      obtain ⟨m, was, pl, ma, nu, to, se, h3, h4, rfl⟩ := hy
      rw [x_noCit N g mind pr hg hj, f_isCit N _ g.1 rfl hg.1 hj]
      simp (disch := omega) only [k_0, k_1, k_2, k_3, k_4, k_6, Nat.reduceEqDiff, Nat.reduceLeDiff, Nat.reduceLT, q_le, q_lt, q_eq, q_lt0, q_ge0, q_eq0, q_gt0, q_le0, q_b0, q_ck, q_cl, nI_add, q_bs, ↓reduceIte, not_true_eq_false, not_false_eq_true, Bool.false_eq_true, reduceCtorEq, Bool.not_eq_false', decide_eq_false_iff_not, decide_eq_true_eq, Bool.not_false, Bool.not_true]
      by_cases h : j < aN g.1
      · simp only [k_0, k_1, k_2, k_3, k_4, k_6, Nat.reduceEqDiff, Nat.reduceLeDiff, Nat.reduceLT, q_bs, ↓reduceIte, not_true_eq_false, not_false_eq_true, Bool.false_eq_true, reduceCtorEq, h]
        rw [g_chap hN hg.1 (by omega)]
        try simp only [q_bs]
        show Both _ ((F_X3_chapterOf N (em g.1) (nI j)).bind _)
        rw [f_chap hN hg.1 h]
        try simp only [q_bs]
        exact ⟨_, g, _, _, rfl, rfl, XR.mk mind pr hm rfl, MR.mk m was pl ma nu to se h3 h4 rfl, hg⟩
      · simp only [k_0, k_1, k_2, k_3, k_4, k_6, Nat.reduceEqDiff, Nat.reduceLeDiff, Nat.reduceLT, q_bs, ↓reduceIte, not_true_eq_false, not_false_eq_true, Bool.false_eq_true, reduceCtorEq, h]; exact hno
/-! who is silent, who are friends -/
def silB (a : TA) (w t : Nat) : Bool := if w = 0 then decide (say a t 1 + say a t 2 = 0) else (!decide (say a t 1 + say a t 2 = 0) && !wrt a t)
theorem put_t (f : Nat → Bool) {k : Nat} (hk : k < 31) (h : f k = true) : nI (mskTo f k) ||| (nI 1 <<< (nI k &&& 31)) = nI (mskTo f (k + 1)) := by
  rw [← q_msk f hk, h, if_pos rfl]
theorem put_f (f : Nat → Bool) {k : Nat} (hk : k < 31) (h : f k = false) : nI (mskTo f k) = nI (mskTo f (k + 1)) := by
  rw [← q_msk f hk, h, if_neg (by decide), q_or, Nat.or_zero]
theorem put_0 (f : Nat → Bool) {k : Nat} (hk : k < 31) (h : f k = false) : nI (mskTo f k) ||| nI 0 = nI (mskTo f (k + 1)) := by
  rw [← q_msk f hk, h, if_neg (by decide)]
theorem x_silent {N : Nat} (hN : 2000 ≤ N) (g : GS) (mind : TA) (pr : FA) {w : Nat} (hw : w ≤ 1) : F_X2_silent_20 N N (xs g mind pr) (nI w) (nI 0) (nI 0) = some (nI (mskTo (silB g.1 w) 8), xs g mind pr) := by
  refine loop_up (fun n (z : Int32 × Int32) => F_X2_silent_20 N n (xs g mind pr) (nI w) z.1 z.2) (fun i => (nI (mskTo (silB g.1 w) i), nI i)) 8 _ ?_ ?_ N 0 (Nat.zero_le _) (by omega)
  · intro n t ht
    show F_X2_silent_20 N (n + 1) (xs g mind pr) (nI w) (nI (mskTo (silB g.1 w) t)) (nI t) = F_X2_silent_20 N n (xs g mind pr) (nI w) (nI (mskTo (silB g.1 w) (t + 1))) (nI (t + 1))
    have m1 := msk6_lt (fun i => saysB g.1 t 1 i || saysB g.1 t 2 i)
    have hz : mskTo (fun i => saysB g.1 t 1 i || saysB g.1 t 2 i) 6 = 0 ↔ say g.1 t 1 + say g.1 t 2 = 0 := by
      constructor
      · intro h
        have h1 : ∀ i, i < 6 → saysB g.1 t 1 i = false ∧ saysB g.1 t 2 i = false := by
          intro i hi
          have := mskTo_bit (fun i => saysB g.1 t 1 i || saysB g.1 t 2 i) 6 i
          rw [h, Nat.zero_testBit, decide_eq_true hi, Bool.true_and] at this
          have := this.symm
          rw [Bool.or_eq_false_iff] at this
          exact this
        have e1 := (msk_say g.1 t 1).mp (msk_zero (fun i hi => (h1 i hi).1))
        have e2 := (msk_say g.1 t 2).mp (msk_zero (fun i hi => (h1 i hi).2))
        omega
      · intro h
        have e1 := (msk_say g.1 t 1).mpr (by omega)
        have e2 := (msk_say g.1 t 2).mpr (by omega)
        refine msk_zero (fun i hi => ?_)
        have f1 : saysB g.1 t 1 i = false := by
          cases e : saysB g.1 t 1 i
          · rfl
          · exact absurd e1 (msk_ne hi e)
        have f2 : saysB g.1 t 2 i = false := by
          cases e : saysB g.1 t 2 i
          · rfl
          · exact absurd e2 (msk_ne hi e)
        rw [f1, f2]; rfl
    rw [F_X2_silent_20, if_neg (by rw [q_le (by omega) (by omega)]; omega)]
    show ((F_X1_livingYes N (TW g.1) (nI t)).bind fun r31 => (F_X1_livingNo N (TW g.1) (nI t)).bind _) = _
    rw [g_livingYes N ht, g_livingNo N ht]
    try simp only [q_bs]
    try simp only [q_bs]
    rw [q_or6]
    rw [i_eq0 (by omega)]
    unfold F_X2_silent_51 F_X2_silent_91 F_X2_silent_104
    show (if mskTo (fun i => saysB g.1 t 1 i || saysB g.1 t 2 i) 6 = 0 then (if ¬ nI w = 0 then if nI 0 = 0 then _ else (F_X1_isWritten N (TW g.1) (nI t)).bind _ else _) else (if ¬ nI w = 0 then if nI 1 = 0 then _ else (F_X1_isWritten N (TW g.1) (nI t)).bind _ else _)) = _
    rw [g_isWritten N ht]
    try simp only [q_bs]
    try simp only [q_bs]
    try rw [nI_add]
    rcases (show w = 0 ∨ w = 1 by omega) with rfl | rfl
    · by_cases h : say g.1 t 1 + say g.1 t 2 = 0
      · have hs : silB g.1 0 t = true := decide_eq_true h
        rw [if_pos (hz.mpr h), ← put_t _ (by omega) hs]; rfl
      · have hs : silB g.1 0 t = false := decide_eq_false h
        rw [if_neg (fun e => h (hz.mp e)), ← put_f _ (by omega) hs]; rfl
    · by_cases h : say g.1 t 1 + say g.1 t 2 = 0
      · have hs : silB g.1 1 t = false := by
          show (!decide (say g.1 t 1 + say g.1 t 2 = 0) && !wrt g.1 t) = false
          rw [decide_eq_true h]; rfl
        rw [if_pos (hz.mpr h), ← put_f _ (by omega) hs]; rfl
      · have hs : silB g.1 1 t = !wrt g.1 t := by
          show (!decide (say g.1 t 1 + say g.1 t 2 = 0) && !wrt g.1 t) = _
          rw [decide_eq_false h]; rfl
        rw [if_neg (fun e => h (hz.mp e))]
        cases hwr : wrt g.1 t
        · rw [hwr] at hs
          rw [← put_t _ (by omega) hs]; rfl
        · rw [hwr] at hs
          rw [← put_f _ (by omega) hs]; rfl
  · intro n
    show F_X2_silent_20 N (n + 1) (xs g mind pr) (nI w) _ (nI 8) = _
    rw [F_X2_silent_20, if_pos (by decide)]
theorem y_silent {N : Nat} (hN : 2000 ≤ N) {g : GS} (hg : GI g) (m was : TA) (pl ma : Int32) (nu to : FA) (se : Int32) {w : Nat} (hw : w ≤ 1) : F_X3_silent_20 N N (ys g m was pl ma nu to se) (nI w) (nI 0) (nI 0) = some (nI (mskTo (silB g.1 w) 8), ys g m was pl ma nu to se) := by
  refine loop_up (fun n (z : Int32 × Int32) => F_X3_silent_20 N n (ys g m was pl ma nu to se) (nI w) z.1 z.2) (fun i => (nI (mskTo (silB g.1 w) i), nI i)) 8 _ ?_ ?_ N 0 (Nat.zero_le _) (by omega)
  · intro n t ht
    show F_X3_silent_20 N (n + 1) (ys g m was pl ma nu to se) (nI w) (nI (mskTo (silB g.1 w) t)) (nI t) = F_X3_silent_20 N n (ys g m was pl ma nu to se) (nI w) (nI (mskTo (silB g.1 w) (t + 1))) (nI (t + 1))
    have s1 := say_le g.1 t 1
    have s2 := say_le g.1 t 2
    rw [F_X3_silent_20, if_neg (by rw [q_le (by omega) (by omega)]; omega)]
    show ((F_X3_saying N (em g.1) (nI t) (nI 1)).bind fun r32 => (F_X3_saying N (em g.1) (nI t) (nI 2)).bind _) = _
    rw [f_saying hN hg.1 ht (by decide)]
    try simp only [q_bs]
    rw [f_saying hN hg.1 ht (by decide)]
    try simp only [q_bs]
    try rw [nI_add]
    rw [i_le0 (by omega)]
    unfold F_X3_silent_53 F_X3_silent_84 F_X3_silent_91
    show (if say g.1 t 1 + say g.1 t 2 ≤ 0 then (if ¬ nI w = 0 then if nI 0 = 0 then _ else (F_X3_isWritten N (em g.1) (nI t)).bind _ else _) else (if ¬ nI w = 0 then if nI 1 = 0 then _ else (F_X3_isWritten N (em g.1) (nI t)).bind _ else _)) = _
    rw [f_isWritten hN hg.1 ht]
    try simp only [q_bs]
    try simp only [q_bs]
    try rw [nI_add]
    rcases (show w = 0 ∨ w = 1 by omega) with rfl | rfl
    · by_cases h : say g.1 t 1 + say g.1 t 2 = 0
      · have hs : silB g.1 0 t = true := decide_eq_true h
        rw [if_pos (by omega), ← put_t _ (by omega) hs]; rfl
      · have hs : silB g.1 0 t = false := decide_eq_false h
        rw [if_neg (by omega), ← put_0 _ (by omega) hs]; rfl
    · by_cases h : say g.1 t 1 + say g.1 t 2 = 0
      · have hs : silB g.1 1 t = false := by
          show (!decide (say g.1 t 1 + say g.1 t 2 = 0) && !wrt g.1 t) = false
          rw [decide_eq_true h]; rfl
        rw [if_pos (by omega), ← put_0 _ (by omega) hs]; rfl
      · have hs : silB g.1 1 t = !wrt g.1 t := by
          show (!decide (say g.1 t 1 + say g.1 t 2 = 0) && !wrt g.1 t) = _
          rw [decide_eq_false h]; rfl
        rw [if_neg (by omega)]
        cases hwr : wrt g.1 t
        · rw [hwr] at hs
          rw [← put_t _ (by omega) hs]; rfl
        · rw [hwr] at hs
          rw [← put_0 _ (by omega) hs]; rfl
  · intro n
    show F_X3_silent_20 N (n + 1) (ys g m was pl ma nu to se) (nI w) _ (nI 8) = _
    rw [F_X3_silent_20, if_pos (by decide)]
theorem s_silent {N : Nat} (hN : 2000 ≤ N) {g : GS} {x : XS} {y : MS} (hx : XR g x) (hy : MR g y) (hg : GI g) (p : Int32) : Both (F_X2_silent N x p) (F_X3_silent N y p) := by
  have hno := both_no N hx hy hg c2
  unfold F_X2_silent F_X3_silent F_X2_silent_9
  rcases arg_cases p with hp | ⟨w, hw, rfl⟩
  · rw [f_isIn_neg N (by decide) hp]
    simp only [k_0, k_1, k_2, k_3, k_4, k_6, Nat.reduceEqDiff, Nat.reduceLeDiff, Nat.reduceLT, q_bs, ↓reduceIte, not_true_eq_false, not_false_eq_true, Bool.false_eq_true, reduceCtorEq, hp]
    exact hno
  · rw [f_isIn N hw (by decide) (by decide)]
    simp (disch := omega) only [k_0, k_1, k_2, k_3, k_4, k_6, Nat.reduceEqDiff, Nat.reduceLeDiff, Nat.reduceLT, q_le, q_lt, q_eq, q_lt0, q_ge0, q_eq0, q_gt0, q_le0, q_b0, q_ck, q_cl, nI_add, q_bs, ↓reduceIte, not_true_eq_false, not_false_eq_true, Bool.false_eq_true, reduceCtorEq, Bool.not_eq_false', decide_eq_false_iff_not, decide_eq_true_eq, Bool.not_false, Bool.not_true]
    by_cases h : w ≤ 1
    · simp only [k_0, k_1, k_2, k_3, k_4, k_6, Nat.reduceEqDiff, Nat.reduceLeDiff, Nat.reduceLT, q_bs, ↓reduceIte, not_true_eq_false, not_false_eq_true, Bool.false_eq_true, reduceCtorEq, h, show 0 ≤ w ∧ w ≤ 1 by omega]
      obtain ⟨mind, pr, hm, rfl⟩ := hx
      obtain ⟨m, was, pl, ma, nu, to, se, h3, h4, rfl⟩ := hy
      rw [x_silent hN g mind pr h, y_silent hN hg m was pl ma nu to se h]
      exact ⟨_, g, _, _, rfl, rfl, XR.mk mind pr hm rfl, MR.mk m was pl ma nu to se h3 h4 rfl, hg⟩
    · simp only [k_0, k_1, k_2, k_3, k_4, k_6, Nat.reduceEqDiff, Nat.reduceLeDiff, Nat.reduceLT, q_bs, ↓reduceIte, not_true_eq_false, not_false_eq_true, Bool.false_eq_true, reduceCtorEq, h, show ¬ (0 ≤ w ∧ w ≤ 1) by omega]
      exact hno
def friB (a : TA) (c i : Nat) : Bool := !decide (i = c) && live a i && decide (den a c i = 0)
theorem x_friends {N : Nat} (hN : 2000 ≤ N) {g : GS} (hg : GI g) (mind : TA) (pr : FA) {c : Nat} (hc : c < aN g.1) : F_X2_friends_36 N N (xs g mind pr) (nI c) (nI 0) (nI 0) = some (nI (mskTo (friB g.1 c) (aN g.1)), xs g mind pr) := by
  have hn := hg.1.1
  refine loop_up (fun n (z : Int32 × Int32) => F_X2_friends_36 N n (xs g mind pr) (nI c) z.1 z.2) (fun i => (nI (mskTo (friB g.1 c) i), nI i)) (aN g.1) _ ?_ ?_ N 0 (Nat.zero_le _) (by omega)
  · intro n i hi
    show F_X2_friends_36 N (n + 1) (xs g mind pr) (nI c) (nI (mskTo (friB g.1 c) i)) (nI i) = F_X2_friends_36 N n (xs g mind pr) (nI c) (nI (mskTo (friB g.1 c) (i + 1))) (nI (i + 1))
    have hd := den_le g.1 c i
    rw [F_X2_friends_36]
    unfold F_X2_friends_81
    show (if nI (aN g.1) ≤ nI i then _ else if nI i = nI c then _ else (F_X1_isLiving N (TW g.1) (nI i)).bind fun r57 => if r57 = 0 then _ else (F_X1_denials N (TW g.1) (nI c) (nI i)).bind _) = _
    rw [if_neg (by rw [q_le (by omega) (by omega)]; omega), i_eq (by omega) (by omega), g_isLiving N hg.1 (by omega)]
    try simp only [q_bs]
    rw [g_den hN hg.1 (by omega) (by omega)]
    try simp only [q_bs]
    try rw [nI_add]
    rw [i_ne0 (by omega)]
    by_cases e : i = c
    · have hs : friB g.1 c i = false := by unfold friB; rw [decide_eq_true e]; rfl
      rw [if_pos e, put_f (friB g.1 c) (by omega) hs]
    · rw [if_neg e]
      cases hl : live g.1 i
      · have hs : friB g.1 c i = false := by unfold friB; rw [hl, Bool.and_false]; rfl
        rw [if_pos (show bI false = 0 from rfl), put_f (friB g.1 c) (by omega) hs]
      · rw [if_neg (by decide)]
        by_cases h0 : den g.1 c i = 0
        · have hs : friB g.1 c i = true := by unfold friB; rw [hl, decide_eq_false e, decide_eq_true h0]; rfl
          rw [if_neg (fun e => e h0), put_t (friB g.1 c) (by omega) hs]
        · have hs : friB g.1 c i = false := by unfold friB; rw [decide_eq_false h0, Bool.and_false]
          rw [if_pos h0, put_f (friB g.1 c) (by omega) hs]
  · intro n
    show F_X2_friends_36 N (n + 1) (xs g mind pr) (nI c) _ (nI (aN g.1)) = _
    rw [F_X2_friends_36]
    exact if_pos (nI_le (Nat.le_refl _) (by omega))
theorem y_friends {N : Nat} (hN : 2000 ≤ N) {g : GS} (hg : GI g) (m was : TA) (pl ma : Int32) (nu to : FA) (se : Int32) {c : Nat} (hc : c < aN g.1) : F_X3_friends_36 N N (ys g m was pl ma nu to se) (nI c) (nI 0) (nI 0) = some (nI (mskTo (friB g.1 c) (aN g.1)), ys g m was pl ma nu to se) := by
  have hn := hg.1.1
  refine loop_up (fun n (z : Int32 × Int32) => F_X3_friends_36 N n (ys g m was pl ma nu to se) (nI c) z.1 z.2) (fun i => (nI (mskTo (friB g.1 c) i), nI i)) (aN g.1) _ ?_ ?_ N 0 (Nat.zero_le _) (by omega)
  · intro n i hi
    show F_X3_friends_36 N (n + 1) (ys g m was pl ma nu to se) (nI c) (nI (mskTo (friB g.1 c) i)) (nI i) = F_X3_friends_36 N n (ys g m was pl ma nu to se) (nI c) (nI (mskTo (friB g.1 c) (i + 1))) (nI (i + 1))
    have hd := den_le g.1 c i
    rw [F_X3_friends_36]
    unfold F_X3_friends_79
    show (if em g.1 (nI 0).toNatClampNeg ≤ nI i then _ else if nI i = nI c then _ else (F_X3_isAlive N (em g.1) (nI i)).bind fun r57 => if r57 = 0 then _ else (F_X3_differing N (ys g m was pl ma nu to se) (nI c) (nI i)).bind _) = _
    try rw [q_c0]
    try rw [em_0]
    rw [if_neg (by rw [q_le (by omega) (by omega)]; omega), i_eq (by omega) (by omega), f_isAlive N g.1 (by omega)]
    try simp only [q_bs]
    rw [f_den hN hg.1 rfl (by omega) (by omega)]
    try simp only [q_bs]
    try rw [nI_add]
    rw [i_ne0 (by omega)]
    by_cases e : i = c
    · have hs : friB g.1 c i = false := by unfold friB; rw [decide_eq_true e]; rfl
      rw [if_pos e, ← put_0 (friB g.1 c) (by omega) hs]
    · rw [if_neg e]
      have hl := live_al hi
      cases hd : aD g.1 i
      · rw [hd] at hl
        rw [if_neg (by decide)]
        by_cases h0 : den g.1 c i = 0
        · have hs : friB g.1 c i = true := by unfold friB; rw [hl, decide_eq_false e, decide_eq_true h0]; rfl
          rw [if_neg (fun e => e h0), ← put_t (friB g.1 c) (by omega) hs]
        · have hs : friB g.1 c i = false := by unfold friB; rw [decide_eq_false h0, Bool.and_false]
          rw [if_pos h0, ← put_0 (friB g.1 c) (by omega) hs]
      · rw [hd] at hl
        have hs : friB g.1 c i = false := by unfold friB; rw [hl]; simp
        rw [if_pos (show bI (!true) = 0 from rfl), ← put_0 (friB g.1 c) (by omega) hs]
  · intro n
    show F_X3_friends_36 N (n + 1) (ys g m was pl ma nu to se) (nI c) _ (nI (aN g.1)) = _
    rw [F_X3_friends_36]
    show (if em g.1 (nI 0).toNatClampNeg ≤ nI (aN g.1) then _ else _) = _
    try rw [q_c0]
    try rw [em_0]
    exact if_pos (nI_le (Nat.le_refl _) (by omega))
theorem s_friends {N : Nat} (hN : 2000 ≤ N) {g : GS} {x : XS} {y : MS} (hx : XR g x) (hy : MR g y) (hg : GI g) (p : Int32) : Both (F_X2_friends N x p) (F_X3_friends N y p) := by
  have hno1 := both_no N hx hy hg c1
  have hno3 := both_no N hx hy hg c3
  have hn := hg.1.1
  unfold F_X2_friends F_X3_friends
  rcases arg_cases p with hp | ⟨j, hj, rfl⟩
  · rw [x_noCit_neg N x hp, f_isCit_neg N y hp]; exact hno1
  · obtain ⟨mind, pr, hm, rfl⟩ := hx
    obtain ⟨m, was, pl, ma, nu, to, se, h3, h4, rfl⟩ := hy
    rw [x_noCit N g mind pr hg hj, f_isCit N _ g.1 rfl hg.1 hj]
    simp (disch := omega) only [k_0, k_1, k_2, k_3, k_4, k_6, Nat.reduceEqDiff, Nat.reduceLeDiff, Nat.reduceLT, q_le, q_lt, q_eq, q_lt0, q_ge0, q_eq0, q_gt0, q_le0, q_b0, q_ck, q_cl, nI_add, q_bs, ↓reduceIte, not_true_eq_false, not_false_eq_true, Bool.false_eq_true, reduceCtorEq, Bool.not_eq_false', decide_eq_false_iff_not, decide_eq_true_eq, Bool.not_false, Bool.not_true]
    by_cases h : j < aN g.1
    · simp only [k_0, k_1, k_2, k_3, k_4, k_6, Nat.reduceEqDiff, Nat.reduceLeDiff, Nat.reduceLT, q_bs, ↓reduceIte, not_true_eq_false, not_false_eq_true, Bool.false_eq_true, reduceCtorEq, h]
      rw [g_isLiving N hg.1 hj, f_isAlive N g.1 (by omega), live_al h]
      simp (disch := omega) only [k_0, k_1, k_2, k_3, k_4, k_6, Nat.reduceEqDiff, Nat.reduceLeDiff, Nat.reduceLT, q_le, q_lt, q_eq, q_lt0, q_ge0, q_eq0, q_gt0, q_le0, q_b0, q_ck, q_cl, nI_add, q_bs, ↓reduceIte, not_true_eq_false, not_false_eq_true, Bool.false_eq_true, reduceCtorEq, Bool.not_eq_false', decide_eq_false_iff_not, decide_eq_true_eq, Bool.not_false, Bool.not_true]
      cases aD g.1 j
      · rw [x_friends hN hg mind pr h, y_friends hN hg m was pl ma nu to se h]
        simp (disch := omega) only [k_0, k_1, k_2, k_3, k_4, k_6, Nat.reduceEqDiff, Nat.reduceLeDiff, Nat.reduceLT, q_le, q_lt, q_eq, q_lt0, q_ge0, q_eq0, q_gt0, q_le0, q_b0, q_ck, q_cl, nI_add, q_bs, ↓reduceIte, not_true_eq_false, not_false_eq_true, Bool.false_eq_true, reduceCtorEq, Bool.not_eq_false', decide_eq_false_iff_not, decide_eq_true_eq, Bool.not_false, Bool.not_true]
        exact ⟨_, g, _, _, rfl, rfl, XR.mk mind pr hm rfl, MR.mk m was pl ma nu to se h3 h4 rfl, hg⟩
      · simp (disch := omega) only [k_0, k_1, k_2, k_3, k_4, k_6, Nat.reduceEqDiff, Nat.reduceLeDiff, Nat.reduceLT, q_le, q_lt, q_eq, q_lt0, q_ge0, q_eq0, q_gt0, q_le0, q_b0, q_ck, q_cl, nI_add, q_bs, ↓reduceIte, not_true_eq_false, not_false_eq_true, Bool.false_eq_true, reduceCtorEq, Bool.not_eq_false', decide_eq_false_iff_not, decide_eq_true_eq, Bool.not_false, Bool.not_true]; exact hno3
    · simp only [k_0, k_1, k_2, k_3, k_4, k_6, Nat.reduceEqDiff, Nat.reduceLeDiff, Nat.reduceLT, q_bs, ↓reduceIte, not_true_eq_false, not_false_eq_true, Bool.false_eq_true, reduceCtorEq, h]; exact hno1
