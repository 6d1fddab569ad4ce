/-! both sides, what is lost first and when all is still -/
theorem loop_ex {α β : Type} (L : Nat → α → Option β) (I : Nat → α → Prop) (R : Option β → Prop) (B : Nat) (step : ∀ n i a, i < B → I i a → (∃ b, I (i + 1) b ∧ L (n + 1) a = L n b) ∨ R (L (n + 1) a)) (exit : ∀ n a, I B a → R (L (n + 1) a)) : ∀ (n i : Nat) (a : α), i ≤ B → B - i < n → I i a → R (L n a) := by
  intro n
  induction n with
  | zero => intro i a _ h; omega
  | succ n ih =>
    intro i a hi h hI
    rcases Nat.lt_or_ge i B with hlt | hge
    · rcases step n i a hlt hI with ⟨b, hb, e⟩ | hr
      · rw [e]; exact ih (i + 1) b hlt (by omega) hb
      · exact hr
    · have : i = B := by omega
      subst this
      exact exit n a hI
theorem first_of (f : Nat → Bool) : ∀ k, (∀ i, i < k → f i = false) ∨ ∃ t, t < k ∧ f t = true ∧ ∀ u, u < t → f u = false := by
  intro k
  induction k with
  | zero => exact Or.inl (fun i h => absurd h (Nat.not_lt_zero _))
  | succ k ih =>
    rcases ih with h | ⟨t, h1, h2, h3⟩
    · cases e : f k
      · refine Or.inl (fun i hi => ?_)
        rcases Nat.lt_or_ge i k with h4 | h4
        · exact h i h4
        · have : i = k := by omega
          subst this; exact e
      · exact Or.inr ⟨k, Nat.lt_succ_self k, e, h⟩
    · exact Or.inr ⟨t, by omega, h2, h3⟩
theorem msk_zero {f : Nat → Bool} : ∀ {k : Nat}, (∀ i, i < k → f i = false) → mskTo f k = 0 := by
  intro k
  induction k with
  | zero => intro _; rfl
  | succ k ih =>
    intro h
    show mskTo f k + (if f k then 2 ^ k else 0) = 0
    rw [ih (fun i hi => h i (by omega)), h k (by omega)]; rfl
theorem msk_ne {f : Nat → Bool} {k t : Nat} (ht : t < k) (h : f t = true) : mskTo f k ≠ 0 := by
  intro e
  have := mskTo_bit f k t
  rw [e, decide_eq_true ht, h, Nat.zero_testBit] at this
  cases this
theorem ntz_N (N : Nat) (x : Int32) : F_J6_numberOfTrailingZeros_0f7a4 N x = F_J6_numberOfTrailingZeros_0f7a4 0 x := rfl
theorem ntz_all : ∀ j : Fin 256, ∀ t : Fin 8, j.val.testBit t.val = true → (∀ u : Fin 8, u.val < t.val → j.val.testBit u.val = false) → F_J6_numberOfTrailingZeros_0f7a4 0 (nI j.val) = some (nI t.val) := by decide +kernel
theorem f_ntz (N : Nat) {m t : Nat} (hm : m < 256) (ht : t < 8) (h1 : m.testBit t = true) (h0 : ∀ u, u < t → m.testBit u = false) : F_J6_numberOfTrailingZeros_0f7a4 N (nI m) = some (nI t) := by
  rw [ntz_N]
  exact ntz_all ⟨m, hm⟩ ⟨t, ht⟩ h1 (fun u hu => h0 u.val hu)
theorem q_andnot (f g : Nat → Bool) {k : Nat} (hk : k ≤ 31) : nI (mskTo f k) &&& (nI (mskTo g k) ^^^ (-1)) = nI (mskTo (fun i => f i && !g i) k) := by
  apply Int32.toBitVec_inj.mp
  show BitVec.ofNat 32 (mskTo f k) &&& (BitVec.ofNat 32 (mskTo g k) ^^^ (-1 : Int32).toBitVec) = BitVec.ofNat 32 (mskTo (fun i => f i && !g i) k)
  have e : (-1 : Int32).toBitVec = BitVec.allOnes 32 := by decide
  rw [e]
  apply BitVec.eq_of_getLsbD_eq
  intro i hi
  simp only [BitVec.getLsbD_and, BitVec.getLsbD_xor, BitVec.getLsbD_ofNat, BitVec.getLsbD_allOnes, mskTo_bit, hi, decide_true, Bool.true_and]
  cases decide (i < k) <;> cases f i <;> cases g i <;> rfl
theorem goTo_spec (cond : TA → Bool) (a : TA) : ∀ k n, (∀ i, n ≤ i → i < goTo cond a k n → cond (yearsF a i) = true) ∧ (goTo cond a k n < n + k → cond (yearsF a (goTo cond a k n)) = false) := by
  intro k
  induction k with
  | zero => intro n; exact ⟨fun i h1 h2 => absurd h2 (by show ¬ i < n; omega), fun h => absurd h (by show ¬ n < n + 0; omega)⟩
  | succ k ih =>
    intro n
    have e : goTo cond a (k + 1) n = if cond (yearsF a n) then goTo cond a k (n + 1) else n := rfl
    rw [e]
    cases hc : cond (yearsF a n)
    · rw [if_neg (by decide)]
      exact ⟨fun i h1 h2 => by omega, fun _ => hc⟩
    · rw [if_pos rfl]
      obtain ⟨i1, i2⟩ := ih (n + 1)
      refine ⟨fun i h1 h2 => ?_, fun h => i2 (by omega)⟩
      rcases Nat.lt_or_ge n i with h3 | h3
      · exact i1 i h3 h2
      · have : i = n := by omega
        subst this; exact hc
theorem endN_lt {a : TA} {t i : Nat} (h : i < endN a t) : wrt (yearsF a i) t = true := by
  unfold endN at h
  rw [endTo_go] at h
  exact (goTo_spec (fun b => wrt b t) a 61 0).1 i (Nat.zero_le _) h
theorem endN_at {a : TA} {t : Nat} (h : endN a t ≤ 60) : wrt (yearsF a (endN a t)) t = false := by
  unfold endN at h ⊢
  rw [endTo_go] at h ⊢
  exact (goTo_spec (fun b => wrt b t) a 61 0).2 (by omega)
theorem endN_eq {a : TA} {t n : Nat} (hn : n ≤ 60) (h1 : ∀ i, i < n → wrt (yearsF a i) t = true) (h2 : wrt (yearsF a n) t = false) : endN a t = n := by
  rcases Nat.lt_trichotomy (endN a t) n with h | h | h
  · have e1 := h1 _ h
    rw [endN_at (by omega)] at e1; cases e1
  · exact h
  · have e1 := endN_lt h
    rw [h2] at e1; cases e1
def lostN (o : Option (Nat × Nat)) (i e : Nat) : Option (Nat × Nat) := match o with
  | none => if 1 ≤ e ∧ e ≤ 60 then some (i, e) else none
  | some p => if 1 ≤ e ∧ e < p.2 then some (i, e) else some p
def lostS (a : TA) : Nat → Option (Nat × Nat)
  | 0 => none
  | i + 1 => lostN (lostS a i) i (endN a i)
theorem lostS_in (a : TA) : ∀ i p, lostS a i = some p → p.1 < i ∧ endN a p.1 = p.2 ∧ 1 ≤ p.2 ∧ p.2 ≤ 60 := by
  intro i
  induction i with
  | zero => intro p h; cases h
  | succ i ih =>
    intro p h
    have h : lostN (lostS a i) i (endN a i) = some p := h
    cases e : lostS a i with
    | none =>
      rw [e] at h
      have h : (if 1 ≤ endN a i ∧ endN a i ≤ 60 then some (i, endN a i) else none) = some p := h
      by_cases hc : 1 ≤ endN a i ∧ endN a i ≤ 60
      · rw [if_pos hc] at h
        obtain rfl := Option.some.inj h
        exact ⟨Nat.lt_succ_self i, rfl, hc.1, hc.2⟩
      · rw [if_neg hc] at h; cases h
    | some q =>
      rw [e] at h
      have h : (if 1 ≤ endN a i ∧ endN a i < q.2 then some (i, endN a i) else some q) = some p := h
      have hq := ih q e
      by_cases hc : 1 ≤ endN a i ∧ endN a i < q.2
      · rw [if_pos hc] at h
        obtain rfl := Option.some.inj h
        exact ⟨Nat.lt_succ_self i, rfl, hc.1, by have := hq.2.2.2; show endN a i ≤ 60; omega⟩
      · rw [if_neg hc] at h
        obtain rfl := Option.some.inj h
        exact ⟨by have := hq.1; omega, hq.2⟩
theorem lostS_no (a : TA) : ∀ i, (∀ u, u < i → endN a u = 0 ∨ 60 < endN a u) → lostS a i = none := by
  intro i
  induction i with
  | zero => intro _; rfl
  | succ i ih =>
    intro h
    show lostN (lostS a i) i (endN a i) = none
    rw [ih (fun u hu => h u (by omega))]
    have := h i (by omega)
    exact if_neg (by omega)
theorem lostS_is {a : TA} {t n : Nat} (h1 : 1 ≤ n) (h60 : n ≤ 60) (he : endN a t = n) : ∀ i, (∀ u, u < i → endN a u = 0 ∨ n ≤ endN a u) → (∀ u, u < t → endN a u ≠ n) → t < i → lostS a i = some (t, n) := by
  intro i
  induction i with
  | zero => intro _ _ h; omega
  | succ i ih =>
    intro hu ht hi
    show lostN (lostS a i) i (endN a i) = some (t, n)
    by_cases hti : t = i
    · subst hti
      cases e : lostS a t with
      | none =>
        show (if 1 ≤ endN a t ∧ endN a t ≤ 60 then some (t, endN a t) else none) = some (t, n)
        rw [he, if_pos ⟨h1, h60⟩]
      | some p =>
        obtain ⟨p1, p2, p3, p4⟩ := lostS_in a t p e
        show (if 1 ≤ endN a t ∧ endN a t < p.2 then some (t, endN a t) else some p) = some (t, n)
        have q1 := hu p.1 (by omega)
        have q2 := ht p.1 p1
        rw [he, if_pos ⟨h1, by omega⟩]
    · rw [ih (fun u hq => hu u (by omega)) ht (by omega)]
      show (if 1 ≤ endN a i ∧ endN a i < n then some (i, endN a i) else some (t, n)) = some (t, n)
      have := hu i (by omega)
      rw [if_neg (by omega)]
def lostV (a : TA) (w : Nat) : Int32 := match lostS a 8 with
  | none => -9
  | some p => if w = 0 then nI p.1 else nI p.2
theorem x_lost {N : Nat} (hN : 2000 ≤ N) {g : GS} (hg : GI g) (pr : FA) {w : Nat} (hw : w ≤ 1) : ∃ b, Good b ∧ F_X2_lost_37 N N (xs g g.1 pr) (nI w) (nI (book g.1)) (nI 1) = some (lostV g.1 w, xs g b pr) := by
  have h9 := hg.2.1
  refine loop_ex (fun n (z : XS × Int32) => F_X2_lost_37 N n z.1 (nI w) (nI (book g.1)) z.2) (fun i z => z = (xs g (yearsF g.1 i) pr, nI (i + 1)) ∧ ∀ t, t < 8 → wrt g.1 t = true → ∀ k, k ≤ i → wrt (yearsF g.1 k) t = true) (fun r => ∃ b, Good b ∧ r = some (lostV g.1 w, xs g b pr)) 60 ?_ ?_ N 0 (xs g g.1 pr, nI 1) (Nat.zero_le _) (by omega) ⟨rfl, fun t _ h k hk => by
    have : k = 0 := by omega
    subst this; exact h⟩
  · rintro n i z hi ⟨rfl, hI⟩
    have hG := Good_years hg.1 (i + 1) (by omega)
    have hGi := Good_years hg.1 i (by omega)
    have hyi := (yearsF_n g.1 i).2
    have e : F_X2_lost_37 N (n + 1) (xs g (yearsF g.1 i) pr) (nI w) (nI (book g.1)) (nI (i + 1)) = if mskTo (fun t => wrt g.1 t && !wrt (yearsF g.1 (i + 1)) t) 8 = 0 then F_X2_lost_37 N n (xs g (yearsF g.1 (i + 1)) pr) (nI w) (nI (book g.1)) (nI (i + 1 + 1)) else F_X2_lost_69 N (xs g (yearsF g.1 (i + 1)) pr) (nI w) (nI (i + 1)) (nI (mskTo (fun t => wrt g.1 t && !wrt (yearsF g.1 (i + 1)) t) 8)) := by
      have hm : mskTo (fun t => wrt g.1 t && !wrt (yearsF g.1 (i + 1)) t) 8 < 256 := msk8_lt _
      rw [F_X2_lost_37, if_neg (by rw [q_lt (by omega) (by omega)]; omega)]
      show ((F_X1_pass N (TW (yearsF g.1 i)) (nI 1)).bind fun r48 => (F_X1_book N r48).bind fun r56 => if (nI (book g.1) &&& (r56 ^^^ (-1))) = 0 then (F_X2_lost_37 N n (TW g.1, r48, (xs g g.1 pr).2.2) (nI w) (nI (book g.1)) (nI (i + 1) + (nI 1))) else (F_X2_lost_69 N (TW g.1, r48, (xs g g.1 pr).2.2) (nI w) (nI (i + 1)) (nI (book g.1) &&& (r56 ^^^ (-1))))) = _
      rw [g_pass hN hGi (by decide) (by omega)]
      try simp only [q_bs]
      rw [g_book hN]
      try simp only [q_bs]
      show (if nI (mskTo (wrt g.1) 8) &&& (nI (mskTo (wrt (yearsF g.1 (i + 1))) 8) ^^^ (-1)) = 0 then _ else F_X2_lost_69 N _ _ _ (nI (mskTo (wrt g.1) 8) &&& (nI (mskTo (wrt (yearsF g.1 (i + 1))) 8) ^^^ (-1)))) = _
      rw [q_andnot _ _ (by decide)]
      try rw [nI_add]
      rw [i_eq0 (by omega)]
      rfl
    rcases first_of (fun t => wrt g.1 t && !wrt (yearsF g.1 (i + 1)) t) 8 with h | ⟨t, ht, h1, h0⟩
    · refine Or.inl ⟨(xs g (yearsF g.1 (i + 1)) pr, nI (i + 1 + 1)), ⟨rfl, fun t ht hwt k hk => ?_⟩, e.trans (if_pos (msk_zero h))⟩
      rcases Nat.lt_or_ge i k with h3 | h3
      · have : k = i + 1 := by omega
        subst this
        have h4 := h t ht
        simp only [hwt, Bool.true_and, Bool.not_eq_false'] at h4
        exact h4
      · exact hI t ht hwt k h3
    · refine Or.inr ⟨_, hG, ?_⟩
      show F_X2_lost_37 N (n + 1) (xs g (yearsF g.1 i) pr) (nI w) (nI (book g.1)) (nI (i + 1)) = _
      rw [e, if_neg (msk_ne ht h1)]
      have hm : mskTo (fun t => wrt g.1 t && !wrt (yearsF g.1 (i + 1)) t) 8 < 256 := msk8_lt _
      have w1 : ∀ u, u < 8 → (wrt g.1 u && !wrt (yearsF g.1 (i + 1)) u) = true → endN g.1 u = i + 1 := by
        intro u hu hh
        rw [Bool.and_eq_true, Bool.not_eq_true'] at hh
        exact endN_eq (by omega) (fun k hk => hI u hu hh.1 k (by omega)) hh.2
      have w2 : ∀ u, u < 8 → endN g.1 u = 0 ∨ i + 1 ≤ endN g.1 u := by
        intro u hu
        rcases Nat.lt_or_ge (endN g.1 u) (i + 1) with h3 | h3
        · refine Or.inl ?_
          rcases Nat.eq_zero_or_pos (endN g.1 u) with h4 | h4
          · exact h4
          · have h5 := endN_lt h4
            have h6 := hI u hu h5 (endN g.1 u) (by omega)
            rw [endN_at (by omega)] at h6; cases h6
        · exact Or.inr h3
      have hl : lostS g.1 8 = some (t, i + 1) := by
        refine lostS_is (by omega) (by omega) (w1 t ht h1) 8 w2 (fun u hu he => ?_) ht
        have h7 := h0 u hu
        rcases Bool.eq_false_or_eq_true (wrt g.1 u) with h8 | h8
        · have h10 : wrt (yearsF g.1 (i + 1)) u = true := by
            simp only [h8, Bool.true_and, Bool.not_eq_false'] at h7
            exact h7
          have h11 := endN_at (a := g.1) (t := u) (by omega)
          rw [he, h10] at h11; cases h11
        · have h11 : wrt (yearsF g.1 0) u = true := endN_lt (by omega)
          have h12 : wrt g.1 u = true := h11
          rw [h8] at h12; cases h12
      unfold F_X2_lost_69 lostV
      rw [hl]
      rcases (show w = 0 ∨ w = 1 by omega) with rfl | rfl
      · rw [if_neg (fun e => e rfl), f_ntz N hm ht (by rw [mskTo_bit, decide_eq_true ht]; exact h1) (fun u hu => by rw [mskTo_bit, h0 u hu, Bool.and_false])]
        try simp only [q_bs]
        rfl
      · rw [if_pos (by decide)]
        rfl
  · rintro n z ⟨rfl, hI⟩
    refine ⟨_, Good_years hg.1 60 (by omega), ?_⟩
    show F_X2_lost_37 N (n + 1) (xs g (yearsF g.1 60) pr) (nI w) (nI (book g.1)) (nI 61) = _
    rw [F_X2_lost_37, if_pos (by decide)]
    unfold lostV
    rw [lostS_no g.1 8 (fun u hu => ?_)]
    rcases Nat.eq_zero_or_pos (endN g.1 u) with h4 | h4
    · exact Or.inl h4
    · refine Or.inr ?_
      rcases Nat.lt_or_ge 60 (endN g.1 u) with h5 | h5
      · exact h5
      · have h7 := endN_lt h4
        have h6 := hI u hu h7 (endN g.1 u) (by omega)
        rw [endN_at h5] at h6; cases h6
def lostF (o : Option (Nat × Nat)) : Int32 := match o with
  | none => -9
  | some p => nI p.1
def lostB (o : Option (Nat × Nat)) : Int32 := match o with
  | none => nI 1000000000
  | some p => nI p.2
theorem y_lost {N : Nat} (hN : 2000 ≤ N) {g : GS} (hg : GI g) {m : TA} (hm : Good m) (was : TA) (pl ma : Int32) (nu to : FA) (se : Int32) {w : Nat} (hw : w ≤ 1) : ∃ b, Good b ∧ F_X3_lost_25 N N (ys g m was pl ma nu to se) (nI w) (-9) (nI 1000000000) (nI 0) = some (lostV g.1 w, ys g b was pl ma nu to se) := by
  refine loop_ex (fun n (z : MS × Int32 × Int32 × Int32) => F_X3_lost_25 N n z.1 (nI w) z.2.1 z.2.2.1 z.2.2.2) (fun i z => ∃ b, Good b ∧ z = (ys g b was pl ma nu to se, lostF (lostS g.1 i), lostB (lostS g.1 i), nI i)) (fun r => ∃ b, Good b ∧ r = some (lostV g.1 w, ys g b was pl ma nu to se)) 8 ?_ ?_ N 0 (ys g m was pl ma nu to se, -9, nI 1000000000, nI 0) (Nat.zero_le _) (by omega) ⟨m, hm, rfl⟩
  · rintro n i z hi ⟨b, hb, rfl⟩
    obtain ⟨b2, hb2, e2⟩ := y_lastsOf hN hg hb was pl ma nu to se hi
    refine Or.inl ⟨(ys g b2 was pl ma nu to se, lostF (lostS g.1 (i + 1)), lostB (lostS g.1 (i + 1)), nI (i + 1)), ⟨b2, hb2, rfl⟩, ?_⟩
    show F_X3_lost_25 N (n + 1) (ys g b was pl ma nu to se) (nI w) (lostF (lostS g.1 i)) (lostB (lostS g.1 i)) (nI i) = F_X3_lost_25 N n (ys g b2 was pl ma nu to se) (nI w) (lostF (lostN (lostS g.1 i) i (endN g.1 i))) (lostB (lostN (lostS g.1 i) i (endN g.1 i))) (nI (i + 1))
    have hin := lostS_in g.1 i
    have hel := endN_le g.1 i
    rw [F_X3_lost_25, if_neg (by rw [q_le (by omega) (by omega)]; omega), e2]
    try simp only [q_bs]
    unfold F_X3_lost_60
    try rw [nI_add]
    show (if ansN (endN g.1 i) ≤ 0 then _ else if ansN (endN g.1 i) < lostB (lostS g.1 i) then F_X3_lost_25 N n (ys g b2 was pl ma nu to se) (nI w) (nI i) (ansN (endN g.1 i)) (nI (i + 1)) else _) = _
    generalize endN g.1 i = e at *
    generalize lostS g.1 i = o at *
    by_cases h60 : e ≤ 60
    · have ea : ansN e = nI e := if_pos h60
      rw [ea]
      rw [i_le0 (by omega)]
      by_cases h0 : e ≤ 0
      · rw [if_pos h0]
        have : lostN o i e = o := by
          cases o with
          | none => exact if_neg (by omega)
          | some p => exact if_neg (by omega)
        rw [this]
      · rw [if_neg h0]
        cases o with
        | none =>
          have : lostN none i e = some (i, e) := if_pos (by omega)
          rw [this]
          show (if nI e < nI 1000000000 then _ else _) = _
          rw [i_lt (by omega) (by decide), if_pos (by omega)]
          rfl
        | some p =>
          have hp := hin p rfl
          show (if nI e < nI p.2 then _ else _) = _
          rw [i_lt (by omega) (by omega)]
          by_cases h3 : e < p.2
          · have : lostN (some p) i e = some (i, e) := if_pos (by omega)
            rw [if_pos h3, this]
            rfl
          · have : lostN (some p) i e = some p := if_neg (by omega)
            rw [if_neg h3, this]
    · have ea : ansN e = -9 := if_neg h60
      have : lostN o i e = o := by
        cases o with
        | none => exact if_neg (by omega)
        | some p =>
          have hp := hin p rfl
          exact if_neg (by omega)
      rw [ea, if_pos (by decide), this]
  · rintro n z ⟨b, hb, rfl⟩
    refine ⟨b, hb, ?_⟩
    show F_X3_lost_25 N (n + 1) (ys g b was pl ma nu to se) (nI w) (lostF (lostS g.1 8)) (lostB (lostS g.1 8)) (nI 8) = _
    have hin := lostS_in g.1 8
    rw [F_X3_lost_25, if_pos (by decide)]
    unfold F_X3_lost_66 lostV
    generalize lostS g.1 8 = o at *
    cases o with
    | none => exact if_pos (by show (-9 : Int32) < 0; decide)
    | some p =>
      have hp := hin p rfl
      show (if nI p.1 < 0 then _ else if ¬ nI w = 0 then some (nI p.2, _) else some (nI p.1, _)) = _
      rw [i_lt0 (by omega), if_neg (fun e => e)]
      rcases (show w = 0 ∨ w = 1 by omega) with rfl | rfl
      · exact if_neg (fun e => e rfl)
      · exact if_pos (by decide)
theorem s_lost {N : Nat} (hN : 2000 ≤ N) {g : GS} {x : XS} {y : MS} (hx : XR g x) (hy : MR g y) (hg : GI g) (p : Int32) : Both (F_X2_lost N x p) (F_X3_lost N y p) := by
  have hno := both_no N hx hy hg c2
  unfold F_X2_lost F_X3_lost F_X2_lost_9
  rcases arg_cases p with hp | ⟨w, hw, rfl⟩
  · rw [f_isIn_neg N (by decide) hp]
    simp only [k_0, k_1, k_2, k_3, k_4, k_6, Nat.reduceEqDiff, Nat.reduceLeDiff, Nat.reduceLT, q_bs, ↓reduceIte, not_true_eq_false, not_false_eq_true, Bool.false_eq_true, reduceCtorEq, hp]
    exact hno
  · rw [f_isIn N hw (by decide) (by decide)]
    simp (disch := omega) only [k_0, k_1, k_2, k_3, k_4, k_6, Nat.reduceEqDiff, Nat.reduceLeDiff, Nat.reduceLT, q_le, q_lt, q_eq, q_lt0, q_ge0, q_eq0, q_gt0, q_le0, q_b0, q_ck, q_cl, nI_add, q_bs, ↓reduceIte, not_true_eq_false, not_false_eq_true, Bool.false_eq_true, reduceCtorEq, Bool.not_eq_false', decide_eq_false_iff_not, decide_eq_true_eq, Bool.not_false, Bool.not_true]
    by_cases h : w ≤ 1
    · simp only [k_0, k_1, k_2, k_3, k_4, k_6, Nat.reduceEqDiff, Nat.reduceLeDiff, Nat.reduceLT, q_bs, ↓reduceIte, not_true_eq_false, not_false_eq_true, Bool.false_eq_true, reduceCtorEq, h, show 0 ≤ w ∧ w ≤ 1 by omega]
      obtain ⟨mind, pr, hm, rfl⟩ := hx
      obtain ⟨m, was, pl, ma, nu, to, se, h3, h4, rfl⟩ := hy
      obtain ⟨b, hb, e⟩ := x_lost hN hg pr h
      obtain ⟨m2, hm2, e2⟩ := y_lost hN hg h3 was pl ma nu to se h
      show Both ((F_X1_become N (TW mind) (TW g.1)).bind fun r24 => (F_X1_book N (TW g.1)).bind fun r31 => F_X2_lost_37 N N (TW g.1, r24, (xs g mind pr).2.2) (nI w) r31 (nI 1)) _
      rw [g_become N hm hg.1]
      try simp only [q_bs]
      rw [g_book hN]
      try simp only [q_bs]
      rw [e2]
      show Both (F_X2_lost_37 N N (xs g g.1 pr) (nI w) (nI (book g.1)) (nI 1)) _
      rw [e]
      exact ⟨_, g, _, _, rfl, rfl, XR.mk b pr hb rfl, MR.mk m2 was pl ma nu to se hm2 h4 rfl, hg⟩
    · simp only [k_0, k_1, k_2, k_3, k_4, k_6, Nat.reduceEqDiff, Nat.reduceLeDiff, Nat.reduceLT, q_bs, ↓reduceIte, not_true_eq_false, not_false_eq_true, Bool.false_eq_true, reduceCtorEq, h, show ¬ (0 ≤ w ∧ w ≤ 1) by omega]
      exact hno
def stillC (w : Nat) (b : TA) : Bool := if w = 1 then decide (book b ≠ 0) else changes b
theorem x_still {N : Nat} (hN : 2000 ≤ N) {g : GS} (hg : GI g) (pr : FA) {w : Nat} (hw : w ≤ 1) : ∃ b, Good b ∧ F_X2_still_29 N N (xs g g.1 pr) (nI w) (nI 0) = some (ansN (goTo (stillC w) g.1 61 0), xs g b pr) := by
  have h9 := hg.2.1
  have key : ∀ k n q, n + k = 61 → k < q → ∃ b, Good b ∧ F_X2_still_29 N q (xs g (yearsF g.1 n) pr) (nI w) (nI n) = some (ansN (goTo (stillC w) g.1 k n), xs g b pr) := by
    intro k
    induction k with
    | zero =>
      intro n q hnk hq
      obtain ⟨q, rfl⟩ : ∃ z, q = z + 1 := ⟨q - 1, by omega⟩
      refine ⟨yearsF g.1 n, Good_years hg.1 n (by omega), ?_⟩
      rw [F_X2_still_29, if_pos (by rw [q_lt (by omega) (by omega)]; omega)]
      show some (-9, _) = some (ansN n, _)
      unfold ansN
      rw [if_neg (by omega)]
    | succ k ih =>
      intro n q hnk hq
      obtain ⟨q, rfl⟩ : ∃ z, q = z + 1 := ⟨q - 1, by omega⟩
      have hG := Good_years hg.1 n (by omega)
      have hG1 := Good_years hg.1 (n + 1) (by omega)
      have h1 := g_passOne hN hG (by rw [(yearsF_n g.1 n).2]; omega) (f := 0) (k := 8) (by decide)
      rw [yearR_8, changesR_8] at h1
      have hb : book (yearsF g.1 n) < 256 := msk8_lt _
      obtain ⟨b, hb2, e2⟩ := ih (n + 1) q (by omega) (by omega)
      rw [F_X2_still_29, if_neg (by rw [q_lt (by omega) (by omega)]; omega)]
      unfold F_X2_still_52 F_X2_still_73
      show ∃ b, Good b ∧ _ = some (ansN (if stillC w (yearsF g.1 n) then goTo (stillC w) g.1 k (n + 1) else n), xs g b pr)
      rcases (show w = 0 ∨ w = 1 by omega) with rfl | rfl
      · rw [if_pos (by decide)]
        show ∃ b, Good b ∧ ((F_X1_passOne N (TW (yearsF g.1 n)) (nI 0) (nI 8)).bind fun r59 => if ¬ nI 0 = 0 then _ else if ¬ r59.1 = 0 then F_X2_still_29 N q (TW g.1, r59.2, (xs g g.1 pr).2.2) (nI 0) (nI n + nI 1) else some (nI n, (TW g.1, r59.2, (xs g g.1 pr).2.2))) = some (ansN (if changes (yearsF g.1 n) then goTo (stillC 0) g.1 k (n + 1) else n), xs g b pr)
        rw [h1]
        try simp only [q_bs]
        rw [if_neg (fun e => e rfl)]
        try rw [nI_add]
        cases hc : changes (yearsF g.1 n)
        · rw [if_neg (fun e => e rfl), if_neg (by decide)]
          refine ⟨yearsF g.1 (n + 1), hG1, ?_⟩
          unfold ansN
          rw [if_pos (show n ≤ 60 by omega)]
          rfl
        · rw [if_pos (show ¬ bI true = 0 by decide), if_pos rfl]
          exact ⟨b, hb2, e2⟩
      · rw [if_neg (fun e => e rfl)]
        show ∃ b, Good b ∧ ((F_X1_book N (TW (yearsF g.1 n))).bind fun r44 => if ¬ r44 = 0 then ((F_X1_passOne N (TW (yearsF g.1 n)) (nI 0) (nI 8)).bind fun r59 => if ¬ nI 1 = 0 then F_X2_still_29 N q (TW g.1, r59.2, (xs g g.1 pr).2.2) (nI 1) (nI n + nI 1) else _) else some (nI n, xs g (yearsF g.1 n) pr)) = some (ansN (if decide (book (yearsF g.1 n) ≠ 0) then goTo (stillC 1) g.1 k (n + 1) else n), xs g b pr)
        rw [g_book hN]
        try simp only [q_bs]
        rw [h1]
        try simp only [q_bs]
        rw [if_pos (show ¬ nI 1 = 0 by decide)]
        try rw [nI_add]
        rw [i_ne0 (by omega)]
        by_cases hc : book (yearsF g.1 n) = 0
        · rw [if_neg (fun e => e hc), decide_eq_false (fun e => e hc), if_neg (by decide)]
          refine ⟨yearsF g.1 n, hG, ?_⟩
          unfold ansN
          rw [if_pos (show n ≤ 60 by omega)]
        · rw [if_pos hc, decide_eq_true hc, if_pos rfl]
          exact ⟨b, hb2, e2⟩
  exact key 61 0 N (by omega) (by omega)
theorem y_still {N : Nat} (hN : 2000 ≤ N) {g : GS} (hg : GI g) (was : TA) (pl ma : Int32) (nu to : FA) (se : Int32) : ∃ b, Good b ∧ F_X3_still_42 N N (ys g g.1 was pl ma nu to se) (nI 0) = some (ansN (goTo (stillC 0) g.1 61 0), ys g b was pl ma nu to se) := by
  have h9 := hg.2.1
  have key : ∀ k n q, n + k = 61 → k < q → ∃ b, Good b ∧ F_X3_still_42 N q (ys g (yearsF g.1 n) was pl ma nu to se) (nI n) = some (ansN (goTo (stillC 0) g.1 k n), ys g b was pl ma nu to se) := by
    intro k
    induction k with
    | zero =>
      intro n q hnk hq
      obtain ⟨q, rfl⟩ : ∃ z, q = z + 1 := ⟨q - 1, by omega⟩
      refine ⟨yearsF g.1 n, Good_years hg.1 n (by omega), ?_⟩
      rw [F_X3_still_42, if_pos (by rw [q_lt (by omega) (by omega)]; omega)]
      show some (-9, _) = some (ansN n, _)
      unfold ansN
      rw [if_neg (by omega)]
    | succ k ih =>
      intro n q hnk hq
      obtain ⟨q, rfl⟩ : ∃ z, q = z + 1 := ⟨q - 1, by omega⟩
      have hG := Good_years hg.1 n (by omega)
      have hG1 := Good_years hg.1 (n + 1) (by omega)
      obtain ⟨b, hb2, e2⟩ := ih (n + 1) q (by omega) (by omega)
      rw [F_X3_still_42, if_neg (by rw [q_lt (by omega) (by omega)]; omega)]
      show ∃ b, Good b ∧ ((F_X3_year N (em (yearsF g.1 n))).bind fun r52 => if r52.1 = 0 then F_X3_still_42 N q (em g.1, r52.2, (ys g g.1 was pl ma nu to se).2.2) (nI n + nI 1) else some (nI n, (em g.1, r52.2, (ys g g.1 was pl ma nu to se).2.2))) = some (ansN (if changes (yearsF g.1 n) then goTo (stillC 0) g.1 k (n + 1) else n), ys g b was pl ma nu to se)
      rw [f_year hN hG (by rw [(yearsF_n g.1 n).2]; omega)]
      try simp only [q_bs]
      try rw [nI_add]
      cases hc : changes (yearsF g.1 n)
      · rw [if_neg (show ¬ bI (!false) = 0 by decide), if_neg (by decide)]
        refine ⟨yearsF g.1 (n + 1), hG1, ?_⟩
        unfold ansN
        rw [if_pos (show n ≤ 60 by omega)]
        rfl
      · rw [if_pos (show bI (!true) = 0 by decide), if_pos rfl]
        exact ⟨b, hb2, e2⟩
  exact key 61 0 N (by omega) (by omega)
theorem s_still {N : Nat} (hN : 2000 ≤ N) {g : GS} {x : XS} {y : MS} (hx : XR g x) (hy : MR g y) (hg : GI g) (p : Int32) : Both (F_X2_still N x p) (F_X3_still N y p) := by
  have hno := both_no N hx hy hg c2
  have h9 := hg.2.1
  unfold F_X2_still F_X3_still F_X2_still_9
  rcases arg_cases p with hp | ⟨w, hw, rfl⟩
  · rw [f_isIn_neg N (by decide) hp]
    simp only [k_0, k_1, k_2, k_3, k_4, k_6, Nat.reduceEqDiff, Nat.reduceLeDiff, Nat.reduceLT, q_bs, ↓reduceIte, not_true_eq_false, not_false_eq_true, Bool.false_eq_true, reduceCtorEq, hp]
    exact hno
  · rw [f_isIn N hw (by decide) (by decide)]
    simp (disch := omega) only [k_0, k_1, k_2, k_3, k_4, k_6, Nat.reduceEqDiff, Nat.reduceLeDiff, Nat.reduceLT, q_le, q_lt, q_eq, q_lt0, q_ge0, q_eq0, q_gt0, q_le0, q_b0, q_ck, q_cl, nI_add, q_bs, ↓reduceIte, not_true_eq_false, not_false_eq_true, Bool.false_eq_true, reduceCtorEq, Bool.not_eq_false', decide_eq_false_iff_not, decide_eq_true_eq, Bool.not_false, Bool.not_true]
    by_cases h : w ≤ 1
    · simp only [k_0, k_1, k_2, k_3, k_4, k_6, Nat.reduceEqDiff, Nat.reduceLeDiff, Nat.reduceLT, q_bs, ↓reduceIte, not_true_eq_false, not_false_eq_true, Bool.false_eq_true, reduceCtorEq, h, show 0 ≤ w ∧ w ≤ 1 by omega]
      obtain ⟨mind, pr, hm, rfl⟩ := hx
      obtain ⟨m, was, pl, ma, nu, to, se, h3, h4, rfl⟩ := hy
      obtain ⟨b, hb, e⟩ := x_still hN hg pr h
      have eY : ∃ b, Good b ∧ ((F_X3_copies N (em g.1) (em m)).bind fun r24 => if ¬ w = 1 then F_X3_still_42 N N (em g.1, r24, (ys g m was pl ma nu to se).2.2) (nI 0) else (F_X3_lastsIn N (em g.1, r24, (ys g m was pl ma nu to se).2.2) (nI 255)).bind fun r36 => some (r36.1, r36.2)) = some (ansN (goTo (stillC w) g.1 61 0), ys g b was pl ma nu to se) := by
        rw [f_copies hN hg.1 h3]
        try simp only [q_bs]
        rcases (show w = 0 ∨ w = 1 by omega) with rfl | rfl
        · rw [if_pos (by decide)]
          exact y_still hN hg was pl ma nu to se
        · rw [if_neg (fun e => e rfl)]
          obtain ⟨b2, hb2, e2⟩ := y_lastsIn hN g hg.1 (by omega) was pl ma nu to se (set := 255) (by decide) (stillC 1) (fun b => by
            have h1 : book b < 256 := msk8_lt _
            have h2 : book b &&& 255 = book b := by
              rw [show 255 = 2 ^ 8 - 1 from rfl, Nat.and_two_pow_sub_one_eq_mod]
              omega
            rw [h2]
            show book b = 0 ↔ decide (book b ≠ 0) = false
            simp)
          refine ⟨b2, hb2, ?_⟩
          show (F_X3_lastsIn N (ys g g.1 was pl ma nu to se) (nI 255)).bind _ = _
          rw [e2]
          try simp only [q_bs]
      obtain ⟨m2, hm2, e2⟩ := eY
      show Both ((F_X1_become N (TW mind) (TW g.1)).bind fun r24 => F_X2_still_29 N N (TW g.1, r24, (xs g mind pr).2.2) (nI w) (nI 0)) ((F_X3_copies N (em g.1) (em m)).bind fun r24 => if ¬ w = 1 then F_X3_still_42 N N (em g.1, r24, (ys g m was pl ma nu to se).2.2) (nI 0) else (F_X3_lastsIn N (em g.1, r24, (ys g m was pl ma nu to se).2.2) (nI 255)).bind fun r36 => some (r36.1, r36.2))
      rw [g_become N hm hg.1]
      try simp only [q_bs]
      rw [e2]
      show Both (F_X2_still_29 N N (xs g g.1 pr) (nI w) (nI 0)) _
      rw [e]
      exact ⟨_, g, _, _, rfl, rfl, XR.mk b pr hb rfl, MR.mk m2 was pl ma nu to se hm2 h4 rfl, hg⟩
    · simp only [k_0, k_1, k_2, k_3, k_4, k_6, Nat.reduceEqDiff, Nat.reduceLeDiff, Nat.reduceLT, q_bs, ↓reduceIte, not_true_eq_false, not_false_eq_true, Bool.false_eq_true, reduceCtorEq, h, show ¬ (0 ≤ w ∧ w ≤ 1) by omega]
      exact hno
