/-! a town told in letters: all words of one, one step of a town -/
def sayT (b : TA) (c : Nat) (w : Nat → Nat) : Nat → TA
  | 0 => b
  | k + 1 => sW (sayT b c w k) (updW (aW (sayT b c w k)) c k (w k))
theorem sayT_n (b : TA) (c : Nat) (w : Nat → Nat) : ∀ k, aN (sayT b c w k) = aN b ∧ aY (sayT b c w k) = aY b ∧ aD (sayT b c w k) = aD b := by
  intro k
  induction k with
  | zero => exact ⟨rfl, rfl, rfl⟩
  | succ k ih => exact ih
theorem sayT_live (b : TA) (c : Nat) (w : Nat → Nat) (k i : Nat) : live (sayT b c w k) i = live b i := by
  have h := sayT_n b c w k
  unfold live
  rw [h.1, h.2.2]
theorem Good_sayT {b : TA} (hb : Good b) {c : Nat} (hc : c < aN b) (w : Nat → Nat) : ∀ k, k ≤ 8 → (∀ i, i < k → w i ≤ 2) → Good (sayT b c w k) := by
  intro k
  induction k with
  | zero => intro _ _; exact hb
  | succ k ih =>
    intro hk hw
    have h := ih (by omega) (fun i hi => hw i (by omega))
    exact Good_put h (by rw [(sayT_n b c w k).1]; exact hc) (by omega) (hw k (by omega))
theorem x_all (N : Nat) {g : GS} (hg : GI g) {p c R : Nat} (hp : p < 800) (hc : c < 1000) (hxc : F_X0_digit N (LX g) (nI (p + 1)) = some (nI c)) (hl : live g.1 c = true) : ∀ r n j, r < n → j + r = 8 → R = j + runD (sG g) r (p + 2 + j) → (∀ i, i < j → dg (sG g (p + 2 + i)) ≤ 2) → ((∀ i, i < R → dg (sG g (p + 2 + i)) ≤ 2) ∧ F_X0_tellAll_2 N (LX g) n (TW (sayT g.1 c (fun i => dg (sG g (p + 2 + i))) j)) (nI p) (nI j) = some (nI 1, TW (sayT g.1 c (fun i => dg (sG g (p + 2 + i))) R))) ∨ ((∃ i, i < R ∧ ¬ dg (sG g (p + 2 + i)) ≤ 2) ∧ ∃ b, Good b ∧ F_X0_tellAll_2 N (LX g) n (TW (sayT g.1 c (fun i => dg (sG g (p + 2 + i))) j)) (nI p) (nI j) = some (nI 0, TW b)) := by
  have hlt := live_lt hl
  intro r
  induction r with
  | zero =>
    intro n j hn hj hR hw
    obtain ⟨n, rfl⟩ : ∃ k, n = k + 1 := ⟨n - 1, by omega⟩
    have hRj : R = j := hR
    subst hRj
    refine Or.inl ⟨hw, ?_⟩
    rw [F_X0_tellAll_2]
    exact if_pos (by rw [(q_le (by decide) (by omega))]; omega)
  | succ r ih =>
    intro n j hn hj hR hw
    obtain ⟨n, rfl⟩ : ∃ k, n = k + 1 := ⟨n - 1, by omega⟩
    have hG := Good_sayT hg.1 hlt (fun i => dg (sG g (p + 2 + i))) j (by omega) hw
    have e1 : F_X0_tellAll_2 N (LX g) (n + 1) (TW (sayT g.1 c (fun i => dg (sG g (p + 2 + i))) j)) (nI p) (nI j) = if isD (sG g (p + 2 + j)) = false then some (nI 1, TW (sayT g.1 c (fun i => dg (sG g (p + 2 + i))) j)) else ((F_X1_hear N (TW (sayT g.1 c (fun i => dg (sG g (p + 2 + i))) j)) (nI c) (nI j) (nI (dg (sG g (p + 2 + j))))).bind fun r38 => if ¬ r38.1 = 0 then F_X0_tellAll_2 N (LX g) n r38.2 (nI p) (nI (j + 1)) else some (nI 0, r38.2)) := by
      rw [F_X0_tellAll_2, (nI_add p 2), (nI_add (p + 2) j), (nI_add p 1), (nI_add j 1)]
      refine Eq.trans (if_neg (by rw [(q_le (by decide) (by omega))]; omega)) ?_
      refine Eq.trans (q_bs0 _ _ _ (x_isDigit N hg (by omega))) ?_
      cases hd : isD (sG g (p + 2 + j))
      · refine Eq.trans (if_pos (show bI false = 0 by decide)) ?_
        exact (if_pos (show false = false from rfl)).symm
      · refine Eq.trans (if_neg (show ¬ bI true = 0 by decide)) ?_
        refine Eq.trans ?_ (if_neg (show ¬ true = false by decide)).symm
        refine Eq.trans (q_bs0 _ _ _ hxc) ?_
        exact q_bs0 _ _ _ (x_digit N hg (by omega) hd)
    rw [e1]
    cases hd : isD (sG g (p + 2 + j))
    · have hr := runD_f (k := r) hd
      have hRj : R = j := by omega
      subst hRj
      exact Or.inl ⟨hw, if_pos rfl⟩
    · have hr := runD_t (k := r) hd
      have hw9 := dg_le (sG g (p + 2 + j))
      rw [if_neg (show ¬ true = false by decide)]
      by_cases hw2 : dg (sG g (p + 2 + j)) ≤ 2
      · have hh := x_hearT N hG (i := c) (t := j) (w := dg (sG g (p + 2 + j))) hc (by omega) (by omega) (hears_t ((sayT_live _ _ _ _ _).trans hl) (by omega) hw2)
        have hstep : ((F_X1_hear N (TW (sayT g.1 c (fun i => dg (sG g (p + 2 + i))) j)) (nI c) (nI j) (nI (dg (sG g (p + 2 + j))))).bind fun r38 => if ¬ r38.1 = 0 then F_X0_tellAll_2 N (LX g) n r38.2 (nI p) (nI (j + 1)) else some (nI 0, r38.2)) = F_X0_tellAll_2 N (LX g) n (TW (sayT g.1 c (fun i => dg (sG g (p + 2 + i))) (j + 1))) (nI p) (nI (j + 1)) := (q_bs0 _ _ _ hh).trans (if_pos (show ¬ nI 1 = 0 by decide))
        rw [hstep]
        refine ih n (j + 1) (by omega) (by omega) ?_ (fun i hi => ?_)
        · rw [hr] at hR
          rw [show p + 2 + (j + 1) = p + 2 + j + 1 by omega]
          omega
        · by_cases hij : i = j
          · rw [hij]
            exact hw2
          · exact hw i (by omega)
      · refine Or.inr ⟨⟨j, by omega, hw2⟩, _, hG, ?_⟩
        have hh := x_hearF N hG (i := c) (t := j) (w := dg (sG g (p + 2 + j))) hc (by omega) (by omega) (hears_no3 hw2)
        refine Eq.trans (q_bs0 _ _ _ hh) ?_
        exact if_neg (show ¬ ¬ nI 0 = 0 by decide)
theorem y_12ok (N : Nat) (g : GS) (m was : TA) (pl : Int32) {R : Nat} (hR : R ≤ 8) (nu to : FA) (se x1 : Int32) (w : Nat → Nat) (hto : ∀ i, i < R → to i = nI (w i)) (hw : ∀ i, i < R → w i ≤ 2) : ∀ r n j, r < n → j + r = R → F_X3_saysAll_12 N n (ys g m was pl (nI R) nu to se) x1 (nI j) = F_X3_saysAll_38 N (ys g m was pl (nI R) nu to se) x1 := by
  intro r
  induction r with
  | zero =>
    intro n j hn hj
    obtain ⟨n, rfl⟩ : ∃ k, n = k + 1 := ⟨n - 1, by omega⟩
    rw [F_X3_saysAll_12]
    exact if_pos (show nI R ≤ nI j by rw [(q_le (by omega) (by omega))]; omega)
  | succ r ih =>
    intro n j hn hj
    obtain ⟨n, rfl⟩ : ∃ k, n = k + 1 := ⟨n - 1, by omega⟩
    have h2 := hw j (by omega)
    have e : to (nI j).toNatClampNeg ≤ nI 2 := by
      rw [(q_cl (show j < 2147483648 by omega)), hto j (by omega), (q_le (by omega) (by decide))]
      exact h2
    rw [F_X3_saysAll_12]
    refine Eq.trans (if_neg (show ¬ nI R ≤ nI j by rw [(q_le (by omega) (by omega))]; omega)) ?_
    refine Eq.trans (q_ck (by omega) (by decide)) ?_
    refine Eq.trans (if_pos e) ?_
    rw [(nI_add j 1)]
    exact ih n (j + 1) (by omega) (by omega)
theorem y_12bad (N : Nat) (g : GS) (m was : TA) (pl : Int32) {R : Nat} (hR : R ≤ 8) (nu to : FA) (se x1 : Int32) (w : Nat → Nat) (hw9 : ∀ i, w i ≤ 9) (hto : ∀ i, i < R → to i = nI (w i)) {i0 : Nat} (hi0 : i0 < R) (hw : ¬ w i0 ≤ 2) : ∀ r n j, r < n → j + r = i0 → F_X3_saysAll_12 N n (ys g m was pl (nI R) nu to se) x1 (nI j) = some (nI 0, ys g m was pl (nI R) nu to se) := by
  intro r
  induction r with
  | zero =>
    intro n j hn hj
    obtain ⟨n, rfl⟩ : ∃ k, n = k + 1 := ⟨n - 1, by omega⟩
    have hj0 : j = i0 := hj
    subst hj0
    have h9 := hw9 j
    have e : ¬ to (nI j).toNatClampNeg ≤ nI 2 := by
      rw [(q_cl (show j < 2147483648 by omega)), hto j (by omega), (q_le (by omega) (by decide))]
      exact hw
    rw [F_X3_saysAll_12]
    refine Eq.trans (if_neg (show ¬ nI R ≤ nI j by rw [(q_le (by omega) (by omega))]; omega)) ?_
    refine Eq.trans (q_ck (by omega) (by decide)) ?_
    exact if_neg e
  | succ r ih =>
    intro n j hn hj
    obtain ⟨n, rfl⟩ : ∃ k, n = k + 1 := ⟨n - 1, by omega⟩
    have h9 := hw9 j
    rw [F_X3_saysAll_12]
    refine Eq.trans (if_neg (show ¬ nI R ≤ nI j by rw [(q_le (by omega) (by omega))]; omega)) ?_
    refine Eq.trans (q_ck (by omega) (by decide)) ?_
    by_cases e : to (nI j).toNatClampNeg ≤ nI 2
    · refine Eq.trans (if_pos e) ?_
      rw [(nI_add j 1)]
      exact ih n (j + 1) (by omega) (by omega)
    · exact if_neg e
theorem y_40 (N : Nat) {g : GS} (hg : GI g) (m was : TA) (pl : Int32) {R c : Nat} (hR : R ≤ 8) (hc : c < 6) (nu to : FA) (se : Int32) (w : Nat → Nat) (hto : ∀ i, i < R → to i = nI (w i)) : ∀ r n j, r < n → j + r = R → F_X3_saysAll_40 N n (ys (gN g (sayT g.1 c w j)) m was pl (nI R) nu to se) (nI c) (nI j) = some (nI 1, ys (gN g (sayT g.1 c w R)) m was pl (nI R) nu to se) := by
  intro r
  induction r with
  | zero =>
    intro n j hn hj
    obtain ⟨n, rfl⟩ : ∃ k, n = k + 1 := ⟨n - 1, by omega⟩
    have hj0 : j = R := hj
    subst hj0
    rw [F_X3_saysAll_40]
    exact if_pos (show nI j ≤ nI j by rw [(q_le (by omega) (by omega))]; omega)
  | succ r ih =>
    intro n j hn hj
    obtain ⟨n, rfl⟩ : ∃ k, n = k + 1 := ⟨n - 1, by omega⟩
    have hof : F_X3_of N (nI c) (nI 4 + nI j) = some (nI (ix c (4 + j))) := by
      rw [(nI_add 4 j)]
      exact f_of N c (4 + j)
    have hix : ix c (4 + j) < 74 := ix_lt hc (by omega)
    have e : upd (em (sayT g.1 c w j)) (nI (ix c (4 + j))).toNatClampNeg (to (nI j).toNatClampNeg) = em (sayT g.1 c w (j + 1)) := by
      rw [(q_cl (show ix c (4 + j) < 2147483648 by omega)), (q_cl (show j < 2147483648 by omega)), hto j (by omega)]
      exact em_sW (sayT g.1 c w j) c j (w j) (by omega)
    rw [F_X3_saysAll_40]
    refine Eq.trans (if_neg (show ¬ nI R ≤ nI j by rw [(q_le (by omega) (by omega))]; omega)) ?_
    refine Eq.trans (q_bs0 _ _ _ hof) ?_
    refine Eq.trans (q_ck (by omega) (by decide)) ?_
    refine Eq.trans (q_ck hix (by decide)) ?_
    rw [(nI_add j 1)]
    exact (congrArg (fun z => F_X3_saysAll_40 N n ((z, (ys g m was pl (nI R) nu to se).2) : MS) (nI c) (nI (j + 1))) e).trans (ih n (j + 1) (by omega) (by omega))
theorem sd_a {N : Nat} (hN : 2000 ≤ N) {g : GS} (hg : GI g) (m was : TA) (pl : Int32) (nu to : FA) (se : Int32) {p : Nat} (hp : p < 800) (h : sG g p = nI 97) (hd1 : isD (sG g (p + 1)) = true) (hR0 : 0 < runD (sG g) 8 (p + 2)) (h0 : nu 0 = nI (dg (sG g (p + 1)))) (hto : ∀ i, i < runD (sG g) 8 (p + 2) → to i = nI (dg (sG g (p + 2 + i)))) : StepR N g p m was pl (nI (runD (sG g) 8 (p + 2))) nu to se := by
  have hc9 := dg_le (sG g (p + 1))
  have hx1 := x_digit N hg (i := p + 1) (by omega) hd1
  have hn := hg.1.1
  have hR := runD_le (sG g) 8 (p + 2)
  generalize dg (sG g (p + 1)) = c at h0 hc9 hx1
  have hya : F_X3_isLiving N (ys g m was pl (nI (runD (sG g) 8 (p + 2))) nu to se) (nu 0) = some (bI (live g.1 c)) := by
    rw [h0]
    exact y_live N hg m was pl _ nu to se (by omega)
  unfold StepR
  rw [h, dn_97 N g m was pl (nI (runD (sG g) 8 (p + 2))) nu to se, tl_97 N hg _ hp h]
  cases hl : live g.1 c
  · rw [hl] at hya
    have hx : F_X0_tellAll N (LX g) (TW g.1) (nI p) = some (nI 0, TW g.1) := by
      obtain ⟨n, hn1⟩ : ∃ n, N = n + 1 := ⟨N - 1, by omega⟩
      have e : F_X0_tellAll_2 N (LX g) N (TW g.1) (nI p) (nI 0) = F_X0_tellAll_2 N (LX g) (n + 1) (TW g.1) (nI p) (nI 0) := congrArg (fun z => F_X0_tellAll_2 N (LX g) z (TW g.1) (nI p) (nI 0)) hn1
      have hd : isD (sG g (p + 2)) = true := runD_all (sG g) 8 (p + 2) 0 hR0
      have hw9 := dg_le (sG g (p + 2))
      have hdig : F_X0_isDigit N (LX g) (nI (p + 2 + 0)) = some (bI true) := by
        rw [x_isDigit N hg (by omega)]
        exact congrArg (fun z => some (bI z)) hd
      have hdg : F_X0_digit N (LX g) (nI (p + 2 + 0)) = some (nI (dg (sG g (p + 2)))) := x_digit N hg (by omega) hd
      unfold F_X0_tellAll
      refine e.trans ?_
      rw [F_X0_tellAll_2, (nI_add p 2), (nI_add (p + 2) 0), (nI_add p 1)]
      refine Eq.trans (if_neg (show ¬ nI 8 ≤ nI 0 by decide)) ?_
      refine Eq.trans (q_bs0 _ _ _ hdig) ?_
      refine Eq.trans (if_neg (show ¬ bI true = 0 by decide)) ?_
      refine Eq.trans (q_bs0 _ _ _ hx1) ?_
      refine Eq.trans (q_bs0 _ _ _ hdg) ?_
      refine Eq.trans (q_bs0 _ _ _ (x_hearF N hg.1 (i := c) (t := 0) (w := dg (sG g (p + 2))) (by omega) (by decide) (by omega) (hears_no hl))) ?_
      exact if_neg (show ¬ ¬ nI 0 = 0 by decide)
    refine Or.inr ⟨g.1, hg.1, (q_bs0 _ _ _ hx).trans q_ckB0, ?_⟩
    refine (q_bs0 _ _ _ (?_ : F_X3_saysAll N (ys g m was pl (nI (runD (sG g) 8 (p + 2))) nu to se) (nu 0) = some (nI 0, ys g m was pl (nI (runD (sG g) 8 (p + 2))) nu to se))).trans q_ckB0
    unfold F_X3_saysAll
    refine Eq.trans (q_bs0 _ _ _ hya) ?_
    exact if_neg (show ¬ ¬ bI false = 0 by decide)
  · rw [hl] at hya
    have hlt := live_lt hl
    have hall := x_all N hg (R := runD (sG g) 8 (p + 2)) hp (by omega) hx1 hl 8 N 0 (by omega) (by omega) (Nat.zero_add _).symm (fun i hi => absurd hi (Nat.not_lt_zero i))
    generalize runD (sG g) 8 (p + 2) = R at hR hto hall hya ⊢
    rcases hall with ⟨hw, hx⟩ | ⟨⟨i0, hi0, hw⟩, b, hb, hx⟩
    · have hx' : F_X0_tellAll N (LX g) (TW g.1) (nI p) = some (nI 1, TW (sayT g.1 c (fun i => dg (sG g (p + 2 + i))) R)) := hx
      have hG := Good_sayT hg.1 hlt (fun i => dg (sG g (p + 2 + i))) R hR hw
      refine Or.inl ⟨_, hG, by rw [(sayT_n g.1 c (fun i => dg (sG g (p + 2 + i))) R).2.1]; exact hg.2.1, (q_bs0 _ _ _ hx').trans q_ckB1, ?_⟩
      refine (q_bs0 _ _ _ (?_ : F_X3_saysAll N (ys g m was pl (nI R) nu to se) (nu 0) = some (nI 1, ys (gN g (sayT g.1 c (fun i => dg (sG g (p + 2 + i))) R)) m was pl (nI R) nu to se))).trans q_ckB1
      unfold F_X3_saysAll
      refine Eq.trans (q_bs0 _ _ _ hya) ?_
      refine Eq.trans (if_pos (show ¬ bI true = 0 by decide)) ?_
      refine Eq.trans (y_12ok N g m was pl hR nu to se (nu 0) (fun i => dg (sG g (p + 2 + i))) hto hw R N 0 (by omega) (Nat.zero_add R)) ?_
      unfold F_X3_saysAll_38
      rw [h0]
      exact y_40 N hg m was pl hR (by omega) nu to se (fun i => dg (sG g (p + 2 + i))) hto R N 0 (by omega) (Nat.zero_add R)
    · have hx' : F_X0_tellAll N (LX g) (TW g.1) (nI p) = some (nI 0, TW b) := hx
      refine Or.inr ⟨b, hb, (q_bs0 _ _ _ hx').trans q_ckB0, ?_⟩
      refine (q_bs0 _ _ _ (?_ : F_X3_saysAll N (ys g m was pl (nI R) nu to se) (nu 0) = some (nI 0, ys g m was pl (nI R) nu to se))).trans q_ckB0
      unfold F_X3_saysAll
      refine Eq.trans (q_bs0 _ _ _ hya) ?_
      refine Eq.trans (if_pos (show ¬ bI true = 0 by decide)) ?_
      exact y_12bad N g m was pl hR nu to se (nu 0) (fun i => dg (sG g (p + 2 + i))) (fun i => dg_le _) hto hi0 hw i0 N 0 (by omega) (Nat.zero_add i0)
