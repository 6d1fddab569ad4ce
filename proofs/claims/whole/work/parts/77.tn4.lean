/-! a town told in letters: what a statement does -/
theorem tl_97 (N : Nat) {g : GS} (hg : GI g) (uW : TownS) {p : Nat} (hp : p < 800) (h : sG g p = nI 97) : F_X0_tellStatement N (LX g) uW (nI p) = ((F_X0_tellAll N (LX g) uW (nI p)).bind fun r119 => ckB r119.1 (some (r119.1, r119.2))) := by
  have e0 := x_sign N hg (i := p) (by omega)
  rw [h] at e0
  unfold F_X0_tellStatement
  refine Eq.trans (q_bs0 _ _ _ e0) ?_
  refine Eq.trans (if_pos (show nI 97 = nI 97 from rfl)) ?_
  rfl
theorem tl_99 (N : Nat) {g : GS} (hg : GI g) (uW : TownS) {p : Nat} (hp : p < 800) (h : sG g p = nI 99) : F_X0_tellStatement N (LX g) uW (nI p) = ((F_X0_kindAt N (LX g) (nI (p + 1))).bind fun r69 => (F_X0_digit N (LX g) (nI (p + 2))).bind fun r76 => (F_X0_twoDigits N (LX g) (nI (p + 3))).bind fun r83 => (F_X1_settle N uW r69 r76 r83).bind fun r86 => ckB r86.1 (some (r86.1, r86.2))) := by
  have e0 := x_sign N hg (i := p) (by omega)
  rw [h] at e0
  have e1 : ((F_X0_kindAt N (LX g) (nI p + nI 1)).bind fun r69 => (F_X0_digit N (LX g) (nI p + nI 2)).bind fun r76 => (F_X0_twoDigits N (LX g) (nI p + nI 3)).bind fun r83 => (F_X1_settle N uW r69 r76 r83).bind fun r86 => ckB r86.1 (some (r86.1, r86.2))) = ((F_X0_kindAt N (LX g) (nI (p + 1))).bind fun r69 => (F_X0_digit N (LX g) (nI (p + 2))).bind fun r76 => (F_X0_twoDigits N (LX g) (nI (p + 3))).bind fun r83 => (F_X1_settle N uW r69 r76 r83).bind fun r86 => ckB r86.1 (some (r86.1, r86.2))) := by
    rw [(nI_add p 1), (nI_add p 2), (nI_add p 3)]
  unfold F_X0_tellStatement
  refine Eq.trans (q_bs0 _ _ _ e0) ?_
  refine Eq.trans (if_neg (show ¬ nI 99 = nI 97 by decide)) ?_
  refine Eq.trans (if_pos (show nI 99 = nI 99 from rfl)) ?_
  exact e1
theorem tl_100 (N : Nat) {g : GS} (hg : GI g) (uW : TownS) {p : Nat} (hp : p < 800) (h : sG g p = nI 100) : F_X0_tellStatement N (LX g) uW (nI p) = ((F_X0_digit N (LX g) (nI (p + 1))).bind fun r135 => (F_X1_bury N uW r135).bind fun r138 => ckB r138.1 (some (r138.1, r138.2))) := by
  have e0 := x_sign N hg (i := p) (by omega)
  rw [h] at e0
  have e1 : ((F_X0_digit N (LX g) (nI p + nI 1)).bind fun r135 => (F_X1_bury N uW r135).bind fun r138 => ckB r138.1 (some (r138.1, r138.2))) = ((F_X0_digit N (LX g) (nI (p + 1))).bind fun r135 => (F_X1_bury N uW r135).bind fun r138 => ckB r138.1 (some (r138.1, r138.2))) := by
    rw [(nI_add p 1)]
  unfold F_X0_tellStatement
  refine Eq.trans (q_bs0 _ _ _ e0) ?_
  refine Eq.trans (if_neg (show ¬ nI 100 = nI 97 by decide)) ?_
  refine Eq.trans (if_neg (show ¬ nI 100 = nI 99 by decide)) ?_
  refine Eq.trans (if_pos (show nI 100 = nI 100 from rfl)) ?_
  exact e1
theorem tl_113 (N : Nat) {g : GS} (hg : GI g) (uW : TownS) {p : Nat} (hp : p < 800) (h : sG g p = nI 113) : F_X0_tellStatement N (LX g) uW (nI p) = ((F_X0_tellQuarrel N (LX g) uW (nI p)).bind fun r126 => ckB r126.1 (some (r126.1, r126.2))) := by
  have e0 := x_sign N hg (i := p) (by omega)
  rw [h] at e0
  unfold F_X0_tellStatement
  refine Eq.trans (q_bs0 _ _ _ e0) ?_
  refine Eq.trans (if_neg (show ¬ nI 113 = nI 97 by decide)) ?_
  refine Eq.trans (if_neg (show ¬ nI 113 = nI 99 by decide)) ?_
  refine Eq.trans (if_neg (show ¬ nI 113 = nI 100 by decide)) ?_
  refine Eq.trans (if_pos (show nI 113 = nI 113 from rfl)) ?_
  rfl
theorem tl_119 (N : Nat) {g : GS} (hg : GI g) (uW : TownS) {p : Nat} (hp : p < 800) (h : sG g p = nI 119) : F_X0_tellStatement N (LX g) uW (nI p) = ((F_X0_digit N (LX g) (nI (p + 1))).bind fun r95 => (F_X0_digit N (LX g) (nI (p + 2))).bind fun r102 => (F_X0_digit N (LX g) (nI (p + 3))).bind fun r109 => (F_X1_hear N uW r95 r102 r109).bind fun r112 => ckB r112.1 (some (r112.1, r112.2))) := by
  have e0 := x_sign N hg (i := p) (by omega)
  rw [h] at e0
  have e1 : ((F_X0_digit N (LX g) (nI p + nI 1)).bind fun r95 => (F_X0_digit N (LX g) (nI p + nI 2)).bind fun r102 => (F_X0_digit N (LX g) (nI p + nI 3)).bind fun r109 => (F_X1_hear N uW r95 r102 r109).bind fun r112 => ckB r112.1 (some (r112.1, r112.2))) = ((F_X0_digit N (LX g) (nI (p + 1))).bind fun r95 => (F_X0_digit N (LX g) (nI (p + 2))).bind fun r102 => (F_X0_digit N (LX g) (nI (p + 3))).bind fun r109 => (F_X1_hear N uW r95 r102 r109).bind fun r112 => ckB r112.1 (some (r112.1, r112.2))) := by
    rw [(nI_add p 1), (nI_add p 2), (nI_add p 3)]
  unfold F_X0_tellStatement
  refine Eq.trans (q_bs0 _ _ _ e0) ?_
  refine Eq.trans (if_neg (show ¬ nI 119 = nI 97 by decide)) ?_
  refine Eq.trans (if_neg (show ¬ nI 119 = nI 99 by decide)) ?_
  refine Eq.trans (if_neg (show ¬ nI 119 = nI 100 by decide)) ?_
  refine Eq.trans (if_neg (show ¬ nI 119 = nI 113 by decide)) ?_
  refine Eq.trans (if_pos (show nI 119 = nI 119 from rfl)) ?_
  exact e1
theorem tl_121 (N : Nat) {g : GS} (hg : GI g) (uW : TownS) {p : Nat} (hp : p < 800) (h : sG g p = nI 121) : F_X0_tellStatement N (LX g) uW (nI p) = ((F_X0_twoDigits N (LX g) (nI (p + 1))).bind fun r147 => (F_X1_spend N uW r147).bind fun r150 => ckB r150.1 (some (r150.1, r150.2))) := by
  have e0 := x_sign N hg (i := p) (by omega)
  rw [h] at e0
  have e1 : ((F_X0_twoDigits N (LX g) (nI p + nI 1)).bind fun r147 => (F_X1_spend N uW r147).bind fun r150 => ckB r150.1 (some (r150.1, r150.2))) = ((F_X0_twoDigits N (LX g) (nI (p + 1))).bind fun r147 => (F_X1_spend N uW r147).bind fun r150 => ckB r150.1 (some (r150.1, r150.2))) := by
    rw [(nI_add p 1)]
  unfold F_X0_tellStatement
  refine Eq.trans (q_bs0 _ _ _ e0) ?_
  refine Eq.trans (if_neg (show ¬ nI 121 = nI 97 by decide)) ?_
  refine Eq.trans (if_neg (show ¬ nI 121 = nI 99 by decide)) ?_
  refine Eq.trans (if_neg (show ¬ nI 121 = nI 100 by decide)) ?_
  refine Eq.trans (if_neg (show ¬ nI 121 = nI 113 by decide)) ?_
  refine Eq.trans (if_neg (show ¬ nI 121 = nI 119 by decide)) ?_
  refine Eq.trans (if_pos (show nI 121 = nI 121 from rfl)) ?_
  exact e1
theorem dn_97 (N : Nat) (g : GS) (m was : TA) (pl ma : Int32) (nu to : FA) (se : Int32) : F_X3_isDone N (ys g m was pl ma nu to se) (nI 97) = ((F_X3_saysAll N (ys g m was pl ma nu to se) (nu 0)).bind fun r122 => ckB r122.1 (some (r122.1, r122.2))) := by
  unfold F_X3_isDone
  rw [(q_c0), (q_c1), (q_c2)]
  exact if_pos (show nI 97 = nI 97 from rfl)
theorem dn_99 (N : Nat) (g : GS) (m was : TA) (pl ma : Int32) (nu to : FA) (se : Int32) : F_X3_isDone N (ys g m was pl ma nu to se) (nI 99) = ((F_X3_adds N (ys g m was pl ma nu to se) (nu 0) (nu 1) (nu 2)).bind fun r77 => ckB r77.1 (some (r77.1, r77.2))) := by
  unfold F_X3_isDone
  rw [(q_c0), (q_c1), (q_c2)]
  refine Eq.trans (if_neg (show ¬ nI 99 = nI 97 by decide)) ?_
  exact if_pos (show nI 99 = nI 99 from rfl)
theorem dn_100 (N : Nat) (g : GS) (m was : TA) (pl ma : Int32) (nu to : FA) (se : Int32) : F_X3_isDone N (ys g m was pl ma nu to se) (nI 100) = ((F_X3_isLiving N (ys g m was pl ma nu to se) (nu 0)).bind fun r189 => if ¬ r189 = 0 then ((F_X3_of N (nu 0) (nI 3)).bind fun r203 => ckI r203 74 (some (nI 1, ((upd (em g.1) r203.toNatClampNeg (nI 1), (ys g m was pl ma nu to se).2) : MS)))) else (some (nI 0, (ys g m was pl ma nu to se)))) := by
  unfold F_X3_isDone
  rw [(q_c0), (q_c1), (q_c2)]
  refine Eq.trans (if_neg (show ¬ nI 100 = nI 97 by decide)) ?_
  refine Eq.trans (if_neg (show ¬ nI 100 = nI 99 by decide)) ?_
  exact if_pos (show nI 100 = nI 100 from rfl)
theorem dn_113 (N : Nat) (g : GS) (m was : TA) (pl ma : Int32) (nu to : FA) (se : Int32) : F_X3_isDone N (ys g m was pl ma nu to se) (nI 113) = ((F_X3_isLiving N (ys g m was pl ma nu to se) (nu 0)).bind fun r128 => if r128 = 0 then (some (nI 0, (ys g m was pl ma nu to se))) else ((F_X3_isLiving N (ys g m was pl ma nu to se) (nu 1)).bind fun r136 => if r136 = 0 then (some (nI 0, (ys g m was pl ma nu to se))) else (if nu 0 = nu 1 then (some (nI 0, (ys g m was pl ma nu to se))) else ((F_X3_isTopic N (nu 2)).bind fun r149 => if ¬ r149 = 0 then ((F_X3_of N (nu 0) (nI 4 + nu 2)).bind fun r166 => ckI r166 74 ((F_X3_of N (nu 1) (nI 4 + nu 2)).bind fun r180 => ckI r180 74 (some (nI 1, ((upd (upd (em g.1) r166.toNatClampNeg (nI 1)) r180.toNatClampNeg (nI 2), (ys g m was pl ma nu to se).2) : MS))))) else (some (nI 0, (ys g m was pl ma nu to se))))))) := by
  unfold F_X3_isDone
  rw [(q_c0), (q_c1), (q_c2)]
  refine Eq.trans (if_neg (show ¬ nI 113 = nI 97 by decide)) ?_
  refine Eq.trans (if_neg (show ¬ nI 113 = nI 99 by decide)) ?_
  refine Eq.trans (if_neg (show ¬ nI 113 = nI 100 by decide)) ?_
  exact if_pos (show nI 113 = nI 113 from rfl)
theorem dn_119 (N : Nat) (g : GS) (m was : TA) (pl ma : Int32) (nu to : FA) (se : Int32) : F_X3_isDone N (ys g m was pl ma nu to se) (nI 119) = ((F_X3_isLiving N (ys g m was pl ma nu to se) (nu 0)).bind fun r83 => if r83 = 0 then (some (nI 0, (ys g m was pl ma nu to se))) else ((F_X3_isTopic N (nu 1)).bind fun r90 => if r90 = 0 then (some (nI 0, (ys g m was pl ma nu to se))) else (if nu 2 ≤ nI 2 then ((F_X3_of N (nu 0) (nI 4 + nu 1)).bind fun r112 => ckI r112 74 (some (nI 1, ((upd (em g.1) r112.toNatClampNeg (nu 2), (ys g m was pl ma nu to se).2) : MS)))) else (some (nI 0, (ys g m was pl ma nu to se)))))) := by
  unfold F_X3_isDone
  rw [(q_c0), (q_c1), (q_c2)]
  refine Eq.trans (if_neg (show ¬ nI 119 = nI 97 by decide)) ?_
  refine Eq.trans (if_neg (show ¬ nI 119 = nI 99 by decide)) ?_
  refine Eq.trans (if_neg (show ¬ nI 119 = nI 100 by decide)) ?_
  refine Eq.trans (if_neg (show ¬ nI 119 = nI 113 by decide)) ?_
  exact if_pos (show nI 119 = nI 119 from rfl)
theorem dn_121 (N : Nat) (g : GS) (m was : TA) (pl ma : Int32) (nu to : FA) (se : Int32) : F_X3_isDone N (ys g m was pl ma nu to se) (nI 121) = ((F_X3_isIn N (nu 0) (nI 1) (nI 60)).bind fun r214 => if r214 = 0 then (some (nI 0, (ys g m was pl ma nu to se))) else (if em g.1 1 + nu 0 ≤ nI 999 then ((F_X3_yearsOn N (em g.1) (nu 0)).bind fun r241 => some (nI 1, ((r241, (ys g m was pl ma nu to se).2) : MS))) else (some (nI 0, (ys g m was pl ma nu to se))))) := by
  unfold F_X3_isDone
  rw [(q_c0), (q_c1), (q_c2)]
  refine Eq.trans (if_neg (show ¬ nI 121 = nI 97 by decide)) ?_
  refine Eq.trans (if_neg (show ¬ nI 121 = nI 99 by decide)) ?_
  refine Eq.trans (if_neg (show ¬ nI 121 = nI 100 by decide)) ?_
  refine Eq.trans (if_neg (show ¬ nI 121 = nI 113 by decide)) ?_
  refine Eq.trans (if_neg (show ¬ nI 121 = nI 119 by decide)) ?_
  rfl
theorem y_live (N : Nat) {g : GS} (hg : GI g) (m was : TA) (pl ma : Int32) (nu to : FA) (se : Int32) {c : Nat} (hc : c < 2147483648) : F_X3_isLiving N (ys g m was pl ma nu to se) (nI c) = some (bI (live g.1 c)) := by
  have hn := hg.1.1
  unfold F_X3_isLiving live
  refine Eq.trans (q_bs0 _ _ _ (f_isCit N _ g.1 rfl hg.1 hc)) ?_
  by_cases h : c < aN g.1
  · rw [decide_eq_true h]
    refine Eq.trans (if_neg (show ¬ bI true = 0 by decide)) ?_
    refine Eq.trans (q_bs0 _ _ _ (f_isAlive N g.1 (by omega))) ?_
    cases aD g.1 c <;> rfl
  · rw [decide_eq_false h]
    exact if_pos (show bI false = 0 by decide)
def StepR (N : Nat) (g : GS) (p : Nat) (m was : TA) (pl ma : Int32) (nu to : FA) (se : Int32) : Prop := (∃ c, Good c ∧ aY c ≤ 999 ∧ F_X0_tellStatement N (LX g) (TW g.1) (nI p) = some (nI 1, TW c) ∧ F_X3_isDone N (ys g m was pl ma nu to se) (sG g p) = some (nI 1, ys (gN g c) m was pl ma nu to se)) ∨ (∃ c, Good c ∧ F_X0_tellStatement N (LX g) (TW g.1) (nI p) = some (nI 0, TW c) ∧ F_X3_isDone N (ys g m was pl ma nu to se) (sG g p) = some (nI 0, ys g m was pl ma nu to se))
theorem sd_d {N : Nat} {g : GS} (hg : GI g) (m was : TA) (pl ma : Int32) (nu to : FA) (se : Int32) {p : Nat} (hp : p < 800) (h : sG g p = nI 100) (hd : isD (sG g (p + 1)) = true) (h0 : nu 0 = nI (dg (sG g (p + 1)))) : StepR N g p m was pl ma nu to se := by
  have hd9 := dg_le (sG g (p + 1))
  have hxd := x_digit N hg (i := p + 1) (by omega) hd
  have hn := hg.1.1
  generalize dg (sG g (p + 1)) = d at h0 hd9 hxd
  have hx : F_X0_tellStatement N (LX g) (TW g.1) (nI p) = some (bI (live g.1 d), TW (if live g.1 d then sD g.1 (updN (aD g.1) d true) else g.1)) := by
    refine (tl_100 N hg _ hp h).trans ?_
    refine Eq.trans (q_bs0 _ _ _ hxd) ?_
    refine Eq.trans (q_bs0 _ _ _ (g_bury N hg.1 (by omega))) ?_
    exact q_ckB _
  have hy : F_X3_isLiving N (ys g m was pl ma nu to se) (nu 0) = some (bI (live g.1 d)) := by
    rw [h0]
    exact y_live N hg m was pl ma nu to se (by omega)
  have hof : F_X3_of N (nu 0) (nI 3) = some (nI (ix d 3)) := by
    rw [h0]
    exact f_of N d 3
  unfold StepR
  rw [h, hx, dn_100 N g m was pl ma nu to se]
  cases hl : live g.1 d
  · rw [hl] at hy
    refine Or.inr ⟨g.1, hg.1, rfl, ?_⟩
    refine Eq.trans (q_bs0 _ _ _ hy) ?_
    exact if_neg (show ¬ ¬ bI false = 0 by decide)
  · rw [hl] at hy
    have hlt := live_lt hl
    refine Or.inl ⟨sD g.1 (updN (aD g.1) d true), Good_dead1 hg.1 hlt, hg.2.1, rfl, ?_⟩
    refine Eq.trans (q_bs0 _ _ _ hy) ?_
    refine Eq.trans (if_pos (show ¬ bI true = 0 by decide)) ?_
    refine Eq.trans (q_bs0 _ _ _ hof) ?_
    refine Eq.trans (q_ck (ix_lt (by omega) (by decide)) (by decide)) ?_
    have e : upd (em g.1) (nI (ix d 3)).toNatClampNeg (nI 1) = em (sD g.1 (updN (aD g.1) d true)) := by
      rw [(q_cl (show ix d 3 < 2147483648 by unfold ix; omega))]
      exact em_sD g.1 d true
    exact congrArg (fun z => some (nI 1, ((z, (ys g m was pl ma nu to se).2) : MS))) e
theorem sd_w {N : Nat} {g : GS} (hg : GI g) (m was : TA) (pl ma : Int32) (nu to : FA) (se : Int32) {p : Nat} (hp : p < 800) (h : sG g p = nI 119) (hd1 : isD (sG g (p + 1)) = true) (hd2 : isD (sG g (p + 2)) = true) (hd3 : isD (sG g (p + 3)) = true) (h0 : nu 0 = nI (dg (sG g (p + 1)))) (h1 : nu 1 = nI (dg (sG g (p + 2)))) (h2 : nu 2 = nI (dg (sG g (p + 3)))) : StepR N g p m was pl ma nu to se := by
  have hc9 := dg_le (sG g (p + 1))
  have ht9 := dg_le (sG g (p + 2))
  have hw9 := dg_le (sG g (p + 3))
  have hx1 := x_digit N hg (i := p + 1) (by omega) hd1
  have hx2 := x_digit N hg (i := p + 2) (by omega) hd2
  have hx3 := x_digit N hg (i := p + 3) (by omega) hd3
  have hn := hg.1.1
  generalize dg (sG g (p + 1)) = c at h0 hc9 hx1
  generalize dg (sG g (p + 2)) = t at h1 ht9 hx2
  generalize dg (sG g (p + 3)) = w at h2 hw9 hx3
  have hx : F_X0_tellStatement N (LX g) (TW g.1) (nI p) = some (bI (hears g.1 c t w), TW (if hears g.1 c t w then sW g.1 (updW (aW g.1) c t w) else g.1)) := by
    refine (tl_119 N hg _ hp h).trans ?_
    refine Eq.trans (q_bs0 _ _ _ hx1) ?_
    refine Eq.trans (q_bs0 _ _ _ hx2) ?_
    refine Eq.trans (q_bs0 _ _ _ hx3) ?_
    refine Eq.trans (q_bs0 _ _ _ (g_hear N hg.1 (by omega) (by omega) (by omega))) ?_
    exact q_ckB _
  have hy : F_X3_isLiving N (ys g m was pl ma nu to se) (nu 0) = some (bI (live g.1 c)) := by
    rw [h0]
    exact y_live N hg m was pl ma nu to se (by omega)
  have htp : F_X3_isTopic N (nu 1) = some (bI (decide (t < 8))) := by
    rw [h1]
    exact f_isTopic N (by omega)
  have hof : F_X3_of N (nu 0) (nI 4 + nu 1) = some (nI (ix c (4 + t))) := by
    rw [h0, h1, (nI_add 4 t)]
    exact f_of N c (4 + t)
  unfold StepR
  rw [h, hx, dn_119 N g m was pl ma nu to se]
  cases hl : live g.1 c
  · rw [hl] at hy
    have hh : hears g.1 c t w = false := by
      unfold hears
      rw [hl]
      rfl
    rw [hh]
    refine Or.inr ⟨g.1, hg.1, rfl, ?_⟩
    refine Eq.trans (q_bs0 _ _ _ hy) ?_
    exact if_pos (show bI false = 0 by decide)
  · rw [hl] at hy
    have hlt := live_lt hl
    by_cases ht : t < 8
    · rw [decide_eq_true ht] at htp
      by_cases hw : w ≤ 2
      · have hh : hears g.1 c t w = true := by
          unfold hears
          rw [hl, decide_eq_true ht, decide_eq_true hw]
          rfl
        have hw2 : nu 2 ≤ nI 2 := by
          rw [h2, (q_le (show w < 2147483648 by omega) (by decide))]
          exact hw
        rw [hh]
        refine Or.inl ⟨sW g.1 (updW (aW g.1) c t w), Good_put hg.1 hlt ht hw, hg.2.1, rfl, ?_⟩
        refine Eq.trans (q_bs0 _ _ _ hy) ?_
        refine Eq.trans (if_neg (show ¬ bI true = 0 by decide)) ?_
        refine Eq.trans (q_bs0 _ _ _ htp) ?_
        refine Eq.trans (if_neg (show ¬ bI true = 0 by decide)) ?_
        refine Eq.trans (if_pos hw2) ?_
        refine Eq.trans (q_bs0 _ _ _ hof) ?_
        refine Eq.trans (q_ck (ix_lt (by omega) (by omega)) (by decide)) ?_
        have e : upd (em g.1) (nI (ix c (4 + t))).toNatClampNeg (nu 2) = em (sW g.1 (updW (aW g.1) c t w)) := by
          rw [h2, (q_cl (show ix c (4 + t) < 2147483648 by unfold ix; omega))]
          exact em_sW g.1 c t w ht
        exact congrArg (fun z => some (nI 1, ((z, (ys g m was pl ma nu to se).2) : MS))) e
      · have hh : hears g.1 c t w = false := by
          unfold hears
          rw [hl, decide_eq_true ht, decide_eq_false hw]
          rfl
        have hw2 : ¬ nu 2 ≤ nI 2 := by
          rw [h2, (q_le (show w < 2147483648 by omega) (by decide))]
          exact hw
        rw [hh]
        refine Or.inr ⟨g.1, hg.1, rfl, ?_⟩
        refine Eq.trans (q_bs0 _ _ _ hy) ?_
        refine Eq.trans (if_neg (show ¬ bI true = 0 by decide)) ?_
        refine Eq.trans (q_bs0 _ _ _ htp) ?_
        refine Eq.trans (if_neg (show ¬ bI true = 0 by decide)) ?_
        exact if_neg hw2
    · rw [decide_eq_false ht] at htp
      have hh : hears g.1 c t w = false := by
        unfold hears
        rw [hl, decide_eq_false ht]
        rfl
      rw [hh]
      refine Or.inr ⟨g.1, hg.1, rfl, ?_⟩
      refine Eq.trans (q_bs0 _ _ _ hy) ?_
      refine Eq.trans (if_neg (show ¬ bI true = 0 by decide)) ?_
      refine Eq.trans (q_bs0 _ _ _ htp) ?_
      exact if_pos (show bI false = 0 by decide)
theorem sd_y {N : Nat} (hN : 2000 ≤ N) {g : GS} (hg : GI g) (m was : TA) (pl ma : Int32) (nu to : FA) (se : Int32) {p : Nat} (hp : p < 800) (h : sG g p = nI 121) (hd1 : isD (sG g (p + 1)) = true) (hd2 : isD (sG g (p + 2)) = true) (h0 : nu 0 = nI (10 * dg (sG g (p + 1)) + dg (sG g (p + 2)))) : StepR N g p m was pl ma nu to se := by
  have h91 := dg_le (sG g (p + 1))
  have h92 := dg_le (sG g (p + 2))
  have hx1 := x_twoD N hg (i := p + 1) (by omega) hd1 hd2
  have hn : 10 * dg (sG g (p + 1)) + dg (sG g (p + 2)) ≤ 99 := by omega
  have hx1 : F_X0_twoDigits N (LX g) (nI (p + 1)) = some (nI (10 * dg (sG g (p + 1)) + dg (sG g (p + 2)))) := hx1
  generalize 10 * dg (sG g (p + 1)) + dg (sG g (p + 2)) = n at h0 hn hx1
  have hY := hg.2.1
  have hsp := g_spend hN hg.1 (n := n) (by omega) hY
  have hin : F_X3_isIn N (nu 0) (nI 1) (nI 60) = some (bI (decide (1 ≤ n ∧ n ≤ 60))) := by
    rw [h0]
    exact f_isIn N (by omega) (by decide) (by decide)
  unfold StepR
  rw [h, dn_121 N g m was pl ma nu to se, tl_121 N hg _ hp h]
  by_cases hc : 1 ≤ n ∧ n ≤ 60
  · rw [decide_eq_true hc] at hin
    by_cases hc2 : aY g.1 + n ≤ 999
    · rw [if_pos (show 1 ≤ n ∧ n ≤ 60 ∧ aY g.1 + n ≤ 999 from ⟨hc.1, hc.2, hc2⟩)] at hsp
      have hle : em g.1 1 + nu 0 ≤ nI 999 := by
        rw [h0]
        try rw [em_1]
        rw [(nI_add (aY g.1) n), (q_le (by omega) (by decide))]
        exact hc2
      refine Or.inl ⟨yearsF g.1 n, Good_years hg.1 n (by omega), by rw [(yearsF_n g.1 n).2]; exact hc2, ?_, ?_⟩
      · refine Eq.trans (q_bs0 _ _ _ hx1) ?_
        refine Eq.trans (q_bs0 _ _ _ hsp) ?_
        exact q_ckB1
      · refine Eq.trans (q_bs0 _ _ _ hin) ?_
        refine Eq.trans (if_neg (show ¬ bI true = 0 by decide)) ?_
        refine Eq.trans (if_pos hle) ?_
        rw [h0]
        exact q_bs0 _ _ _ (f_yearsOn hN hg.1 (by omega) (by omega))
    · rw [if_neg (show ¬ (1 ≤ n ∧ n ≤ 60 ∧ aY g.1 + n ≤ 999) from fun e => hc2 e.2.2)] at hsp
      have hle : ¬ em g.1 1 + nu 0 ≤ nI 999 := by
        rw [h0]
        try rw [em_1]
        rw [(nI_add (aY g.1) n), (q_le (by omega) (by decide))]
        exact hc2
      refine Or.inr ⟨g.1, hg.1, ?_, ?_⟩
      · refine Eq.trans (q_bs0 _ _ _ hx1) ?_
        refine Eq.trans (q_bs0 _ _ _ hsp) ?_
        exact q_ckB0
      · refine Eq.trans (q_bs0 _ _ _ hin) ?_
        refine Eq.trans (if_neg (show ¬ bI true = 0 by decide)) ?_
        exact if_neg hle
  · rw [decide_eq_false hc] at hin
    rw [if_neg (show ¬ (1 ≤ n ∧ n ≤ 60 ∧ aY g.1 + n ≤ 999) from fun e => hc ⟨e.1, e.2.1⟩)] at hsp
    refine Or.inr ⟨g.1, hg.1, ?_, ?_⟩
    · refine Eq.trans (q_bs0 _ _ _ hx1) ?_
      refine Eq.trans (q_bs0 _ _ _ hsp) ?_
      exact q_ckB0
    · refine Eq.trans (q_bs0 _ _ _ hin) ?_
      exact if_pos (show bI false = 0 by decide)
