/-! a town told in letters: quarrels, settlers, all words of one -/
theorem x_hearF (N : Nat) {a : TA} (hg : Good a) {i t w : Nat} (hi : i < 1000) (ht : t < 1000) (hw : w < 1000) (h : hears a i t w = false) : F_X1_hear N (TW a) (nI i) (nI t) (nI w) = some (nI 0, TW a) := by
  have e := g_hear N hg (i := i) (t := t) (w := w) (by omega) (by omega) (by omega)
  rw [h] at e
  exact e
theorem x_hearT (N : Nat) {a : TA} (hg : Good a) {i t w : Nat} (hi : i < 1000) (ht : t < 1000) (hw : w < 1000) (h : hears a i t w = true) : F_X1_hear N (TW a) (nI i) (nI t) (nI w) = some (nI 1, TW (sW a (updW (aW a) i t w))) := by
  have e := g_hear N hg (i := i) (t := t) (w := w) (by omega) (by omega) (by omega)
  rw [h] at e
  exact e
theorem hears_no {a : TA} {i t w : Nat} (h : live a i = false) : hears a i t w = false := by
  unfold hears
  rw [h]
  rfl
theorem hears_no2 {a : TA} {i t w : Nat} (h : ¬ t < 8) : hears a i t w = false := by
  unfold hears
  rw [decide_eq_false h]
  cases live a i <;> rfl
theorem hears_no3 {a : TA} {i t w : Nat} (h : ¬ w ≤ 2) : hears a i t w = false := by
  unfold hears
  rw [decide_eq_false h, Bool.and_false]
theorem hears_t {a : TA} {i t w : Nat} (h : live a i = true) (ht : t < 8) (hw : w ≤ 2) : hears a i t w = true := by
  unfold hears
  rw [h, decide_eq_true ht, decide_eq_true hw]
  rfl
theorem x_quar (N : Nat) {g : GS} (hg : GI g) {p a b t : Nat} (hp : p < 800) (h1 : F_X0_digit N (LX g) (nI (p + 1)) = some (nI a)) (h2 : F_X0_digit N (LX g) (nI (p + 2)) = some (nI b)) (h3 : F_X0_digit N (LX g) (nI (p + 3)) = some (nI t)) : F_X0_tellQuarrel N (LX g) (TW g.1) (nI p) = if nI a = nI b then some (nI 0, TW g.1) else ((F_X1_hear N (TW g.1) (nI a) (nI t) (nI 1)).bind fun r37 => if r37.1 = 0 then some (nI 0, r37.2) else ((F_X1_hear N r37.2 (nI b) (nI t) (nI 2)).bind fun r49 => if r49.1 = 0 then some (nI 0, r49.2) else some (nI 1, r49.2))) := by
  unfold F_X0_tellQuarrel
  rw [(nI_add p 1), (nI_add p 2), (nI_add p 3)]
  refine Eq.trans (q_bs0 _ _ _ h1) ?_
  refine Eq.trans (q_bs0 _ _ _ h2) ?_
  exact q_bs0 _ _ _ h3
theorem sd_q {N : Nat} {g : GS} (hg : GI g) (m was : TA) (pl ma : Int32) (nu to : FA) (se : Int32) {p : Nat} (hp : p < 800) (h : sG g p = nI 113) (hd1 : isD (sG g (p + 1)) = true) (hd2 : isD (sG g (p + 2)) = true) (hd3 : isD (sG g (p + 3)) = true) (h0 : nu 0 = nI (dg (sG g (p + 1)))) (h1 : nu 1 = nI (dg (sG g (p + 2)))) (h2 : nu 2 = nI (dg (sG g (p + 3)))) : StepR N g p m was pl ma nu to se := by
  have hc9 := dg_le (sG g (p + 1))
  have ht9 := dg_le (sG g (p + 2))
  have hw9 := dg_le (sG g (p + 3))
  have hx1 := x_digit N hg (i := p + 1) (by omega) hd1
  have hx2 := x_digit N hg (i := p + 2) (by omega) hd2
  have hx3 := x_digit N hg (i := p + 3) (by omega) hd3
  have hn := hg.1.1
  generalize dg (sG g (p + 1)) = a at h0 hc9 hx1
  generalize dg (sG g (p + 2)) = b at h1 ht9 hx2
  generalize dg (sG g (p + 3)) = t at h2 hw9 hx3
  have hq := x_quar N hg hp hx1 hx2 hx3
  have hya : F_X3_isLiving N (ys g m was pl ma nu to se) (nu 0) = some (bI (live g.1 a)) := by
    rw [h0]
    exact y_live N hg m was pl ma nu to se (by omega)
  have hyb : F_X3_isLiving N (ys g m was pl ma nu to se) (nu 1) = some (bI (live g.1 b)) := by
    rw [h1]
    exact y_live N hg m was pl ma nu to se (by omega)
  have htp : F_X3_isTopic N (nu 2) = some (bI (decide (t < 8))) := by
    rw [h2]
    exact f_isTopic N (by omega)
  have hofa : F_X3_of N (nu 0) (nI 4 + nu 2) = some (nI (ix a (4 + t))) := by
    rw [h0, h2, (nI_add 4 t)]
    exact f_of N a (4 + t)
  have hofb : F_X3_of N (nu 1) (nI 4 + nu 2) = some (nI (ix b (4 + t))) := by
    rw [h1, h2, (nI_add 4 t)]
    exact f_of N b (4 + t)
  have hab : (nu 0 = nu 1) = (a = b) := by
    rw [h0, h1]
    exact q_eq (by omega) (by omega)
  have hab' : (nI a = nI b) = (a = b) := q_eq (by omega) (by omega)
  unfold StepR
  rw [h, dn_113 N g m was pl ma nu to se, tl_113 N hg _ hp h]
  have x0 : ∀ {c : TA}, F_X0_tellQuarrel N (LX g) (TW g.1) (nI p) = some (nI 0, TW c) → ((F_X0_tellQuarrel N (LX g) (TW g.1) (nI p)).bind fun r126 => ckB r126.1 (some (r126.1, r126.2))) = some (nI 0, TW c) := fun {c} e => (q_bs0 _ _ _ e).trans q_ckB0
  by_cases e : a = b
  · have hq0 : F_X0_tellQuarrel N (LX g) (TW g.1) (nI p) = some (nI 0, TW g.1) := hq.trans (if_pos (by rw [hab']; exact e))
    refine Or.inr ⟨g.1, hg.1, x0 hq0, ?_⟩
    refine Eq.trans (q_bs0 _ _ _ hya) ?_
    cases hla : live g.1 a
    · exact if_pos (show bI false = 0 by decide)
    · refine Eq.trans (if_neg (show ¬ bI true = 0 by decide)) ?_
      refine Eq.trans (q_bs0 _ _ _ hyb) ?_
      cases hlb : live g.1 b
      · exact if_pos (show bI false = 0 by decide)
      · refine Eq.trans (if_neg (show ¬ bI true = 0 by decide)) ?_
        exact if_pos (by rw [hab]; exact e)
  · have hq1 := hq.trans (if_neg (by rw [hab']; exact e))
    cases hla : live g.1 a
    · rw [hla] at hya
      have hq0 : F_X0_tellQuarrel N (LX g) (TW g.1) (nI p) = some (nI 0, TW g.1) := by
        refine hq1.trans ?_
        refine Eq.trans (q_bs0 _ _ _ (x_hearF N hg.1 (by omega) (by omega) (by decide) (hears_no hla))) ?_
        exact if_pos (show nI 0 = 0 by decide)
      refine Or.inr ⟨g.1, hg.1, x0 hq0, ?_⟩
      refine Eq.trans (q_bs0 _ _ _ hya) ?_
      exact if_pos (show bI false = 0 by decide)
    · rw [hla] at hya
      have hlt := live_lt hla
      by_cases ht : t < 8
      · rw [decide_eq_true ht] at htp
        have hb1 := Good_put hg.1 hlt ht (show 1 ≤ 2 by decide)
        have hh1 := x_hearT N hg.1 (i := a) (t := t) (w := 1) (by omega) (by omega) (by decide) (hears_t hla ht (by decide))
        cases hlb : live g.1 b
        · rw [hlb] at hyb
          have hq0 : F_X0_tellQuarrel N (LX g) (TW g.1) (nI p) = some (nI 0, TW (sW g.1 (updW (aW g.1) a t 1))) := by
            refine hq1.trans ?_
            refine Eq.trans (q_bs0 _ _ _ hh1) ?_
            refine Eq.trans (if_neg (show ¬ nI 1 = 0 by decide)) ?_
            refine Eq.trans (q_bs0 _ _ _ (x_hearF N hb1 (i := b) (t := t) (w := 2) (by omega) (by omega) (by decide) (hears_no hlb))) ?_
            exact if_pos (show nI 0 = 0 by decide)
          refine Or.inr ⟨_, hb1, x0 hq0, ?_⟩
          refine Eq.trans (q_bs0 _ _ _ hya) ?_
          refine Eq.trans (if_neg (show ¬ bI true = 0 by decide)) ?_
          refine Eq.trans (q_bs0 _ _ _ hyb) ?_
          exact if_pos (show bI false = 0 by decide)
        · rw [hlb] at hyb
          have hltb := live_lt hlb
          have hh2 := x_hearT N hb1 (i := b) (t := t) (w := 2) (by omega) (by omega) (by decide) (hears_t hlb ht (by decide))
          have hb2 := Good_put hb1 (c := b) (t := t) (w := 2) hltb ht (by decide)
          refine Or.inl ⟨_, hb2, hg.2.1, ?_, ?_⟩
          · refine (q_bs0 _ _ _ (?_ : F_X0_tellQuarrel N (LX g) (TW g.1) (nI p) = some (nI 1, TW (sW (sW g.1 (updW (aW g.1) a t 1)) (updW (aW (sW g.1 (updW (aW g.1) a t 1))) b t 2))))).trans q_ckB1
            refine hq1.trans ?_
            refine Eq.trans (q_bs0 _ _ _ hh1) ?_
            refine Eq.trans (if_neg (show ¬ nI 1 = 0 by decide)) ?_
            refine Eq.trans (q_bs0 _ _ _ hh2) ?_
            exact if_neg (show ¬ nI 1 = 0 by decide)
          · refine Eq.trans (q_bs0 _ _ _ hya) ?_
            refine Eq.trans (if_neg (show ¬ bI true = 0 by decide)) ?_
            refine Eq.trans (q_bs0 _ _ _ hyb) ?_
            refine Eq.trans (if_neg (show ¬ bI true = 0 by decide)) ?_
            refine Eq.trans (if_neg (by rw [hab]; exact e)) ?_
            refine Eq.trans (q_bs0 _ _ _ htp) ?_
            refine Eq.trans (if_pos (show ¬ bI true = 0 by decide)) ?_
            refine Eq.trans (q_bs0 _ _ _ hofa) ?_
            refine Eq.trans (q_ck (ix_lt (by omega) (by omega)) (by decide)) ?_
            refine Eq.trans (q_bs0 _ _ _ hofb) ?_
            refine Eq.trans (q_ck (ix_lt (by omega) (by omega)) (by decide)) ?_
            have e2 : upd (upd (em g.1) (nI (ix a (4 + t))).toNatClampNeg (nI 1)) (nI (ix b (4 + t))).toNatClampNeg (nI 2) = em (sW (sW g.1 (updW (aW g.1) a t 1)) (updW (aW (sW g.1 (updW (aW g.1) a t 1))) b t 2)) := by
              rw [(q_cl (show ix a (4 + t) < 2147483648 by unfold ix; omega)), (q_cl (show ix b (4 + t) < 2147483648 by unfold ix; omega)), em_sW g.1 a t 1 ht]
              exact em_sW _ b t 2 ht
            exact congrArg (fun z => some (nI 1, ((z, (ys g m was pl ma nu to se).2) : MS))) e2
      · rw [decide_eq_false ht] at htp
        have hq0 : F_X0_tellQuarrel N (LX g) (TW g.1) (nI p) = some (nI 0, TW g.1) := by
          refine hq1.trans ?_
          refine Eq.trans (q_bs0 _ _ _ (x_hearF N hg.1 (i := a) (t := t) (w := 1) (by omega) (by omega) (by decide) (hears_no2 ht))) ?_
          exact if_pos (show nI 0 = 0 by decide)
        refine Or.inr ⟨g.1, hg.1, x0 hq0, ?_⟩
        refine Eq.trans (q_bs0 _ _ _ hya) ?_
        refine Eq.trans (if_neg (show ¬ bI true = 0 by decide)) ?_
        refine Eq.trans (q_bs0 _ _ _ hyb) ?_
        cases hlb : live g.1 b
        · exact if_pos (show bI false = 0 by decide)
        · refine Eq.trans (if_neg (show ¬ bI true = 0 by decide)) ?_
          refine Eq.trans (if_neg (by rw [hab]; exact e)) ?_
          refine Eq.trans (q_bs0 _ _ _ htp) ?_
          exact if_neg (show ¬ ¬ bI false = 0 by decide)
def preA (a : TA) (k f v : Nat) : TA := (aN a, aY a, updN (aK a) (aN a) k, updN (aF a) (aN a) f, updN (aA a) (aN a) v, aD a, aW a)
def setA (a : TA) (k f v : Nat) : TA := (aN a + 1, aY a, updN (aK a) (aN a) k, updN (aF a) (aN a) f, updN (aA a) (aN a) v, aD a, aW a)
theorem Good_settle {a : TA} (h : Good a) (h6 : aN a < 6) {k f v : Nat} (hk : k ≤ 5) (hf : f ≤ 9) (hv : v ≤ 99) : Good (setA a k f v) := by
  obtain ⟨t1, t2, t3, t4, t5, t6, t7, t8⟩ := h
  refine ⟨?_, t2, fun i => ?_, fun i => ?_, fun i => ?_, t6, fun i hi => ?_, t8⟩
  · show aN a + 1 ≤ 6
    omega
  · show updN (aK a) (aN a) k i ≤ 5
    unfold updN
    split
    · exact hk
    · exact t3 i
  · show updN (aF a) (aN a) f i ≤ 9
    unfold updN
    split
    · exact hf
    · exact t4 i
  · show updN (aA a) (aN a) v i ≤ 99
    unfold updN
    split
    · exact hv
    · exact t5 i
  · have hi : aN a + 1 ≤ i := hi
    obtain ⟨u1, u2, u3, u4, u5⟩ := t7 i (show aN a ≤ i by omega)
    exact ⟨(updN_n _ _ (by omega)).trans u1, (updN_n _ _ (by omega)).trans u2, (updN_n _ _ (by omega)).trans u3, u4, u5⟩
theorem y_adds {N : Nat} (hN : 2000 ≤ N) {g : GS} (hg : GI g) (m was : TA) (pl ma : Int32) (nu to : FA) (se : Int32) (k f v : Nat) : F_X3_adds N (ys g m was pl ma nu to se) (nI k) (nI f) (nI v) = if aN g.1 < 6 then some (nI 1, ys (gN g (setA g.1 k f v)) m was pl ma nu to se) else some (nI 0, ys g m was pl ma nu to se) := by
  have hn := hg.1.1
  unfold F_X3_adds
  rw [(q_c0)]
  by_cases h6 : aN g.1 < 6
  · rw [if_pos h6]
    have hne : ¬ nI (aN g.1) = nI 6 := fun e => by
      have h := (nI_eq (show aN g.1 < 2147483648 by omega) (by decide)).mp e
      omega
    have ht := hg.1.2.2.2.2.2.2.1 (aN g.1) (Nat.le_refl _)
    have c0 : ∀ w, w < 12 → (nI (ix (aN g.1) w)).toNatClampNeg = ix (aN g.1) w := fun w hw => q_cl (by have := ix_lt h6 hw; omega)
    refine Eq.trans (if_pos hne) ?_
    refine Eq.trans (q_bs0 _ _ _ (f_of N (aN g.1) 0)) ?_
    refine Eq.trans (q_ck (ix_lt h6 (by decide)) (by decide)) ?_
    refine Eq.trans (q_bs0 _ _ _ (f_of N (aN g.1) 1)) ?_
    refine Eq.trans (q_ck (ix_lt h6 (by decide)) (by decide)) ?_
    refine Eq.trans (q_bs0 _ _ _ (f_of N (aN g.1) 2)) ?_
    refine Eq.trans (q_ck (ix_lt h6 (by decide)) (by decide)) ?_
    refine Eq.trans (q_bs0 _ _ _ (f_of N (aN g.1) 3)) ?_
    refine Eq.trans (q_ck (ix_lt h6 (by decide)) (by decide)) ?_
    have hD : updN (aD g.1) (aN g.1) false = aD g.1 := by
      have h := updN_self (aD g.1) (aN g.1)
      have h2 : aD g.1 (aN g.1) = false := ht.2.2.2.1
      rw [h2] at h
      exact h
    have e4 : upd (upd (upd (upd (em g.1) (nI (ix (aN g.1) 0)).toNatClampNeg (nI k)) (nI (ix (aN g.1) 1)).toNatClampNeg (nI f)) (nI (ix (aN g.1) 2)).toNatClampNeg (nI v)) (nI (ix (aN g.1) 3)).toNatClampNeg (nI 0) = em (preA g.1 k f v) := by
      rw [c0 0 (by decide), c0 1 (by decide), c0 2 (by decide), c0 3 (by decide), em_sK g.1 (aN g.1) k]
      have s1 := em_sF (sK g.1 (updN (aK g.1) (aN g.1) k)) (aN g.1) f
      rw [s1]
      have s2 := em_sA (sF (sK g.1 (updN (aK g.1) (aN g.1) k)) (updN (aF (sK g.1 (updN (aK g.1) (aN g.1) k))) (aN g.1) f)) (aN g.1) v
      rw [s2]
      refine (em_sD (preA g.1 k f v) (aN g.1) false).trans ?_
      exact congrArg em (congrArg (sD (preA g.1 k f v)) hD)
    have e5 : ∀ i, i < 8 → upd (em (preA g.1 k f v)) (nI (ix (aN g.1) (4 + i))).toNatClampNeg (nI 0) = em (preA g.1 k f v) := by
      intro i hi
      rw [c0 (4 + i) (by omega)]
      refine (em_sW (preA g.1 k f v) (aN g.1) i 0 hi).trans ?_
      have hW : updW (aW g.1) (aN g.1) i 0 = aW g.1 := by
        funext x y
        show (if x = aN g.1 ∧ y = i then 0 else aW g.1 x y) = aW g.1 x y
        by_cases hxy : x = aN g.1 ∧ y = i
        · rw [if_pos hxy, hxy.1]
          exact (ht.2.2.2.2 y).symm
        · rw [if_neg hxy]
      exact congrArg em (congrArg (sW (preA g.1 k f v)) hW)
    have hl : F_X3_adds_72 N N (ys (gN g (preA g.1 k f v)) m was pl ma nu to se) (nI (aN g.1)) (nI 0) = F_X3_adds_100 N (ys (gN g (preA g.1 k f v)) m was pl ma nu to se) := by
      refine loop_up (fun n (j : Int32) => F_X3_adds_72 N n (ys (gN g (preA g.1 k f v)) m was pl ma nu to se) (nI (aN g.1)) j) (fun i => nI i) 8 _ ?_ ?_ N 0 (by decide) (by omega)
      · intro n i hi
        show F_X3_adds_72 N (n + 1) (ys (gN g (preA g.1 k f v)) m was pl ma nu to se) (nI (aN g.1)) (nI i) = F_X3_adds_72 N n (ys (gN g (preA g.1 k f v)) m was pl ma nu to se) (nI (aN g.1)) (nI (i + 1))
        have hof : F_X3_of N (nI (aN g.1)) (nI 4 + nI i) = some (nI (ix (aN g.1) (4 + i))) := by
          rw [(nI_add 4 i)]
          exact f_of N (aN g.1) (4 + i)
        rw [F_X3_adds_72, i_le (by decide) (by omega)]
        refine Eq.trans (if_neg (by omega)) ?_
        refine Eq.trans (q_bs0 _ _ _ hof) ?_
        refine Eq.trans (q_ck (ix_lt h6 (by omega)) (by decide)) ?_
        rw [(nI_add i 1)]
        exact congrArg (fun z => F_X3_adds_72 N n ((z, (ys (gN g (preA g.1 k f v)) m was pl ma nu to se).2) : MS) (nI (aN g.1)) (nI (i + 1))) (e5 i hi)
      · intro n
        show F_X3_adds_72 N (n + 1) (ys (gN g (preA g.1 k f v)) m was pl ma nu to se) (nI (aN g.1)) (nI 8) = _
        rw [F_X3_adds_72]
        exact if_pos (show nI 8 ≤ nI 8 by decide)
    refine ((congrArg (fun z => F_X3_adds_72 N N ((z, (ys g m was pl ma nu to se).2) : MS) (nI (aN g.1)) (nI 0)) e4).trans hl).trans ?_
    unfold F_X3_adds_100
    rw [(q_c0)]
    have e6 : upd (em (preA g.1 k f v)) 0 (nI (aN g.1) + nI 1) = em (setA g.1 k f v) := by
      rw [(nI_add (aN g.1) 1)]
      exact em_sN (preA g.1 k f v) (aN g.1 + 1)
    exact congrArg (fun z => some (nI 1, ((z, (ys g m was pl ma nu to se).2) : MS))) e6
  · rw [if_neg h6]
    have h5 : aN g.1 = 6 := by omega
    have he : em g.1 0 = nI 6 := congrArg nI h5
    exact if_neg (show ¬ ¬ em g.1 0 = nI 6 from fun z => z he)
theorem sd_c {N : Nat} (hN : 2000 ≤ N) {g : GS} (hg : GI g) (m was : TA) (pl ma : Int32) (nu to : FA) (se : Int32) {p k : Nat} (hp : p < 800) (h : sG g p = nI 99) (hk5 : k ≤ 5) (hk : kdI (sG g (p + 1)) = nI k) (hd1 : isD (sG g (p + 2)) = true) (hd2 : isD (sG g (p + 3)) = true) (hd3 : isD (sG g (p + 4)) = true) (h0 : nu 0 = kdI (sG g (p + 1))) (h1 : nu 1 = nI (dg (sG g (p + 2)))) (h2 : nu 2 = nI (10 * dg (sG g (p + 3)) + dg (sG g (p + 4)))) : StepR N g p m was pl ma nu to se := by
  have hf9 := dg_le (sG g (p + 2))
  have h93 := dg_le (sG g (p + 3))
  have h94 := dg_le (sG g (p + 4))
  have hx0 : F_X0_kindAt N (LX g) (nI (p + 1)) = some (nI k) := by
    rw [x_kindAt hN hg (by omega), hk]
  have hx1 := x_digit N hg (i := p + 2) (by omega) hd1
  have hx2 : F_X0_twoDigits N (LX g) (nI (p + 3)) = some (nI (10 * dg (sG g (p + 3)) + dg (sG g (p + 4)))) := x_twoD N hg (i := p + 3) (by omega) hd2 hd3
  have hv : 10 * dg (sG g (p + 3)) + dg (sG g (p + 4)) ≤ 99 := by omega
  rw [hk] at h0
  generalize 10 * dg (sG g (p + 3)) + dg (sG g (p + 4)) = v at h2 hx2 hv
  generalize dg (sG g (p + 2)) = f at h1 hx1 hf9
  have hs := g_settle N hg.1 (k := k) (f := f) (v := v)
  have hya : F_X3_adds N (ys g m was pl ma nu to se) (nu 0) (nu 1) (nu 2) = if aN g.1 < 6 then some (nI 1, ys (gN g (setA g.1 k f v)) m was pl ma nu to se) else some (nI 0, ys g m was pl ma nu to se) := by
    rw [h0, h1, h2]
    exact y_adds hN hg m was pl ma nu to se k f v
  unfold StepR
  rw [h, dn_99 N g m was pl ma nu to se, tl_99 N hg _ hp h]
  by_cases h6 : aN g.1 < 6
  · rw [if_pos h6] at hs hya
    refine Or.inl ⟨setA g.1 k f v, Good_settle hg.1 h6 hk5 hf9 hv, hg.2.1, ?_, ?_⟩
    · refine Eq.trans (q_bs0 _ _ _ hx0) ?_
      refine Eq.trans (q_bs0 _ _ _ hx1) ?_
      refine Eq.trans (q_bs0 _ _ _ hx2) ?_
      refine Eq.trans (q_bs0 _ _ _ hs) ?_
      exact q_ckB1
    · refine Eq.trans (q_bs0 _ _ _ hya) ?_
      exact q_ckB1
  · rw [if_neg h6] at hs hya
    refine Or.inr ⟨g.1, hg.1, ?_, ?_⟩
    · refine Eq.trans (q_bs0 _ _ _ hx0) ?_
      refine Eq.trans (q_bs0 _ _ _ hx1) ?_
      refine Eq.trans (q_bs0 _ _ _ hx2) ?_
      refine Eq.trans (q_bs0 _ _ _ hs) ?_
      exact q_ckB0
    · refine Eq.trans (q_bs0 _ _ _ hya) ?_
      exact q_ckB0
