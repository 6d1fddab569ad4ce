/-! a town told in letters: the loops -/
theorem sd_all {N : Nat} (hN : 2000 ≤ N) {g : GS} (hg : GI g) (m was : TA) (pl ma : Int32) (nu to : FA) (se : Int32) {p : Nat} (hp : p < 800) (hok : (stm (sG g) p).1 = true) (hD : Dat (sG g) p ma nu to) : StepR N g p m was pl ma nu to se := by
  obtain ⟨Da, Dc, Dd, Dq, Dy⟩ := hD
  by_cases h1 : sG g p = nI 97
  · obtain ⟨e0, e1, e2⟩ := Da h1
    rw [stm_97 h1] at hok
    have hr := (dgs_ok hok).1
    have hd1 : isD (sG g (p + 1)) = true := runD_all (sG g) 9 (p + 1) 0 (by omega)
    have hr2 : runD (sG g) 9 (p + 1) = runD (sG g) 8 (p + 2) + 1 := runD_t (k := 8) hd1
    rw [e1]
    exact sd_a hN hg m was pl nu to se hp h1 hd1 (by omega) e0 e2
  by_cases h2 : sG g p = nI 99
  · obtain ⟨e0, e1, e2⟩ := Dc h2
    rw [stm_99 h2] at hok
    rcases kdI_cases (sG g (p + 1)) with ⟨k, hk5, hk⟩ | hk
    · have h0 : 0 ≤ kdI (sG g (p + 1)) := by
        rw [hk]
        exact nI_pos' (by omega)
      rw [if_pos h0] at hok
      have hr := (dgs_ok hok).1
      have hd1 : isD (sG g (p + 2)) = true := runD_all (sG g) 3 (p + 2) 0 (by omega)
      have hd2 : isD (sG g (p + 3)) = true := runD_all (sG g) 3 (p + 2) 1 (by omega)
      have hd3 : isD (sG g (p + 4)) = true := runD_all (sG g) 3 (p + 2) 2 (by omega)
      exact sd_c hN hg m was pl ma nu to se hp h2 hk5 hk hd1 hd2 hd3 e0 e1 e2
    · rw [hk, if_neg (by decide)] at hok
      exact absurd hok Bool.false_ne_true
  by_cases h3 : sG g p = nI 100
  · rw [stm_100 h3] at hok
    have hr := (dgs_ok hok).1
    have hd1 : isD (sG g (p + 1)) = true := runD_all (sG g) 1 (p + 1) 0 (by omega)
    exact sd_d hg m was pl ma nu to se hp h3 hd1 (Dd h3)
  by_cases h4 : sG g p = nI 113
  · obtain ⟨e0, e1, e2⟩ := Dq (Or.inl h4)
    rw [stm_113 h4] at hok
    have hr := (dgs_ok hok).1
    have hd1 : isD (sG g (p + 1)) = true := runD_all (sG g) 3 (p + 1) 0 (by omega)
    have hd2 : isD (sG g (p + 2)) = true := runD_all (sG g) 3 (p + 1) 1 (by omega)
    have hd3 : isD (sG g (p + 3)) = true := runD_all (sG g) 3 (p + 1) 2 (by omega)
    exact sd_q hg m was pl ma nu to se hp h4 hd1 hd2 hd3 e0 e1 e2
  by_cases h5 : sG g p = nI 119
  · obtain ⟨e0, e1, e2⟩ := Dq (Or.inr h5)
    rw [stm_119 h5] at hok
    have hr := (dgs_ok hok).1
    have hd1 : isD (sG g (p + 1)) = true := runD_all (sG g) 3 (p + 1) 0 (by omega)
    have hd2 : isD (sG g (p + 2)) = true := runD_all (sG g) 3 (p + 1) 1 (by omega)
    have hd3 : isD (sG g (p + 3)) = true := runD_all (sG g) 3 (p + 1) 2 (by omega)
    exact sd_w hg m was pl ma nu to se hp h5 hd1 hd2 hd3 e0 e1 e2
  by_cases h6 : sG g p = nI 121
  · rw [stm_121 h6] at hok
    have hr := (dgs_ok hok).1
    have hd1 : isD (sG g (p + 1)) = true := runD_all (sG g) 2 (p + 1) 0 (by omega)
    have hd2 : isD (sG g (p + 2)) = true := runD_all (sG g) 2 (p + 1) 1 (by omega)
    exact sd_y hN hg m was pl ma nu to se hp h6 hd1 hd2 (Dy h6)
  rw [stm_no h1 h2 h3 h4 h5 h6] at hok
  exact absurd hok Bool.false_ne_true
theorem stm_le (f : Nat → Int32) (p : Nat) : (stm f p).2 ≤ p + 11 := by
  by_cases h1 : f p = nI 97
  · rw [stm_97 h1]
    exact Nat.le_trans (dgs_pos f (p + 1) 2 9) (by omega)
  by_cases h2 : f p = nI 99
  · rw [stm_99 h2]
    by_cases hk : 0 ≤ kdI (f (p + 1))
    · rw [if_pos hk]
      exact Nat.le_trans (dgs_pos f (p + 2) 3 3) (by omega)
    · rw [if_neg hk]
      show p + 1 ≤ p + 11
      omega
  by_cases h3 : f p = nI 100
  · rw [stm_100 h3]
    exact Nat.le_trans (dgs_pos f (p + 1) 1 1) (by omega)
  by_cases h4 : f p = nI 113
  · rw [stm_113 h4]
    exact Nat.le_trans (dgs_pos f (p + 1) 3 3) (by omega)
  by_cases h5 : f p = nI 119
  · rw [stm_119 h5]
    exact Nat.le_trans (dgs_pos f (p + 1) 3 3) (by omega)
  by_cases h6 : f p = nI 121
  · rw [stm_121 h6]
    exact Nat.le_trans (dgs_pos f (p + 1) 2 2) (by omega)
  rw [stm_no h1 h2 h3 h4 h5 h6]
  show p ≤ p + 11
  omega
theorem stm_ge {f : Nat → Int32} {p : Nat} (hok : (stm f p).1 = true) : p + 2 ≤ (stm f p).2 := by
  by_cases h1 : f p = nI 97
  · rw [stm_97 h1] at hok ⊢
    have h := dgs_ok hok
    rw [h.2]
    omega
  by_cases h2 : f p = nI 99
  · rw [stm_99 h2] at hok ⊢
    by_cases hk : 0 ≤ kdI (f (p + 1))
    · rw [if_pos hk] at hok ⊢
      have h := dgs_ok hok
      rw [h.2]
      omega
    · rw [if_neg hk] at hok
      exact absurd hok Bool.false_ne_true
  by_cases h3 : f p = nI 100
  · rw [stm_100 h3] at hok ⊢
    have h := dgs_ok hok
    rw [h.2]
    omega
  by_cases h4 : f p = nI 113
  · rw [stm_113 h4] at hok ⊢
    have h := dgs_ok hok
    rw [h.2]
    omega
  by_cases h5 : f p = nI 119
  · rw [stm_119 h5] at hok ⊢
    have h := dgs_ok hok
    rw [h.2]
    omega
  by_cases h6 : f p = nI 121
  · rw [stm_121 h6] at hok ⊢
    have h := dgs_ok hok
    rw [h.2]
    omega
  rw [stm_no h1 h2 h3 h4 h5 h6] at hok
  exact absurd hok Bool.false_ne_true
theorem stm_lt {g : GS} {p : Nat} (hok : (stm (sG g) p).1 = true) : p < g.2.2.2.2.1 := by
  by_cases h : p < g.2.2.2.2.1
  · exact h
  · have e : sG g p = -1 := if_neg h
    rw [stm_no (by rw [e]; decide) (by rw [e]; decide) (by rw [e]; decide) (by rw [e]; decide) (by rw [e]; decide) (by rw [e]; decide)] at hok
    exact absurd hok Bool.false_ne_true
def Chain (g : GS) : Nat → Nat → Prop
  | 0, p => g.2.2.2.2.1 ≤ p
  | k + 1, p => p < g.2.2.2.2.1 ∧ (stm (sG g) p).1 = true ∧ Chain g k (stm (sG g) p).2
theorem t_1 {e : Nat} (he : e ≤ 200) : ¬ 0 ≤ (-1 : Int32) - nI e := by
  have h : ∀ e : Fin 201, ¬ 0 ≤ (-1 : Int32) - nI e.val := by decide +kernel
  exact h ⟨e, by omega⟩
theorem t_2 {e : Nat} (he : e ≤ 200) : (-999 : Int32) + ((-1) - nI e) = (-1000) - nI e := by
  have h : ∀ e : Fin 201, (-999 : Int32) + ((-1) - nI e.val) = (-1000) - nI e.val := by decide +kernel
  exact h ⟨e, by omega⟩
theorem t_3 {e : Nat} (he : e ≤ 200) : ¬ (-1000 : Int32) - nI e = -9 ∧ (-1000 : Int32) - nI e < 0 ∧ (-1000 : Int32) - nI e ≤ 0 := by
  have h : ∀ e : Fin 201, ¬ (-1000 : Int32) - nI e.val = -9 ∧ (-1000 : Int32) - nI e.val < 0 ∧ (-1000 : Int32) - nI e.val ≤ 0 := by decide +kernel
  exact h ⟨e, by omega⟩
theorem t_4 {e : Nat} (he : e ≤ 200) : ¬ (-2000 : Int32) - nI e = -9 ∧ (-2000 : Int32) - nI e < 0 ∧ (-2000 : Int32) - nI e ≤ 0 := by
  have h : ∀ e : Fin 201, ¬ (-2000 : Int32) - nI e.val = -9 ∧ (-2000 : Int32) - nI e.val < 0 ∧ (-2000 : Int32) - nI e.val ≤ 0 := by decide +kernel
  exact h ⟨e, by omega⟩
theorem lpA {N : Nat} (hN : 2000 ≤ N) {g : GS} (hg : GI g) (m was : TA) (se : Int32) : ∀ d p c n n' (ma : Int32) (nu to : FA), 97 ≤ p + d → p ≤ 96 → 2 * c ≤ p → d < n → d < n' → (∃ (e : Nat) (ma' : Int32) (nu' to' : FA) (c' : Int32), e ≤ 200 ∧ F_X0_spelling_4 N (LX g) n (nI p) (nI c) = some ((-1000) - nI e) ∧ F_X3_town_10 N n' (ys g m was (nI p) ma nu to se) (nI c) (-9) = F_X3_town_46 N (ys g m was (nI e) ma' nu' to' se) c' ((-1000) - nI e)) ∨ (∃ (k e : Nat) (ma' : Int32) (nu' to' : FA), 0 < k ∧ k ≤ d ∧ Chain g k p ∧ F_X0_spelling_4 N (LX g) n (nI p) (nI c) = some (nI 0) ∧ F_X3_town_10 N n' (ys g m was (nI p) ma nu to se) (nI c) (-9) = F_X3_town_46 N (ys g m was (nI e) ma' nu' to' se) (nI (c + k)) (-9)) := by
  have hln := hg.2.2.2.2.1
  intro d
  induction d with
  | zero => intro p c n n' ma nu to h1 h2 _ _ _; omega
  | succ d ih =>
    intro p c n n' ma nu to hd hp hc hn hn'
    obtain ⟨n, rfl⟩ : ∃ k, n = k + 1 := ⟨n - 1, by omega⟩
    obtain ⟨n', rfl⟩ : ∃ k, n' = k + 1 := ⟨n' - 1, by omega⟩
    obtain ⟨ma', nu', to', e1, -⟩ := rd_all hN hg m was ma nu to se (p := p) (by omega)
    have hxb := x_behind hN hg (p := p) (by omega)
    have hle := stm_le (sG g) p
    have h96 : ¬ nI 96 ≤ nI c := by
      rw [(q_le (by decide) (show c < 2147483648 by omega))]
      omega
    cases hs : (stm (sG g) p).1
    · have hres : resI (stm (sG g) p) = (-1) - nI (stm (sG g) p).2 := if_neg (by rw [hs]; decide)
      rw [hs] at e1
      rw [hres] at hxb
      generalize (stm (sG g) p).2 = e at hle e1 hxb
      refine Or.inl ⟨e, ma', nu', to', nI c + nI 1, by omega, ?_, ?_⟩
      · rw [F_X0_spelling_4]
        refine Eq.trans (if_neg h96) ?_
        refine Eq.trans (q_bs0 _ _ _ hxb) ?_
        refine Eq.trans (if_neg (t_1 (by omega))) ?_
        exact congrArg some (t_2 (by omega))
      · rw [F_X3_town_10]
        refine Eq.trans (q_bs0 _ _ _ e1) ?_
        refine Eq.trans (if_neg (show ¬ ¬ bI false = 0 by decide)) ?_
        unfold F_X3_town_26
        exact if_pos (show ¬ (-1000 : Int32) - nI e = -9 from (t_3 (by omega)).1)
    · have hres : resI (stm (sG g) p) = nI (stm (sG g) p).2 := if_pos hs
      have hge := stm_ge hs
      have hlt := stm_lt hs
      have hch : ∀ k, Chain g k (stm (sG g) p).2 → Chain g (k + 1) p := fun k h => ⟨hlt, hs, h⟩
      rw [hs] at e1
      rw [hres] at hxb
      generalize (stm (sG g) p).2 = e at hle e1 hxb hge hch
      have hx0 : F_X0_spelling_4 N (LX g) (n + 1) (nI p) (nI c) = if e < g.2.2.2.2.1 then F_X0_spelling_4 N (LX g) n (nI e) (nI (c + 1)) else some (nI 0) := by
        rw [F_X0_spelling_4, (nI_add c 1)]
        refine Eq.trans (if_neg h96) ?_
        refine Eq.trans (q_bs0 _ _ _ hxb) ?_
        refine Eq.trans (if_pos (nI_pos' (by omega))) ?_
        exact i_lt (by omega) (by omega) _ _
      have hy0 : F_X3_town_10 N (n' + 1) (ys g m was (nI p) ma nu to se) (nI c) (-9) = if e < g.2.2.2.2.1 then F_X3_town_10 N n' (ys g m was (nI e) ma' nu' to' se) (nI (c + 1)) (-9) else F_X3_town_46 N (ys g m was (nI e) ma' nu' to' se) (nI (c + 1)) (-9) := by
        rw [F_X3_town_10]
        refine Eq.trans (q_bs0 _ _ _ e1) ?_
        refine Eq.trans (if_pos (show ¬ bI true = 0 by decide)) ?_
        unfold F_X3_town_26
        refine Eq.trans (if_neg (show ¬ ¬ (-9 : Int32) = -9 from fun h => h rfl)) ?_
        rw [(nI_add c 1)]
        exact i_lt (by omega) (by omega) _ _
      by_cases he : e < g.2.2.2.2.1
      · rw [if_pos he] at hx0 hy0
        rcases ih e (c + 1) n n' ma' nu' to' (by omega) (by omega) (by omega) (by omega) (by omega) with ⟨e', a1, a2, a3, a4, a5, a6, a7⟩ | ⟨k, e', a1, a2, a3, a4, a5, a6, a7, a8⟩
        · exact Or.inl ⟨e', a1, a2, a3, a4, a5, hx0.trans a6, hy0.trans a7⟩
        · refine Or.inr ⟨k + 1, e', a1, a2, a3, by omega, by omega, hch k a6, hx0.trans a7, ?_⟩
          rw [show c + (k + 1) = c + 1 + k by omega]
          exact hy0.trans a8
      · rw [if_neg he] at hx0 hy0
        have h0 : Chain g 0 e := show g.2.2.2.2.1 ≤ e by omega
        exact Or.inr ⟨1, e, ma', nu', to', by decide, by omega, hch 0 h0, hx0, hy0⟩
theorem tw_x1 {N n : Nat} {g : GS} (hg : GI g) (pr : FA) {b c : TA} {j p e : Nat} (h96 : ¬ nI 96 ≤ nI j) (hj : j < 2000) (hnle : ¬ nI g.2.2.2.2.1 ≤ nI p) (hX : F_X0_tellStatement N (LX g) (TW b) (nI p) = some (nI 1, TW c)) (hxb : F_X0_behindStatement N (LX g) (nI p) = some (nI e)) : F_X2_town_23 N (n + 1) (xs g b pr) (nI j) (nI p) (nI j) = F_X2_town_23 N n (xs g c pr) (nI (j + 1)) (nI e) (nI (j + 1)) := by
  rw [F_X2_town_23]
  refine Eq.trans (if_neg h96) ?_
  refine Eq.trans (if_neg (nI_pos (show j < 2 ^ 31 by omega))) ?_
  refine Eq.trans (if_neg hnle) ?_
  refine Eq.trans (q_bs0 _ _ _ hX) ?_
  refine Eq.trans (if_neg (show ¬ nI 1 = 0 by decide)) ?_
  refine Eq.trans (q_bs0 _ _ _ hxb) ?_
  unfold F_X2_town_80
  rw [(nI_add j 1)]
  all_goals rfl
theorem tw_x0 {N n : Nat} {g : GS} (hg : GI g) (pr : FA) {b c : TA} {j p : Nat} (h96 : ¬ nI 96 ≤ nI j) (hj : j < 2000) (hnle : ¬ nI g.2.2.2.2.1 ≤ nI p) (hX : F_X0_tellStatement N (LX g) (TW b) (nI p) = some (nI 0, TW c)) : F_X2_town_23 N (n + 1) (xs g b pr) (nI j) (nI p) (nI j) = F_X2_town_23 N n (xs g c pr) ((-2000) - nI p) (nI p) (nI (j + 1)) := by
  rw [F_X2_town_23]
  refine Eq.trans (if_neg h96) ?_
  refine Eq.trans (if_neg (nI_pos (show j < 2 ^ 31 by omega))) ?_
  refine Eq.trans (if_neg hnle) ?_
  refine Eq.trans (q_bs0 _ _ _ hX) ?_
  refine Eq.trans (if_pos (show nI 0 = 0 by decide)) ?_
  unfold F_X2_town_80
  rw [(nI_add j 1)]
  all_goals rfl
theorem tw_y1 {N n' : Nat} {g : GS} (hg : GI g) (m : TA) (se x1 : Int32) {b c : TA} (hb : Good b) (hy : aY b ≤ 999) {p e : Nat} (hp : p < 2000) (hnle : ¬ nI g.2.2.2.2.1 ≤ nI p) {ma ma' : Int32} {nu to nu' to' : FA} (e1 : F_X3_readsStatement N (ys (gN g b) m g.1 (nI p) ma nu to se) = some (bI true, ys (gN g b) m g.1 (nI e) ma' nu' to' se)) (hY : F_X3_isDone N (ys (gN g b) m g.1 (nI e) ma' nu' to' se) (sG (gN g b) p) = some (nI 1, ys (gN (gN g b) c) m g.1 (nI e) ma' nu' to' se)) : F_X3_town_62 N (n' + 1) (ys (gN g b) m g.1 (nI p) ma nu to se) x1 (-9) = F_X3_town_62 N n' (ys (gN g c) m g.1 (nI e) ma' nu' to' se) x1 (-9) := by
  have hh := y_here N (hg.now hb hy) m g.1 (i := p) (by omega) ma nu to se
  rw [F_X3_town_62]
  refine Eq.trans (if_neg (show ¬ ¬ (-9 : Int32) = -9 from fun h => h rfl)) ?_
  refine Eq.trans (if_neg hnle) ?_
  refine Eq.trans (q_bs0 _ _ _ hh) ?_
  refine Eq.trans (q_bs0 _ _ _ e1) ?_
  refine Eq.trans (q_bs0 _ _ _ hY) ?_
  exact if_neg (show ¬ nI 1 = 0 by decide)
theorem tw_y0 {N n' : Nat} (hN : 2000 ≤ N) {g : GS} (hg : GI g) (m : TA) (se x1 : Int32) {b : TA} (hb : Good b) (hy : aY b ≤ 999) {p e : Nat} (hp : p < 2000) (hnle : ¬ nI g.2.2.2.2.1 ≤ nI p) {ma ma' : Int32} {nu to nu' to' : FA} (e1 : F_X3_readsStatement N (ys (gN g b) m g.1 (nI p) ma nu to se) = some (bI true, ys (gN g b) m g.1 (nI e) ma' nu' to' se)) (hY : F_X3_isDone N (ys (gN g b) m g.1 (nI e) ma' nu' to' se) (sG (gN g b) p) = some (nI 0, ys (gN g b) m g.1 (nI e) ma' nu' to' se)) : F_X3_town_62 N (n' + 1) (ys (gN g b) m g.1 (nI p) ma nu to se) x1 (-9) = F_X3_town_62 N n' (ys g m g.1 (nI e) ma' nu' to' se) x1 ((-2000) - nI p) := by
  have hh := y_here N (hg.now hb hy) m g.1 (i := p) (by omega) ma nu to se
  rw [F_X3_town_62]
  refine Eq.trans (if_neg (show ¬ ¬ (-9 : Int32) = -9 from fun h => h rfl)) ?_
  refine Eq.trans (if_neg hnle) ?_
  refine Eq.trans (q_bs0 _ _ _ hh) ?_
  refine Eq.trans (q_bs0 _ _ _ e1) ?_
  refine Eq.trans (q_bs0 _ _ _ hY) ?_
  refine Eq.trans (if_pos (show nI 0 = 0 by decide)) ?_
  exact q_bs0 _ _ _ (f_copies hN hg.1 hb)
theorem lpB {N : Nat} (hN : 2000 ≤ N) {g : GS} (hg : GI g) (m : TA) (pr : FA) (se x1 : Int32) : ∀ k b p j n n' (ma : Int32) (nu to : FA), Chain g k p → Good b → aY b ≤ 999 → 2 * j ≤ p → p ≤ 120 → k < n → k < n' → (∃ (b' : TA) (pl' ma' : Int32) (nu' to' : FA), Good b' ∧ aY b' ≤ 999 ∧ F_X2_town_23 N n (xs g b pr) (nI j) (nI p) (nI j) = F_X2_town_86 N (xs g b' pr) (nI (j + k)) ∧ F_X3_town_62 N n' (ys (gN g b) m g.1 (nI p) ma nu to se) x1 (-9) = F_X3_town_128 N (ys (gN g b') m g.1 pl' ma' nu' to' se) x1 (-9)) ∨ (∃ (q : Nat) (b' : TA) (pl' ma' : Int32) (nu' to' : FA), q ≤ 200 ∧ Good b' ∧ F_X2_town_23 N n (xs g b pr) (nI j) (nI p) (nI j) = F_X2_town_86 N (xs g b' pr) ((-2000) - nI q) ∧ F_X3_town_62 N n' (ys (gN g b) m g.1 (nI p) ma nu to se) x1 (-9) = F_X3_town_128 N (ys g m g.1 pl' ma' nu' to' se) x1 ((-2000) - nI q)) := by
  have hln := hg.2.2.2.2.1
  intro k
  induction k with
  | zero =>
    intro b p j n n' ma nu to hch hb hy hj hp hn hn'
    obtain ⟨n, rfl⟩ : ∃ k, n = k + 1 := ⟨n - 1, by omega⟩
    obtain ⟨n', rfl⟩ : ∃ k, n' = k + 1 := ⟨n' - 1, by omega⟩
    have hch : g.2.2.2.2.1 ≤ p := hch
    have hle : nI g.2.2.2.2.1 ≤ nI p := by
      rw [(q_le (by omega) (by omega))]
      exact hch
    have h96 : ¬ nI 96 ≤ nI j := by
      rw [(q_le (by decide) (show j < 2147483648 by omega))]
      omega
    refine Or.inl ⟨b, nI p, ma, nu, to, hb, hy, ?_, ?_⟩
    · rw [F_X2_town_23]
      refine Eq.trans (if_neg h96) ?_
      refine Eq.trans (if_neg (nI_pos (show j < 2 ^ 31 by omega))) ?_
      exact if_pos hle
    · rw [F_X3_town_62]
      refine Eq.trans (if_neg (show ¬ ¬ (-9 : Int32) = -9 from fun h => h rfl)) ?_
      exact if_pos hle
  | succ k ih =>
    intro b p j n n' ma nu to hch hb hy hj hp hn hn'
    obtain ⟨n, rfl⟩ : ∃ k, n = k + 1 := ⟨n - 1, by omega⟩
    obtain ⟨n', rfl⟩ : ∃ k, n' = k + 1 := ⟨n' - 1, by omega⟩
    obtain ⟨hlt, hok, hch⟩ := hch
    have hgb : GI (gN g b) := hg.now hb hy
    have hnle : ¬ nI g.2.2.2.2.1 ≤ nI p := by
      rw [(q_le (by omega) (by omega))]
      omega
    have h96 : ¬ nI 96 ≤ nI j := by
      rw [(q_le (by decide) (show j < 2147483648 by omega))]
      omega
    obtain ⟨ma', nu', to', e1, hD⟩ := rd_all hN hgb m g.1 ma nu to se (p := p) (by omega)
    have e1 : F_X3_readsStatement N (ys (gN g b) m g.1 (nI p) ma nu to se) = some (bI (stm (sG g) p).1, ys (gN g b) m g.1 (nI (stm (sG g) p).2) ma' nu' to' se) := e1
    have hD : Dat (sG g) p ma' nu' to' := hD hok
    have hst := sd_all hN hgb m g.1 (nI (stm (sG g) p).2) ma' nu' to' se (p := p) (by omega) hok hD
    have hh := y_here N hgb m g.1 (i := p) (by omega) ma nu to se
    have hxb : F_X0_behindStatement N (LX g) (nI p) = some (nI (stm (sG g) p).2) := by
      rw [x_behind hN hg (by omega)]
      exact congrArg some (if_pos hok)
    have hle := stm_le (sG g) p
    have hge := stm_ge hok
    rw [hok] at e1
    generalize (stm (sG g) p).2 = e at e1 hst hxb hle hge hch
    rcases hst with ⟨c, hc, hcy, hX, hY⟩ | ⟨c, hc, hX, hY⟩
    · have hX : F_X0_tellStatement N (LX g) (TW b) (nI p) = some (nI 1, TW c) := hX
      have hx1 := tw_x1 (n := n) hg pr h96 (show j < 2000 by omega) hnle hX hxb
      have hy1 := tw_y1 (n' := n') hg m se x1 hb hy (show p < 2000 by omega) hnle e1 hY
      rcases ih c e (j + 1) n n' ma' nu' to' hch hc hcy (by omega) (by omega) (by omega) (by omega) with ⟨b', a1, a2, a3, a4, a5, a6, a7, a8⟩ | ⟨q, b', a1, a2, a3, a4, a5, a6, a7, a8⟩
      · refine Or.inl ⟨b', a1, a2, a3, a4, a5, a6, ?_, hy1.trans a8⟩
        rw [show j + (k + 1) = j + 1 + k by omega]
        exact hx1.trans a7
      · exact Or.inr ⟨q, b', a1, a2, a3, a4, a5, a6, hx1.trans a7, hy1.trans a8⟩
    · have hX : F_X0_tellStatement N (LX g) (TW b) (nI p) = some (nI 0, TW c) := hX
      obtain ⟨n, rfl⟩ : ∃ k, n = k + 1 := ⟨n - 1, by omega⟩
      obtain ⟨n', rfl⟩ : ∃ k, n' = k + 1 := ⟨n' - 1, by omega⟩
      have h96' : ¬ nI 96 ≤ nI (j + 1) := by
        rw [(q_le (by decide) (show j + 1 < 2147483648 by omega))]
        omega
      have hx1 := tw_x0 (n := n + 1) hg pr h96 (show j < 2000 by omega) hnle hX
      have hy1 := tw_y0 (n' := n' + 1) hN hg m se x1 hb hy (show p < 2000 by omega) hnle e1 hY
      refine Or.inr ⟨p, c, nI e, ma', nu', to', by omega, hc, hx1.trans ?_, hy1.trans ?_⟩
      · rw [F_X2_town_23]
        refine Eq.trans (if_neg h96') ?_
        exact if_pos (t_4 (by omega)).2.1
      · rw [F_X3_town_62]
        exact if_pos (show ¬ (-2000 : Int32) - nI p = -9 from (t_4 (by omega)).1)
theorem s_town {N : Nat} (hN : 2000 ≤ N) {g : GS} {x : XS} {y : MS} (hx : XR g x) (hy : MR g y) (hg : GI g) : Both (F_X2_town N x) (F_X3_town N y) := by
  obtain ⟨mind, pr, hm, rfl⟩ := hx
  obtain ⟨m, was, pl, ma, nu, to, se, h3, h4, rfl⟩ := hy
  have hgI : ∀ b, Good b → aY b ≤ 999 → GI (gL (gN g b) g.2.2.2.1 0) := fun b h1 h2 => ⟨h1, h2, hg.2.2.1, hg.2.2.2.1, Nat.zero_le _, hg.2.2.2.2.2⟩
  have hX : ∀ r, F_X0_spelling_4 N (LX g) N (nI 0) (nI 0) = some r → F_X2_town N (xs g mind pr) = F_X2_town_23 N N (xs g g.1 pr) r (nI 0) (nI 0) := by
    intro r hr
    unfold F_X2_town
    refine Eq.trans (q_bs0 _ _ _ (show F_X0_spelling N (LX g) = some r from hr)) ?_
    exact q_bs0 _ _ _ (g_become N hm hg.1)
  have hY : ∀ (e : Int32) (ma' : Int32) (nu' to' : FA) (c' z : Int32), F_X3_town_46 N (ys g m was e ma' nu' to' se) c' z = F_X3_town_62 N N (ys g m g.1 (nI 0) ma' nu' to' se) c' z := by
    intro e ma' nu' to' c' z
    unfold F_X3_town_46
    exact q_bs0 _ _ _ (f_copies hN hg.1 h4)
  have h128 : ∀ (b : TA) (pl' ma' : Int32) (nu' to' : FA) (c' z : Int32), ¬ z = -9 → F_X3_town_128 N (ys (gN g b) m g.1 pl' ma' nu' to' se) c' z = some (z, ys (gL (gN g b) g.2.2.2.1 0) m g.1 pl' ma' nu' to' se) := by
    intro b pl' ma' nu' to' c' z hz
    unfold F_X3_town_128
    exact if_pos hz
  have h86 : ∀ (b : TA) (z : Int32), z ≤ 0 → F_X2_town_86 N (xs g b pr) z = some (z, xs (gL (gN g g.1) g.2.2.2.1 0) b pr) := by
    intro b z hz
    unfold F_X2_town_86
    exact if_pos hz
  obtain ⟨n1, hn1⟩ : ∃ n, N = n + 1 := ⟨N - 1, by omega⟩
  rcases lpA hN hg m was se 97 0 0 N N ma nu to (by omega) (by omega) (by omega) (by omega) (by omega) with ⟨e, ma', nu', to', c', he, a1, a2⟩ | ⟨k, e, ma', nu', to', hk0, hk, hch, a1, a2⟩
  · have ht := t_3 he
    have hx1 : F_X2_town N (xs g mind pr) = some ((-1000) - nI e, xs (gL (gN g g.1) g.2.2.2.1 0) g.1 pr) := by
      refine (hX _ a1).trans ?_
      refine Eq.trans ?_ (h86 g.1 _ ht.2.2)
      have e1 : F_X2_town_23 N N (xs g g.1 pr) ((-1000) - nI e) (nI 0) (nI 0) = F_X2_town_23 N (n1 + 1) (xs g g.1 pr) ((-1000) - nI e) (nI 0) (nI 0) := congrArg (fun z => F_X2_town_23 N z (xs g g.1 pr) ((-1000) - nI e) (nI 0) (nI 0)) hn1
      refine e1.trans ?_
      rw [F_X2_town_23]
      refine Eq.trans (if_neg (show ¬ nI 96 ≤ nI 0 by decide)) ?_
      exact if_pos ht.2.1
    have hy1 : F_X3_town N (ys g m was pl ma nu to se) = some ((-1000) - nI e, ys (gL (gN g g.1) g.2.2.2.1 0) m g.1 (nI 0) ma' nu' to' se) := by
      unfold F_X3_town
      refine Eq.trans a2 ?_
      refine (hY _ _ _ _ _ _).trans ?_
      refine Eq.trans ?_ (h128 g.1 (nI 0) ma' nu' to' c' _ ht.1)
      have e1 : F_X3_town_62 N N (ys g m g.1 (nI 0) ma' nu' to' se) c' ((-1000) - nI e) = F_X3_town_62 N (n1 + 1) (ys g m g.1 (nI 0) ma' nu' to' se) c' ((-1000) - nI e) := congrArg (fun z => F_X3_town_62 N z (ys g m g.1 (nI 0) ma' nu' to' se) c' ((-1000) - nI e)) hn1
      refine e1.trans ?_
      rw [F_X3_town_62]
      exact if_pos ht.1
    exact ⟨_, gL (gN g g.1) g.2.2.2.1 0, _, _, hx1, hy1, XR.mk g.1 pr hg.1 rfl, MR.mk m g.1 (nI 0) ma' nu' to' se h3 hg.1 rfl, hgI g.1 hg.1 hg.2.1⟩
  · rcases lpB hN hg m pr se (nI (0 + k)) k g.1 0 0 N N ma' nu' to' hch hg.1 hg.2.1 (by omega) (by omega) (by omega) (by omega) with ⟨b', pl', ma2, nu2, to2, hb, hby, b1, b2⟩ | ⟨q, b', pl', ma2, nu2, to2, hq, hb, b1, b2⟩
    · have hkn : ¬ nI (0 + k) ≤ 0 := by
        rw [(q_le0 (show 0 + k < 2147483648 by omega))]
        omega
      have hx1 : F_X2_town N (xs g mind pr) = some (nI (0 + k), xs (gL (gN g b') g.2.2.2.1 0) b' pr) := by
        refine (hX _ a1).trans (b1.trans ?_)
        unfold F_X2_town_86
        refine Eq.trans (if_neg hkn) ?_
        exact q_bs0 _ _ _ (g_become N hg.1 hb)
      have hy1 : F_X3_town N (ys g m was pl ma nu to se) = some (nI (0 + k), ys (gL (gN g b') g.2.2.2.1 0) m g.1 pl' ma2 nu2 to2 se) := by
        unfold F_X3_town
        refine Eq.trans a2 ?_
        refine (hY _ _ _ _ _ _).trans (b2.trans ?_)
        unfold F_X3_town_128
        exact if_neg (show ¬ ¬ (-9 : Int32) = -9 from fun h => h rfl)
      exact ⟨_, gL (gN g b') g.2.2.2.1 0, _, _, hx1, hy1, XR.mk b' pr hb rfl, MR.mk m g.1 pl' ma2 nu2 to2 se h3 hg.1 rfl, hgI b' hb hby⟩
    · have ht := t_4 hq
      have hx1 : F_X2_town N (xs g mind pr) = some ((-2000) - nI q, xs (gL (gN g g.1) g.2.2.2.1 0) b' pr) := (hX _ a1).trans (b1.trans (h86 b' _ ht.2.2))
      have hy1 : F_X3_town N (ys g m was pl ma nu to se) = some ((-2000) - nI q, ys (gL (gN g g.1) g.2.2.2.1 0) m g.1 pl' ma2 nu2 to2 se) := by
        unfold F_X3_town
        refine Eq.trans a2 ?_
        exact (hY _ _ _ _ _ _).trans (b2.trans (h128 g.1 pl' ma2 nu2 to2 _ _ ht.1))
      exact ⟨_, gL (gN g g.1) g.2.2.2.1 0, _, _, hx1, hy1, XR.mk b' pr hb rfl, MR.mk m g.1 pl' ma2 nu2 to2 se h3 hg.1 rfl, hgI g.1 hg.1 hg.2.1⟩
