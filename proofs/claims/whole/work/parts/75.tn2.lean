/-! a town told in letters: how the reference reads a statement -/
theorem q_c2 : (nI 2).toNatClampNeg = 2 := by decide
theorem upd_s (f : FA) (k : Nat) (v : Int32) : upd f k v k = v := by
  show (if k = k then v else f k) = v
  exact if_pos rfl
theorem upd_upd (f : FA) (k : Nat) (a b : Int32) : upd (upd f k a) k b = upd f k b := by
  funext j
  show (if j = k then b else (if j = k then a else f j)) = (if j = k then b else f j)
  by_cases h : j = k
  · rw [if_pos h, if_pos h]
  · rw [if_neg h, if_neg h, if_neg h]
theorem y_here (N : Nat) {g : GS} (hg : GI g) (m was : TA) {i : Nat} (hi : i < 2147483648) (ma : Int32) (nu to : FA) (se : Int32) : F_X3_here N (ys g m was (nI i) ma nu to se) = some (sG g i) := by
  have hl := hg.2.2.2.2.1
  unfold F_X3_here sG
  show (if nI g.2.2.2.2.1 ≤ nI i then _ else ckI (nI i) 96 _) = _
  rw [i_le (by omega) hi]
  by_cases h : i < g.2.2.2.2.1
  · refine Eq.trans (if_neg (by omega)) ?_
    refine Eq.trans (q_ck (by omega) (by decide)) ?_
    refine Eq.trans ?_ (congrArg some (if_pos h).symm)
    exact congrArg (fun z => some (g.2.2.2.1 z)) (q_cl hi)
  · rw [if_pos (by omega), if_neg h]
theorem y_isDigit (N : Nat) {g : GS} (hg : GI g) (m was : TA) {i : Nat} (hi : i < 2147483648) (ma : Int32) (nu to : FA) (se : Int32) : F_X3_isDigit N (ys g m was (nI i) ma nu to se) = some (bI (isD (sG g i))) := by
  unfold F_X3_isDigit isD
  refine Eq.trans (q_bs0 _ _ _ (y_here N hg m was hi ma nu to se)) ?_
  show (F_X3_isIn N (sG g i) (nI 48) (nI 57)).bind _ = _
  unfold F_X3_isIn
  by_cases h1 : sG g i < nI 48
  · rw [if_pos h1, decide_eq_false (show ¬ ¬ sG g i < nI 48 from fun h => h h1)]
    rfl
  · rw [if_neg h1, decide_eq_true h1]
    by_cases h2 : nI 57 < sG g i
    · rw [if_pos h2, decide_eq_false (show ¬ ¬ nI 57 < sG g i from fun h => h h2)]
      rfl
    · rw [if_neg h2, decide_eq_true h2]
      rfl
theorem y_rn (N : Nat) {g : GS} (hg : GI g) (m was : TA) (ma : Int32) (nu to : FA) (se : Int32) {k c : Nat} (hk : k < 3) (hc : c < 100) : ∀ r n p v j, r < n → j + r = c → p + r < 2000 → F_X3_readsNumber_9 N n (ys g m was (nI p) ma (upd nu k (nI v)) to se) (nI k) (nI c) (nI j) = some (bI (decide (runD (sG g) r p = r)), ys g m was (nI (p + runD (sG g) r p)) ma (upd nu k (nI (numV (sG g) (runD (sG g) r p) p v))) to se) := by
  intro r
  induction r with
  | zero =>
    intro n p v j hn hj hp
    obtain ⟨n, rfl⟩ : ∃ k, n = k + 1 := ⟨n - 1, by omega⟩
    rw [F_X3_readsNumber_9, i_le (by omega) (by omega)]
    exact if_pos (by omega)
  | succ r ih =>
    intro n p v j hn hj hp
    obtain ⟨n, rfl⟩ : ∃ k, n = k + 1 := ⟨n - 1, by omega⟩
    rw [F_X3_readsNumber_9, i_le (by omega) (by omega)]
    refine Eq.trans (if_neg (by omega)) ?_
    refine Eq.trans (q_bs0 _ _ _ (y_isDigit N hg m was (by omega) ma _ to se)) ?_
    cases hd : isD (sG g p)
    · refine Eq.trans (if_neg (show ¬ ¬ bI false = 0 by decide)) ?_
      rw [runD_f (k := r) hd, decide_eq_false (show ¬ (0 : Nat) = r + 1 by omega)]
      rfl
    · refine Eq.trans (if_pos (show ¬ bI true = 0 by decide)) ?_
      refine Eq.trans (q_ck hk (by decide)) ?_
      refine Eq.trans (q_bs0 _ _ _ (y_here N hg m was (by omega) ma _ to se)) ?_
      refine Eq.trans (q_ck hk (by decide)) ?_
      have e1 : (nI k).toNatClampNeg = k := q_cl (by omega)
      have val : nI 10 * nI v + sG g p - nI 48 = nI (10 * v + dg (sG g p)) := by
        have h1 := congrArg (fun z => nI 10 * nI v + z - nI 48) (isD_is hd)
        refine h1.trans ?_
        show nI 10 * nI v + nI (48 + dg (sG g p)) - nI 48 = _
        rw [pk_mul, (nI_add (10 * v) (48 + dg (sG g p))), (q_sub (show 48 ≤ 10 * v + (48 + dg (sG g p)) by omega))]
        exact congrArg nI (by omega)
      have e0 : F_X3_readsNumber_9 N n (ys g m was (nI p + nI 1) ma (upd (upd nu k (nI v)) (nI k).toNatClampNeg (nI 10 * (upd nu k (nI v)) (nI k).toNatClampNeg + sG g p - nI 48)) to se) (nI k) (nI c) (nI j + nI 1) = F_X3_readsNumber_9 N n (ys g m was (nI (p + 1)) ma (upd nu k (nI (10 * v + dg (sG g p)))) to se) (nI k) (nI c) (nI (j + 1)) := by
        rw [e1, upd_s, val, upd_upd, (nI_add p 1), (nI_add j 1)]
      refine e0.trans ((ih n (p + 1) (10 * v + dg (sG g p)) (j + 1) (by omega) (by omega) (by omega)).trans ?_)
      rw [runD_t (k := r) hd]
      generalize runD (sG g) r (p + 1) = R
      have e3 : decide (R + 1 = r + 1) = decide (R = r) := decide_eq_decide.mpr ⟨fun h => by omega, fun h => by omega⟩
      rw [e3, show p + (R + 1) = p + 1 + R by omega]
      all_goals rfl
theorem y_reads {N : Nat} (hN : 2000 ≤ N) {g : GS} (hg : GI g) (m was : TA) (ma : Int32) (nu to : FA) (se : Int32) {k c p : Nat} (hk : k < 3) (hc : c < 100) (hp : p < 1000) : F_X3_readsNumber N (ys g m was (nI p) ma nu to se) (nI k) (nI c) = some (bI (decide (runD (sG g) c p = c)), ys g m was (nI (p + runD (sG g) c p)) ma (upd nu k (nI (numV (sG g) (runD (sG g) c p) p 0))) to se) := by
  have e := y_rn N hg m was ma nu to se hk hc c N p 0 0 (by omega) (by omega) (by omega)
  unfold F_X3_readsNumber
  refine Eq.trans (q_ck hk (by decide)) ?_
  exact (congrArg (fun z => F_X3_readsNumber_9 N N (ys g m was (nI p) ma (upd nu z (nI 0)) to se) (nI k) (nI c) (nI 0)) (q_cl (show k < 2147483648 by omega))).trans e
theorem y_readF {N : Nat} (hN : 2000 ≤ N) {g : GS} (hg : GI g) (m was : TA) (ma : Int32) (nu to : FA) (se : Int32) {k c p r : Nat} (hk : k < 3) (hc : c < 100) (hp : p < 1000) (hr : runD (sG g) c p = r) (hl : r < c) : ∃ nu', F_X3_readsNumber N (ys g m was (nI p) ma nu to se) (nI k) (nI c) = some (nI 0, ys g m was (nI (p + r)) ma nu' to se) := by
  have e := y_reads hN hg m was ma nu to se hk hc hp
  rw [hr, decide_eq_false (show ¬ r = c by omega)] at e
  exact ⟨_, e⟩
theorem y_readT1 {N : Nat} (hN : 2000 ≤ N) {g : GS} (hg : GI g) (m was : TA) (ma : Int32) (nu to : FA) (se : Int32) {k p : Nat} (hk : k < 3) (hp : p < 1000) (hd : isD (sG g p) = true) : F_X3_readsNumber N (ys g m was (nI p) ma nu to se) (nI k) (nI 1) = some (nI 1, ys g m was (nI (p + 1)) ma (upd nu k (nI (dg (sG g p)))) to se) := by
  have e := y_reads hN hg m was ma nu to se hk (show 1 < 100 by decide) hp
  have hr : runD (sG g) 1 p = 1 := runD_t (k := 0) hd
  have hv : numV (sG g) 1 p 0 = dg (sG g p) := by
    show 10 * 0 + dg (sG g p) = dg (sG g p)
    omega
  rw [hr, hv] at e
  exact e
theorem y_readT2 {N : Nat} (hN : 2000 ≤ N) {g : GS} (hg : GI g) (m was : TA) (ma : Int32) (nu to : FA) (se : Int32) {k p : Nat} (hk : k < 3) (hp : p < 1000) (hd : isD (sG g p) = true) (hd2 : isD (sG g (p + 1)) = true) : F_X3_readsNumber N (ys g m was (nI p) ma nu to se) (nI k) (nI 2) = some (nI 1, ys g m was (nI (p + 2)) ma (upd nu k (nI (10 * dg (sG g p) + dg (sG g (p + 1))))) to se) := by
  have e := y_reads hN hg m was ma nu to se hk (show 2 < 100 by decide) hp
  have hr1 : runD (sG g) 1 (p + 1) = 1 := runD_t (k := 0) hd2
  have hr : runD (sG g) 2 p = 2 := by
    have h : runD (sG g) 2 p = runD (sG g) 1 (p + 1) + 1 := runD_t hd
    omega
  have hv : numV (sG g) 2 p 0 = 10 * dg (sG g p) + dg (sG g (p + 1)) := by
    show 10 * (10 * 0 + dg (sG g p)) + dg (sG g (p + 1)) = _
    omega
  rw [hr, hv] at e
  exact e
theorem y_203f (N : Nat) (y : MS) : F_X3_readsStatement_203 N y (nI 0) = some (nI 0, y) := by
  unfold F_X3_readsStatement_203
  exact if_pos (by decide)
theorem y_203t (N : Nat) {g : GS} (hg : GI g) (m was : TA) {e : Nat} (he : e < 2147483648) (ma : Int32) (nu to : FA) (se : Int32) : F_X3_readsStatement_203 N (ys g m was (nI e) ma nu to se) (nI 1) = some (bI (endS (sG g) e).1, ys g m was (nI (endS (sG g) e).2) ma nu to se) := by
  unfold F_X3_readsStatement_203 endS
  refine Eq.trans (if_neg (show ¬ nI 1 = 0 by decide)) ?_
  refine Eq.trans (q_bs0 _ _ _ (y_here N hg m was he ma nu to se)) ?_
  by_cases h : sG g e = nI 59
  · refine Eq.trans (if_pos h) ?_
    rw [if_pos h]
    exact congrArg (fun z => some (nI 1, ys g m was z ma nu to se)) (nI_add e 1)
  · refine Eq.trans (if_neg h) ?_
    rw [if_neg h]
    rfl
theorem run3 {f : Nat → Int32} {q : Nat} (h1 : isD (f q) = true) (h2 : isD (f (q + 1)) = true) (h3 : isD (f (q + 2)) = true) : runD f 3 q = 3 := by
  have e1 : runD f 3 q = runD f 2 (q + 1) + 1 := runD_t h1
  have e2 : runD f 2 (q + 1) = runD f 1 (q + 2) + 1 := runD_t h2
  have e3 : runD f 1 (q + 2) = runD f 0 (q + 3) + 1 := runD_t h3
  have e4 : runD f 0 (q + 3) = 0 := rfl
  omega
theorem run3_2 {f : Nat → Int32} {q : Nat} (h1 : isD (f q) = true) (h2 : isD (f (q + 1)) = true) (h3 : isD (f (q + 2)) = false) : runD f 3 q = 2 := by
  have e1 : runD f 3 q = runD f 2 (q + 1) + 1 := runD_t h1
  have e2 : runD f 2 (q + 1) = runD f 1 (q + 2) + 1 := runD_t h2
  have e3 : runD f 1 (q + 2) = 0 := runD_f h3
  omega
theorem run3_1 {f : Nat → Int32} {q : Nat} (h1 : isD (f q) = true) (h2 : isD (f (q + 1)) = false) : runD f 3 q = 1 := by
  have e1 : runD f 3 q = runD f 2 (q + 1) + 1 := runD_t h1
  have e2 : runD f 2 (q + 1) = 0 := runD_f h2
  omega
theorem run3_0 {f : Nat → Int32} {q : Nat} (h1 : isD (f q) = false) : runD f 3 q = 0 := runD_f h1
theorem run2 {f : Nat → Int32} {q : Nat} (h1 : isD (f q) = true) (h2 : isD (f (q + 1)) = true) : runD f 2 q = 2 := by
  have e1 : runD f 2 q = runD f 1 (q + 1) + 1 := runD_t h1
  have e2 : runD f 1 (q + 1) = runD f 0 (q + 2) + 1 := runD_t h2
  have e4 : runD f 0 (q + 2) = 0 := rfl
  omega
theorem run2_1 {f : Nat → Int32} {q : Nat} (h1 : isD (f q) = true) (h2 : isD (f (q + 1)) = false) : runD f 2 q = 1 := by
  have e1 : runD f 2 q = runD f 1 (q + 1) + 1 := runD_t h1
  have e2 : runD f 1 (q + 1) = 0 := runD_f h2
  omega
theorem run2_0 {f : Nat → Int32} {q : Nat} (h1 : isD (f q) = false) : runD f 2 q = 0 := runD_f h1
theorem rd_110 {N : Nat} (hN : 2000 ≤ N) {g : GS} (hg : GI g) (m was : TA) (ma : Int32) (nu to : FA) (se : Int32) {q : Nat} (hq : q < 900) : ∃ nu', F_X3_readsStatement_110 N (ys g m was (nI q) ma nu to se) = some (bI (dgs (sG g) q 3 3).1, ys g m was (nI (dgs (sG g) q 3 3).2) ma nu' to se) ∧ ((dgs (sG g) q 3 3).1 = true → nu' 0 = nI (dg (sG g q)) ∧ nu' 1 = nI (dg (sG g (q + 1))) ∧ nu' 2 = nI (dg (sG g (q + 2)))) := by
  unfold F_X3_readsStatement_110
  cases d1 : isD (sG g q)
  · rw [dgs_lt (run3_0 d1) (by decide)]
    obtain ⟨nu1, e1⟩ := y_readF hN hg m was ma nu to se (k := 0) (c := 1) (p := q) (r := 0) (by decide) (by decide) (by omega) (runD_f d1) (by decide)
    refine ⟨nu1, ?_, fun e => absurd e Bool.false_ne_true⟩
    refine Eq.trans (q_bs0 _ _ _ e1) ?_
    refine Eq.trans (if_pos (show nI 0 = 0 by decide)) ?_
    exact y_203f N _
  · have e1 := y_readT1 hN hg m was ma nu to se (k := 0) (p := q) (by decide) (by omega) d1
    generalize upd nu 0 (nI (dg (sG g q))) = nu1 at e1
    cases d2 : isD (sG g (q + 1))
    · rw [dgs_lt (run3_1 d1 d2) (by decide)]
      obtain ⟨nu2, e2⟩ := y_readF hN hg m was ma nu1 to se (k := 1) (c := 1) (p := q + 1) (r := 0) (by decide) (by decide) (by omega) (runD_f d2) (by decide)
      refine ⟨nu2, ?_, fun e => absurd e Bool.false_ne_true⟩
      refine Eq.trans (q_bs0 _ _ _ e1) ?_
      refine Eq.trans (if_neg (show ¬ nI 1 = 0 by decide)) ?_
      refine Eq.trans (q_bs0 _ _ _ e2) ?_
      refine Eq.trans (if_pos (show nI 0 = 0 by decide)) ?_
      exact y_203f N _
    · have e2 := y_readT1 hN hg m was ma nu1 to se (k := 1) (p := q + 1) (by decide) (by omega) d2
      cases d3 : isD (sG g (q + 2))
      · rw [dgs_lt (run3_2 d1 d2 d3) (by decide)]
        obtain ⟨nu3, e3⟩ := y_readF hN hg m was ma (upd nu1 1 (nI (dg (sG g (q + 1))))) to se (k := 2) (c := 1) (p := q + 2) (r := 0) (by decide) (by decide) (by omega) (runD_f d3) (by decide)
        refine ⟨nu3, ?_, fun e => absurd e Bool.false_ne_true⟩
        refine Eq.trans (q_bs0 _ _ _ e1) ?_
        refine Eq.trans (if_neg (show ¬ nI 1 = 0 by decide)) ?_
        refine Eq.trans (q_bs0 _ _ _ e2) ?_
        refine Eq.trans (if_neg (show ¬ nI 1 = 0 by decide)) ?_
        refine Eq.trans (q_bs0 _ _ _ e3) ?_
        refine Eq.trans (if_pos (show nI 0 = 0 by decide)) ?_
        exact y_203f N _
      · have e1' := y_readT1 hN hg m was ma nu to se (k := 0) (p := q) (by decide) (by omega) d1
        have e2' := y_readT1 hN hg m was ma (upd nu 0 (nI (dg (sG g q)))) to se (k := 1) (p := q + 1) (by decide) (by omega) d2
        have e3' := y_readT1 hN hg m was ma (upd (upd nu 0 (nI (dg (sG g q)))) 1 (nI (dg (sG g (q + 1))))) to se (k := 2) (p := q + 2) (by decide) (by omega) d3
        rw [dgs_ge (run3 d1 d2 d3) (by decide)]
        refine ⟨upd (upd (upd nu 0 (nI (dg (sG g q)))) 1 (nI (dg (sG g (q + 1))))) 2 (nI (dg (sG g (q + 2)))), ?_, fun _ => ?_⟩
        · refine Eq.trans (q_bs0 _ _ _ e1') ?_
          refine Eq.trans (if_neg (show ¬ nI 1 = 0 by decide)) ?_
          refine Eq.trans (q_bs0 _ _ _ e2') ?_
          refine Eq.trans (if_neg (show ¬ nI 1 = 0 by decide)) ?_
          refine Eq.trans (q_bs0 _ _ _ e3') ?_
          refine Eq.trans (if_neg (show ¬ nI 1 = 0 by decide)) ?_
          exact y_203t N hg m was (e := q + 3) (by omega) ma _ to se
        · exact ⟨rfl, rfl, rfl⟩
