/-! the law's loop: every call answers alike -/
theorem ite_ok {c : Prop} {i : Decidable c} {A B : Option Unit} (hA : A = some ()) (hB : B = some ()) : @ite (Option Unit) c i A B = some () := by
  by_cases h : c
  · exact (if_pos h).trans hA
  · exact (if_neg h).trans hB
theorem ck_k {L i k : Nat} (hL : L ≤ 2560) (hk : i + k < L) (z : Option Unit) : ckI (nI i + nI k) L z = z := by
  rw [(nI_add i k)]
  exact q_ck hk (by omega)
def KA (kA : XS → MS → Int32 → Option Unit) (x3 : Int32) : Prop := ∀ (g : GS) (x : XS) (y : MS), XR g x → MR g y → GI g → kA x y x3 = some ()
theorem ar_B (C : Option Unit → Option Unit) (hC : ∀ z, C z = z) {A : Option (Int32 × XS)} {B : Option (Int32 × MS)} (h : Both A B) {kA : XS → MS → Int32 → Option Unit} {x3 : Int32} (hK : KA kA x3) : C (A.bind fun r => C (B.bind fun r' => if r.1 = r'.1 then kA r.2 r'.2 x3 else none)) = some () := by
  obtain ⟨v, g, x, y, e1, e2, hx, hy, hg⟩ := h
  refine (hC _).trans ?_
  refine Eq.trans (q_bs0 _ _ _ e1) ?_
  refine (hC _).trans ?_
  refine Eq.trans (q_bs0 _ _ _ e2) ?_
  refine Eq.trans (if_pos (show v = v from rfl)) ?_
  exact hK g x y hx hy hg
theorem ar_L (C : Option Unit → Option Unit) (hC : ∀ z, C z = z) {A : Option (Int64 × XS)} {B : Option (Int64 × MS)} (h : Both A B) {kA : XS → MS → Int32 → Option Unit} {x3 : Int32} (hK : KA kA x3) : C (A.bind fun r => C (B.bind fun r' => if lg_cmp r.1 r'.1 = 0 then kA r.2 r'.2 x3 else none)) = some () := by
  obtain ⟨v, g, x, y, e1, e2, hx, hy, hg⟩ := h
  refine (hC _).trans ?_
  refine Eq.trans (q_bs0 _ _ _ e1) ?_
  refine (hC _).trans ?_
  refine Eq.trans (q_bs0 _ _ _ e2) ?_
  refine Eq.trans (if_pos (show lg_cmp v v = 0 from (lg_cmp_eq v v).mpr rfl)) ?_
  exact hK g x y hx hy hg
theorem ar_S (C : Option Unit → Option Unit) (hC : ∀ z, C z = z) {A B : Option Int32} (h : Same A B) {kA : XS → MS → Int32 → Option Unit} {x3 : Int32} (hK : KA kA x3) {g : GS} {x : XS} {y : MS} (hx : XR g x) (hy : MR g y) (hg : GI g) : C (A.bind fun r => C (B.bind fun r' => if r = r' then kA x y x3 else none)) = some () := by
  obtain ⟨v, e1, e2⟩ := h
  refine (hC _).trans ?_
  refine Eq.trans (q_bs0 _ _ _ e1) ?_
  refine (hC _).trans ?_
  refine Eq.trans (q_bs0 _ _ _ e2) ?_
  refine Eq.trans (if_pos (show v = v from rfl)) ?_
  exact hK g x y hx hy hg
theorem ar_M {A : Option Int32} {B : Option (Int32 × MS)} {g : GS} {x : XS} (h : ∃ v y2, A = some v ∧ B = some (v, y2) ∧ MR g y2) {kA : XS → MS → Int32 → Option Unit} {x3 : Int32} (hK : KA kA x3) (hx : XR g x) (hg : GI g) : (A.bind fun r => B.bind fun r' => if r = r'.1 then kA x r'.2 x3 else none) = some () := by
  obtain ⟨v, y2, e1, e2, hy⟩ := h
  refine Eq.trans (q_bs0 _ _ _ e1) ?_
  refine Eq.trans (q_bs0 _ _ _ e2) ?_
  refine Eq.trans (if_pos (show v = v from rfl)) ?_
  exact hK g x y2 hx hy hg
theorem cK_0 {L i : Nat} (hL : L ≤ 2560) (hi : i + 5 ≤ L) (z : Option Unit) : (fun z => z) z = z := rfl
theorem cK_1 {L i : Nat} (hL : L ≤ 2560) (hi : i + 5 ≤ L) (z : Option Unit) : (fun z => ckI (nI i + nI 1) L (z)) z = z := by
  show ckI (nI i + nI 1) L (z) = z
  rw [ck_k (k := 1) hL (by omega)]
theorem cK_2 {L i : Nat} (hL : L ≤ 2560) (hi : i + 5 ≤ L) (z : Option Unit) : (fun z => ckI (nI i + nI 1) L (ckI (nI i + nI 2) L (z))) z = z := by
  show ckI (nI i + nI 1) L (ckI (nI i + nI 2) L (z)) = z
  rw [ck_k (k := 1) hL (by omega), ck_k (k := 2) hL (by omega)]
theorem cK_3 {L i : Nat} (hL : L ≤ 2560) (hi : i + 5 ≤ L) (z : Option Unit) : (fun z => ckI (nI i + nI 1) L (ckI (nI i + nI 2) L (ckI (nI i + nI 3) L (z)))) z = z := by
  show ckI (nI i + nI 1) L (ckI (nI i + nI 2) L (ckI (nI i + nI 3) L (z))) = z
  rw [ck_k (k := 1) hL (by omega), ck_k (k := 2) hL (by omega), ck_k (k := 3) hL (by omega)]
theorem cK_4 {L i : Nat} (hL : L ≤ 2560) (hi : i + 5 ≤ L) (z : Option Unit) : (fun z => ckI (nI i + nI 1) L (ckI (nI i + nI 2) L (ckI (nI i + nI 3) L (ckI (nI i + nI 4) L (z))))) z = z := by
  show ckI (nI i + nI 1) L (ckI (nI i + nI 2) L (ckI (nI i + nI 3) L (ckI (nI i + nI 4) L (z)))) = z
  rw [ck_k (k := 1) hL (by omega), ck_k (k := 2) hL (by omega), ck_k (k := 3) hL (by omega), ck_k (k := 4) hL (by omega)]
theorem ar_0 {N : Nat} (hN : 2000 ≤ N) (sc : FA) {L i : Nat} (hL : L ≤ 2560) (hi : i + 5 ≤ L) {kA : XS → MS → Int32 → Option Unit} (hK : KA kA (nI i)) {g : GS} {x : XS} {y : MS} (hx : XR g x) (hy : MR g y) (hg : GI g) : F_L_law_a0 N sc L kA x y (nI i) = some () := by
  unfold F_L_law_a0
  exact ar_B (fun z => ckI (nI i + nI 1) L (z)) (cK_1 hL hi) (s_letter N hx hy hg _) hK
theorem ar_1 {N : Nat} (hN : 2000 ≤ N) (sc : FA) {L i : Nat} (hL : L ≤ 2560) (hi : i + 5 ≤ L) {kA : XS → MS → Int32 → Option Unit} (hK : KA kA (nI i)) {g : GS} {x : XS} {y : MS} (hx : XR g x) (hy : MR g y) (hg : GI g) : F_L_law_a1 N sc L kA x y (nI i) = some () := by
  unfold F_L_law_a1
  exact ar_B (fun z => z) (cK_0 hL hi) (s_town hN hx hy hg) hK
theorem ar_2 {N : Nat} (hN : 2000 ≤ N) (sc : FA) {L i : Nat} (hL : L ≤ 2560) (hi : i + 5 ≤ L) {kA : XS → MS → Int32 → Option Unit} (hK : KA kA (nI i)) {g : GS} {x : XS} {y : MS} (hx : XR g x) (hy : MR g y) (hg : GI g) : F_L_law_a2 N sc L kA x y (nI i) = some () := by
  unfold F_L_law_a2
  exact ar_B (fun z => ckI (nI i + nI 1) L (ckI (nI i + nI 2) L (z))) (cK_2 hL hi) (s_citizen hN hx hy hg _ _) hK
theorem ar_3 {N : Nat} (hN : 2000 ≤ N) (sc : FA) {L i : Nat} (hL : L ≤ 2560) (hi : i + 5 ≤ L) {kA : XS → MS → Int32 → Option Unit} (hK : KA kA (nI i)) {g : GS} {x : XS} {y : MS} (hx : XR g x) (hy : MR g y) (hg : GI g) : F_L_law_a3 N sc L kA x y (nI i) = some () := by
  unfold F_L_law_a3
  exact ar_B (fun z => ckI (nI i + nI 1) L (ckI (nI i + nI 2) L (z))) (cK_2 hL hi) (s_word N hx hy hg _ _) hK
theorem ar_4 {N : Nat} (hN : 2000 ≤ N) (sc : FA) {L i : Nat} (hL : L ≤ 2560) (hi : i + 5 ≤ L) {kA : XS → MS → Int32 → Option Unit} (hK : KA kA (nI i)) {g : GS} {x : XS} {y : MS} (hx : XR g x) (hy : MR g y) (hg : GI g) : F_L_law_a4 N sc L kA x y (nI i) = some () := by
  unfold F_L_law_a4
  exact ar_S (fun z => z) (cK_0 hL hi) (s_written hN hx hy hg) hK hx hy hg
theorem ar_5 {N : Nat} (hN : 2000 ≤ N) (sc : FA) {L i : Nat} (hL : L ≤ 2560) (hi : i + 5 ≤ L) {kA : XS → MS → Int32 → Option Unit} (hK : KA kA (nI i)) {g : GS} {x : XS} {y : MS} (hx : XR g x) (hy : MR g y) (hg : GI g) : F_L_law_a5 N sc L kA x y (nI i) = some () := by
  unfold F_L_law_a5
  exact ar_B (fun z => ckI (nI i + nI 1) L (ckI (nI i + nI 2) L (ckI (nI i + nI 3) L (z)))) (cK_3 hL hi) (s_says N hx hy hg _ _ _) hK
theorem ar_6 {N : Nat} (hN : 2000 ≤ N) (sc : FA) {L i : Nat} (hL : L ≤ 2560) (hi : i + 5 ≤ L) {kA : XS → MS → Int32 → Option Unit} (hK : KA kA (nI i)) {g : GS} {x : XS} {y : MS} (hx : XR g x) (hy : MR g y) (hg : GI g) : F_L_law_a6 N sc L kA x y (nI i) = some () := by
  unfold F_L_law_a6
  exact ar_B (fun z => ckI (nI i + nI 1) L (ckI (nI i + nI 2) L (z))) (cK_2 hL hi) (s_ages N hx hy hg _ _) hK
theorem ar_7 {N : Nat} (hN : 2000 ≤ N) (sc : FA) {L i : Nat} (hL : L ≤ 2560) (hi : i + 5 ≤ L) {kA : XS → MS → Int32 → Option Unit} (hK : KA kA (nI i)) {g : GS} {x : XS} {y : MS} (hx : XR g x) (hy : MR g y) (hg : GI g) : F_L_law_a7 N sc L kA x y (nI i) = some () := by
  unfold F_L_law_a7
  exact ar_B (fun z => ckI (nI i + nI 1) L (z)) (cK_1 hL hi) (s_dies hN hx hy hg _) hK
theorem ar_8 {N : Nat} (hN : 2000 ≤ N) (sc : FA) {L i : Nat} (hL : L ≤ 2560) (hi : i + 5 ≤ L) {kA : XS → MS → Int32 → Option Unit} (hK : KA kA (nI i)) {g : GS} {x : XS} {y : MS} (hx : XR g x) (hy : MR g y) (hg : GI g) : F_L_law_a8 N sc L kA x y (nI i) = some () := by
  unfold F_L_law_a8
  exact ar_B (fun z => ckI (nI i + nI 1) L (ckI (nI i + nI 2) L (ckI (nI i + nI 3) L (z)))) (cK_3 hL hi) (s_turn N hx hy hg _ _ _) hK
theorem ar_9 {N : Nat} (hN : 2000 ≤ N) (sc : FA) {L i : Nat} (hL : L ≤ 2560) (hi : i + 5 ≤ L) {kA : XS → MS → Int32 → Option Unit} (hK : KA kA (nI i)) {g : GS} {x : XS} {y : MS} (hx : XR g x) (hy : MR g y) (hg : GI g) : F_L_law_a9 N sc L kA x y (nI i) = some () := by
  unfold F_L_law_a9
  exact ar_B (fun z => ckI (nI i + nI 1) L (z)) (cK_1 hL hi) (s_years hN hx hy hg _) hK
theorem ar_10 {N : Nat} (hN : 2000 ≤ N) (sc : FA) {L i : Nat} (hL : L ≤ 2560) (hi : i + 5 ≤ L) {kA : XS → MS → Int32 → Option Unit} (hK : KA kA (nI i)) {g : GS} {x : XS} {y : MS} (hx : XR g x) (hy : MR g y) (hg : GI g) : F_L_law_a10 N sc L kA x y (nI i) = some () := by
  unfold F_L_law_a10
  exact ar_B (fun z => ckI (nI i + nI 1) L (z)) (cK_1 hL hi) (s_writtenThen hN hx hy hg _) hK
theorem ar_11 {N : Nat} (hN : 2000 ≤ N) (sc : FA) {L i : Nat} (hL : L ≤ 2560) (hi : i + 5 ≤ L) {kA : XS → MS → Int32 → Option Unit} (hK : KA kA (nI i)) {g : GS} {x : XS} {y : MS} (hx : XR g x) (hy : MR g y) (hg : GI g) : F_L_law_a11 N sc L kA x y (nI i) = some () := by
  unfold F_L_law_a11
  exact ar_B (fun z => ckI (nI i + nI 1) L (ckI (nI i + nI 2) L (ckI (nI i + nI 3) L (z)))) (cK_3 hL hi) (s_wordThen hN hx hy hg _ _ _) hK
theorem ar_12 {N : Nat} (hN : 2000 ≤ N) (sc : FA) {L i : Nat} (hL : L ≤ 2560) (hi : i + 5 ≤ L) {kA : XS → MS → Int32 → Option Unit} (hK : KA kA (nI i)) {g : GS} {x : XS} {y : MS} (hx : XR g x) (hy : MR g y) (hg : GI g) : F_L_law_a12 N sc L kA x y (nI i) = some () := by
  unfold F_L_law_a12
  exact ar_B (fun z => ckI (nI i + nI 1) L (z)) (cK_1 hL hi) (s_deadThen hN hx hy hg _) hK
theorem ar_13 {N : Nat} (hN : 2000 ≤ N) (sc : FA) {L i : Nat} (hL : L ≤ 2560) (hi : i + 5 ≤ L) {kA : XS → MS → Int32 → Option Unit} (hK : KA kA (nI i)) {g : GS} {x : XS} {y : MS} (hx : XR g x) (hy : MR g y) (hg : GI g) : F_L_law_a13 N sc L kA x y (nI i) = some () := by
  unfold F_L_law_a13
  exact ar_B (fun z => ckI (nI i + nI 1) L (z)) (cK_1 hL hi) (s_lasts hN hx hy hg _) hK
theorem ar_14 {N : Nat} (hN : 2000 ≤ N) (sc : FA) {L i : Nat} (hL : L ≤ 2560) (hi : i + 5 ≤ L) {kA : XS → MS → Int32 → Option Unit} (hK : KA kA (nI i)) {g : GS} {x : XS} {y : MS} (hx : XR g x) (hy : MR g y) (hg : GI g) : F_L_law_a14 N sc L kA x y (nI i) = some () := by
  unfold F_L_law_a14
  exact ar_B (fun z => ckI (nI i + nI 1) L (z)) (cK_1 hL hi) (s_lost hN hx hy hg _) hK
theorem ar_15 {N : Nat} (hN : 2000 ≤ N) (sc : FA) {L i : Nat} (hL : L ≤ 2560) (hi : i + 5 ≤ L) {kA : XS → MS → Int32 → Option Unit} (hK : KA kA (nI i)) {g : GS} {x : XS} {y : MS} (hx : XR g x) (hy : MR g y) (hg : GI g) : F_L_law_a15 N sc L kA x y (nI i) = some () := by
  unfold F_L_law_a15
  exact ar_B (fun z => ckI (nI i + nI 1) L (z)) (cK_1 hL hi) (s_still hN hx hy hg _) hK
theorem ar_16 {N : Nat} (hN : 2000 ≤ N) (sc : FA) {L i : Nat} (hL : L ≤ 2560) (hi : i + 5 ≤ L) {kA : XS → MS → Int32 → Option Unit} (hK : KA kA (nI i)) {g : GS} {x : XS} {y : MS} (hx : XR g x) (hy : MR g y) (hg : GI g) : F_L_law_a16 N sc L kA x y (nI i) = some () := by
  unfold F_L_law_a16
  exact ar_B (fun z => ckI (nI i + nI 1) L (z)) (cK_1 hL hi) (s_chapter hN hx hy hg _) hK
theorem ar_17 {N : Nat} (hN : 2000 ≤ N) (sc : FA) {L i : Nat} (hL : L ≤ 2560) (hi : i + 5 ≤ L) {kA : XS → MS → Int32 → Option Unit} (hK : KA kA (nI i)) {g : GS} {x : XS} {y : MS} (hx : XR g x) (hy : MR g y) (hg : GI g) : F_L_law_a17 N sc L kA x y (nI i) = some () := by
  unfold F_L_law_a17
  exact ar_B (fun z => ckI (nI i + nI 1) L (z)) (cK_1 hL hi) (s_quarrel hN hx hy hg _) hK
theorem ar_18 {N : Nat} (hN : 2000 ≤ N) (sc : FA) {L i : Nat} (hL : L ≤ 2560) (hi : i + 5 ≤ L) {kA : XS → MS → Int32 → Option Unit} (hK : KA kA (nI i)) {g : GS} {x : XS} {y : MS} (hx : XR g x) (hy : MR g y) (hg : GI g) : F_L_law_a18 N sc L kA x y (nI i) = some () := by
  unfold F_L_law_a18
  exact ar_S (fun z => z) (cK_0 hL hi) (s_keeps hN hx hy hg) hK hx hy hg
theorem ar_19 {N : Nat} (hN : 2000 ≤ N) (sc : FA) {L i : Nat} (hL : L ≤ 2560) (hi : i + 5 ≤ L) {kA : XS → MS → Int32 → Option Unit} (hK : KA kA (nI i)) {g : GS} {x : XS} {y : MS} (hx : XR g x) (hy : MR g y) (hg : GI g) : F_L_law_a19 N sc L kA x y (nI i) = some () := by
  unfold F_L_law_a19
  exact ar_B (fun z => ckI (nI i + nI 1) L (z)) (cK_1 hL hi) (s_silent hN hx hy hg _) hK
theorem ar_20 {N : Nat} (hN : 2000 ≤ N) (sc : FA) {L i : Nat} (hL : L ≤ 2560) (hi : i + 5 ≤ L) {kA : XS → MS → Int32 → Option Unit} (hK : KA kA (nI i)) {g : GS} {x : XS} {y : MS} (hx : XR g x) (hy : MR g y) (hg : GI g) : F_L_law_a20 N sc L kA x y (nI i) = some () := by
  unfold F_L_law_a20
  exact ar_B (fun z => ckI (nI i + nI 1) L (ckI (nI i + nI 2) L (z))) (cK_2 hL hi) (s_lives hN hx hy hg _ _) hK
theorem ar_21 {N : Nat} (hN : 2000 ≤ N) (sc : FA) {L i : Nat} (hL : L ≤ 2560) (hi : i + 5 ≤ L) {kA : XS → MS → Int32 → Option Unit} (hK : KA kA (nI i)) {g : GS} {x : XS} {y : MS} (hx : XR g x) (hy : MR g y) (hg : GI g) : F_L_law_a21 N sc L kA x y (nI i) = some () := by
  unfold F_L_law_a21
  exact ar_B (fun z => ckI (nI i + nI 1) L (z)) (cK_1 hL hi) (s_heir hN hx hy hg _) hK
theorem ar_22 {N : Nat} (hN : 2000 ≤ N) (sc : FA) {L i : Nat} (hL : L ≤ 2560) (hi : i + 5 ≤ L) {kA : XS → MS → Int32 → Option Unit} (hK : KA kA (nI i)) {g : GS} {x : XS} {y : MS} (hx : XR g x) (hy : MR g y) (hg : GI g) : F_L_law_a22 N sc L kA x y (nI i) = some () := by
  unfold F_L_law_a22
  exact ar_B (fun z => ckI (nI i + nI 1) L (z)) (cK_1 hL hi) (s_so hN hx hy hg _) hK
theorem ar_23 {N : Nat} (hN : 2000 ≤ N) (sc : FA) {L i : Nat} (hL : L ≤ 2560) (hi : i + 5 ≤ L) {kA : XS → MS → Int32 → Option Unit} (hK : KA kA (nI i)) {g : GS} {x : XS} {y : MS} (hx : XR g x) (hy : MR g y) (hg : GI g) : F_L_law_a23 N sc L kA x y (nI i) = some () := by
  unfold F_L_law_a23
  exact ar_M (s_leastLiars hN hx hy hg) hK hx hg
theorem ar_24 {N : Nat} (hN : 2000 ≤ N) (sc : FA) {L i : Nat} (hL : L ≤ 2560) (hi : i + 5 ≤ L) {kA : XS → MS → Int32 → Option Unit} (hK : KA kA (nI i)) {g : GS} {x : XS} {y : MS} (hx : XR g x) (hy : MR g y) (hg : GI g) : F_L_law_a24 N sc L kA x y (nI i) = some () := by
  unfold F_L_law_a24
  exact ar_B (fun z => ckI (nI i + nI 1) L (z)) (cK_1 hL hi) (s_differ hN hx hy hg _) hK
theorem ar_25 {N : Nat} (hN : 2000 ≤ N) (sc : FA) {L i : Nat} (hL : L ≤ 2560) (hi : i + 5 ≤ L) {kA : XS → MS → Int32 → Option Unit} (hK : KA kA (nI i)) {g : GS} {x : XS} {y : MS} (hx : XR g x) (hy : MR g y) (hg : GI g) : F_L_law_a25 N sc L kA x y (nI i) = some () := by
  unfold F_L_law_a25
  exact ar_B (fun z => ckI (nI i + nI 1) L (z)) (cK_1 hL hi) (s_friends hN hx hy hg _) hK
theorem ar_26 {N : Nat} (hN : 2000 ≤ N) (sc : FA) {L i : Nat} (hL : L ≤ 2560) (hi : i + 5 ≤ L) {kA : XS → MS → Int32 → Option Unit} (hK : KA kA (nI i)) {g : GS} {x : XS} {y : MS} (hx : XR g x) (hy : MR g y) (hg : GI g) : F_L_law_a26 N sc L kA x y (nI i) = some () := by
  unfold F_L_law_a26
  exact ar_S (fun z => z) (cK_0 hL hi) (s_gives hN hx hy hg) hK hx hy hg
theorem ar_27 {N : Nat} (hN : 2000 ≤ N) (sc : FA) {L i : Nat} (hL : L ≤ 2560) (hi : i + 5 ≤ L) {kA : XS → MS → Int32 → Option Unit} (hK : KA kA (nI i)) {g : GS} {x : XS} {y : MS} (hx : XR g x) (hy : MR g y) (hg : GI g) : F_L_law_a27 N sc L kA x y (nI i) = some () := by
  unfold F_L_law_a27
  exact ar_B (fun z => ckI (nI i + nI 1) L (ckI (nI i + nI 2) L (ckI (nI i + nI 3) L (ckI (nI i + nI 4) L (z))))) (cK_4 hL hi) (s_two hN hx hy hg _ _ _ _) hK
theorem ar_28 {N : Nat} (hN : 2000 ≤ N) (sc : FA) {L i : Nat} (hL : L ≤ 2560) (hi : i + 5 ≤ L) {kA : XS → MS → Int32 → Option Unit} (hK : KA kA (nI i)) {g : GS} {x : XS} {y : MS} (hx : XR g x) (hy : MR g y) (hg : GI g) : F_L_law_a28 N sc L kA x y (nI i) = some () := by
  unfold F_L_law_a28
  exact ar_L (fun z => ckI (nI i + nI 1) L (ckI (nI i + nI 2) L (ckI (nI i + nI 3) L (ckI (nI i + nI 4) L (z))))) (cK_4 hL hi) (s_winter hN hx hy hg _ _ _ _) hK
theorem ar_29 {N : Nat} (hN : 2000 ≤ N) (sc : FA) {L i : Nat} (hL : L ≤ 2560) (hi : i + 5 ≤ L) {kA : XS → MS → Int32 → Option Unit} (hK : KA kA (nI i)) {g : GS} {x : XS} {y : MS} (hx : XR g x) (hy : MR g y) (hg : GI g) : F_L_law_a29 N sc L kA x y (nI i) = some () := by
  unfold F_L_law_a29
  exact ar_L (fun z => ckI (nI i + nI 1) L (z)) (cK_1 hL hi) (s_mean hN hx hy hg _) hK
theorem ar_30 {N : Nat} (hN : 2000 ≤ N) (sc : FA) {L i : Nat} (hL : L ≤ 2560) (hi : i + 5 ≤ L) {kA : XS → MS → Int32 → Option Unit} (hK : KA kA (nI i)) {g : GS} {x : XS} {y : MS} (hx : XR g x) (hy : MR g y) (hg : GI g) : F_L_law_a30 N sc L kA x y (nI i) = some () := by
  unfold F_L_law_a30
  exact ar_B (fun z => ckI (nI i + nI 1) L (ckI (nI i + nI 2) L (ckI (nI i + nI 3) L (z)))) (cK_3 hL hi) (s_whatIs hN hx hy hg _ _ _) hK
theorem ar_31 {N : Nat} (hN : 2000 ≤ N) (sc : FA) {L i : Nat} (hL : L ≤ 2560) (hi : i + 5 ≤ L) {kA : XS → MS → Int32 → Option Unit} (hK : KA kA (nI i)) {g : GS} {x : XS} {y : MS} (hx : XR g x) (hy : MR g y) (hg : GI g) : F_L_law_a31 N sc L kA x y (nI i) = some () := by
  unfold F_L_law_a31
  exact ar_B (fun z => ckI (nI i + nI 1) L (z)) (cK_1 hL hi) (s_row N hx hy hg _) hK
theorem ar_32 {N : Nat} (hN : 2000 ≤ N) (sc : FA) {L i : Nat} (hL : L ≤ 2560) (hi : i + 5 ≤ L) {kA : XS → MS → Int32 → Option Unit} (hK : KA kA (nI i)) {g : GS} {x : XS} {y : MS} (hx : XR g x) (hy : MR g y) (hg : GI g) : F_L_law_a32 N sc L kA x y (nI i) = some () := by
  unfold F_L_law_a32
  exact ar_B (fun z => z) (cK_0 hL hi) (s_judge hN hx hy hg) hK
theorem ar_33 {N : Nat} (hN : 2000 ≤ N) (sc : FA) {L i : Nat} (hL : L ≤ 2560) (hi : i + 5 ≤ L) {kA : XS → MS → Int32 → Option Unit} (hK : KA kA (nI i)) {g : GS} {x : XS} {y : MS} (hx : XR g x) (hy : MR g y) (hg : GI g) : F_L_law_a33 N sc L kA x y (nI i) = some () := by
  unfold F_L_law_a33
  exact ar_B (fun z => z) (cK_0 hL hi) (s_clear N hx hy hg) hK
theorem ar_34 {N : Nat} (hN : 2000 ≤ N) (sc : FA) {L i : Nat} (hL : L ≤ 2560) (hi : i + 5 ≤ L) {kA : XS → MS → Int32 → Option Unit} (hK : KA kA (nI i)) {g : GS} {x : XS} {y : MS} (hx : XR g x) (hy : MR g y) (hg : GI g) : F_L_law_a34 N sc L kA x y (nI i) = some () := by
  unfold F_L_law_a34
  exact ar_B (fun z => ckI (nI i + nI 1) L (ckI (nI i + nI 2) L (ckI (nI i + nI 3) L (z)))) (cK_3 hL hi) (s_lots hN hx hy hg _ _ _) hK
theorem ar_35 {N : Nat} (hN : 2000 ≤ N) (sc : FA) {L i : Nat} (hL : L ≤ 2560) (hi : i + 5 ≤ L) {kA : XS → MS → Int32 → Option Unit} (hK : KA kA (nI i)) {g : GS} {x : XS} {y : MS} (hx : XR g x) (hy : MR g y) (hg : GI g) : F_L_law_a35 N sc L kA x y (nI i) = some () := by
  unfold F_L_law_a35
  exact ar_B (fun z => z) (cK_0 hL hi) (s_image hN hx hy hg) hK
theorem ar_36 {N : Nat} (hN : 2000 ≤ N) (sc : FA) {L i : Nat} (hL : L ≤ 2560) (hi : i + 5 ≤ L) {kA : XS → MS → Int32 → Option Unit} (hK : KA kA (nI i)) {g : GS} {x : XS} {y : MS} (hx : XR g x) (hy : MR g y) (hg : GI g) : F_L_law_a36 N sc L kA x y (nI i) = some () := by
  unfold F_L_law_a36
  exact ar_B (fun z => z) (cK_0 hL hi) (s_on hN hx hy hg) hK
theorem ar_37 {N : Nat} (hN : 2000 ≤ N) (sc : FA) {L i : Nat} (hL : L ≤ 2560) (hi : i + 5 ≤ L) {kA : XS → MS → Int32 → Option Unit} (hK : KA kA (nI i)) {g : GS} {x : XS} {y : MS} (hx : XR g x) (hy : MR g y) (hg : GI g) : F_L_law_a37 N sc L kA x y (nI i) = some () := by
  unfold F_L_law_a37
  exact ar_S (fun z => ckI (nI i + nI 1) L (z)) (cK_1 hL hi) (s_count hN hx hy hg _) hK hx hy hg
theorem law_loop {N : Nat} (hN : 2000 ≤ N) (sc : FA) {L : Nat} (hL : L ≤ 2560) : ∀ n i (g : GS) (x : XS) (y : MS), XR g x → MR g y → GI g → i ≤ L → L < i + 5 * n → F_L_law_18 N sc L n x y (nI i) = some () := by
  intro n
  induction n with
  | zero => intro i g x y _ _ _ h1 h2; omega
  | succ n ih =>
    intro i g x y hx hy hg h1 h2
    rw [F_L_law_18]
    by_cases hi : i + 5 ≤ L
    · have hc : ¬ nI L - nI 5 < nI i := by
        rw [(q_sub (show 5 ≤ L by omega)), (q_lt (by omega) (by omega))]
        omega
      have hK : KA (fun cxW cyW cx3 => F_L_law_1186 N sc L (fun cxW cyW cx3 => F_L_law_18 N sc L n cxW cyW cx3) cxW cyW cx3) (nI i) := by
        intro g2 x2 y2 hx2 hy2 hg2
        show F_L_law_18 N sc L n x2 y2 (nI i + nI 5) = some ()
        rw [(nI_add i 5)]
        exact ih (i + 5) g2 x2 y2 hx2 hy2 hg2 (by omega) (by omega)
      refine Eq.trans (if_neg hc) ?_
      refine Eq.trans (q_ck (by omega) (by omega)) ?_
      refine ite_ok (ar_0 hN sc hL hi hK hx hy hg) ?_
      refine ite_ok (ar_1 hN sc hL hi hK hx hy hg) ?_
      refine ite_ok (ar_2 hN sc hL hi hK hx hy hg) ?_
      refine ite_ok (ar_3 hN sc hL hi hK hx hy hg) ?_
      refine ite_ok (ar_4 hN sc hL hi hK hx hy hg) ?_
      refine ite_ok (ar_5 hN sc hL hi hK hx hy hg) ?_
      refine ite_ok (ar_6 hN sc hL hi hK hx hy hg) ?_
      refine ite_ok (ar_7 hN sc hL hi hK hx hy hg) ?_
      refine ite_ok (ar_8 hN sc hL hi hK hx hy hg) ?_
      refine ite_ok (ar_9 hN sc hL hi hK hx hy hg) ?_
      refine ite_ok (ar_10 hN sc hL hi hK hx hy hg) ?_
      refine ite_ok (ar_11 hN sc hL hi hK hx hy hg) ?_
      refine ite_ok (ar_12 hN sc hL hi hK hx hy hg) ?_
      refine ite_ok (ar_13 hN sc hL hi hK hx hy hg) ?_
      refine ite_ok (ar_14 hN sc hL hi hK hx hy hg) ?_
      refine ite_ok (ar_15 hN sc hL hi hK hx hy hg) ?_
      refine ite_ok (ar_16 hN sc hL hi hK hx hy hg) ?_
      refine ite_ok (ar_17 hN sc hL hi hK hx hy hg) ?_
      refine ite_ok (ar_18 hN sc hL hi hK hx hy hg) ?_
      refine ite_ok (ar_19 hN sc hL hi hK hx hy hg) ?_
      refine ite_ok (ar_20 hN sc hL hi hK hx hy hg) ?_
      refine ite_ok (ar_21 hN sc hL hi hK hx hy hg) ?_
      refine ite_ok (ar_22 hN sc hL hi hK hx hy hg) ?_
      refine ite_ok (ar_23 hN sc hL hi hK hx hy hg) ?_
      refine ite_ok (ar_24 hN sc hL hi hK hx hy hg) ?_
      refine ite_ok (ar_25 hN sc hL hi hK hx hy hg) ?_
      refine ite_ok (ar_26 hN sc hL hi hK hx hy hg) ?_
      refine ite_ok (ar_27 hN sc hL hi hK hx hy hg) ?_
      refine ite_ok (ar_28 hN sc hL hi hK hx hy hg) ?_
      refine ite_ok (ar_29 hN sc hL hi hK hx hy hg) ?_
      refine ite_ok (ar_30 hN sc hL hi hK hx hy hg) ?_
      refine ite_ok (ar_31 hN sc hL hi hK hx hy hg) ?_
      refine ite_ok (ar_32 hN sc hL hi hK hx hy hg) ?_
      refine ite_ok (ar_33 hN sc hL hi hK hx hy hg) ?_
      refine ite_ok (ar_34 hN sc hL hi hK hx hy hg) ?_
      refine ite_ok (ar_35 hN sc hL hi hK hx hy hg) ?_
      refine ite_ok (ar_36 hN sc hL hi hK hx hy hg) ?_
      refine ite_ok (ar_37 hN sc hL hi hK hx hy hg) ?_
      exact hK g x y hx hy hg
    · refine if_pos ?_
      by_cases h5 : 5 ≤ L
      · rw [(q_sub h5), (q_lt (by omega) (by omega))]
        omega
      · exact Int32.lt_of_lt_of_le (pk_sneg (by decide) (by omega)) (nI_pos' (show i < 2 ^ 31 by omega))
def TA0 : TA := (0, 0, fun _ => 0, fun _ => 0, fun _ => 0, fun _ => false, fun _ _ => 0)
theorem Good_0 : Good TA0 := ⟨Nat.zero_le _, show 0 < 100000 by decide, fun _ => Nat.zero_le _, fun _ => Nat.zero_le _, fun _ => Nat.zero_le _, fun _ _ => Nat.zero_le _, fun _ _ => ⟨rfl, rfl, rfl, rfl, fun _ => rfl⟩, fun _ _ _ => rfl⟩
theorem em_zero : em TA0 = zF := by
  funext k
  have h : emN TA0 k = 0 := by
    unfold emN
    by_cases h0 : k = 0
    · exact (if_pos h0).trans rfl
    refine (if_neg h0).trans ?_
    by_cases h1 : k = 1
    · exact (if_pos h1).trans rfl
    refine (if_neg h1).trans ?_
    generalize (k - 2) % 12 = w
    generalize (k - 2) / 12 = c
    rcases w with _ | _ | _ | _ | w <;> rfl
  show nI (emN TA0 k) = 0
  rw [h]
  all_goals rfl
theorem msk_zero0 : mskTo (fun _ => false) 6 = 0 := by decide
theorem TW_zero : zeroT = TW TA0 := TW_ext (fun _ => rfl) (fun _ => rfl) (fun _ => rfl) (fun t => (congrArg nI ((mskTo_congr (f := isW TA0 t 1) (g := fun _ => false) (fun _ _ => rfl)).trans msk_zero0)).symm) (fun t => (congrArg nI ((mskTo_congr (f := isW TA0 t 2) (g := fun _ => false) (fun _ _ => rfl)).trans msk_zero0)).symm) rfl (congrArg nI (show mskTo (live TA0) 6 = 0 by decide)).symm rfl
def g0 : GS := (TA0, TA0, false, zF, 0, zF, 0, zF)
theorem GI_0 : GI g0 := ⟨Good_0, Nat.zero_le _, Good_0, Nat.zero_le _, Nat.zero_le _, Nat.zero_le _⟩
theorem XR_0 : XR g0 zeroX := XR.mk TA0 zF Good_0 (by
  show (zeroT, zeroT, zeroT, (0 : Int32), zeroL, zF, (0 : Int32), zF, zF) = (TW TA0, TW TA0, TW TA0, bI false, (zF, nI 0), zF, nI 0, zF, zF)
  rw [← TW_zero]
  all_goals rfl)
theorem MR_0 : MR g0 zeroM := MR.mk TA0 TA0 0 0 zF zF 0 Good_0 Good_0 (by
  show (zF, zF, zF, zF, (0 : Int32), zF, zF, zF, (0 : Int32), (0 : Int32), (0 : Int32), (0 : Int32), zF, zF, (0 : Int32)) = (em TA0, em TA0, em TA0, em TA0, bI false, zF, zF, zF, nI 0, nI 0, (0 : Int32), (0 : Int32), zF, zF, (0 : Int32))
  rw [em_zero]
  all_goals rfl)
theorem law_true {L : Nat} (hL : L ≤ 2560) (sc : FA) : F_L_law 5000 sc L zeroX zeroM = some () := law_loop (by decide) sc hL 5000 0 g0 zeroX zeroM XR_0 MR_0 GI_0 (Nat.zero_le _) (by omega)
