/-! towns by lot -/
def nz (z : Int32) : Int32 := z * nI 1664525 + nI 1013904223
def dv (z : Int32) : Nat := z.toBitVec.toNat % 2147483648 / 256 % 3
theorem dv_lt (z : Int32) : dv z < 3 := Nat.mod_lt _ (by decide)
theorem dv_is (z : Int32) : ((z &&& nI 2147483647) / nI 256) - ((z &&& nI 2147483647) / nI 256) / nI 3 * nI 3 = nI (dv z) := by
  have h1 : z &&& nI 2147483647 = nI (z.toBitVec.toNat % 2 ^ 31) := pk_and z 31 (by decide)
  have hm : z.toBitVec.toNat % 2 ^ 31 < 2147483648 := Nat.mod_lt _ (by decide)
  have hd : z.toBitVec.toNat % 2 ^ 31 / 256 < 2147483648 := Nat.lt_of_le_of_lt (Nat.div_le_self _ _) hm
  rw [h1, pk_div hm (by decide) (by decide)]
  try rw [q_rem hd (by decide) (by decide)]
  rfl
/-- words by lot: of one, of some topics; of all who live -/
def drawC (a : TA) (c : Nat) (z : Int32) : Nat → TA × Int32
  | 0 => (a, z)
  | t + 1 => (sW (drawC a c z t).1 (updW (aW (drawC a c z t).1) c t (dv (nz (drawC a c z t).2))), nz (drawC a c z t).2)
def drawA (a : TA) (z : Int32) : Nat → TA × Int32
  | 0 => (a, z)
  | c + 1 => if live a c then drawC (drawA a z c).1 c (drawA a z c).2 8 else drawA a z c
theorem drawC_n (a : TA) (c : Nat) (z : Int32) : ∀ t, aN (drawC a c z t).1 = aN a ∧ aY (drawC a c z t).1 = aY a ∧ aD (drawC a c z t).1 = aD a := by
  intro t
  induction t with
  | zero => exact ⟨rfl, rfl, rfl⟩
  | succ t ih => exact ih
theorem drawA_n (a : TA) (z : Int32) : ∀ c, aN (drawA a z c).1 = aN a ∧ aY (drawA a z c).1 = aY a ∧ aD (drawA a z c).1 = aD a := by
  intro c
  induction c with
  | zero => exact ⟨rfl, rfl, rfl⟩
  | succ c ih =>
    show aN (if _ then _ else _ : TA × Int32).1 = _ ∧ aY (if _ then _ else _ : TA × Int32).1 = _ ∧ aD (if _ then _ else _ : TA × Int32).1 = _
    split
    · have := drawC_n (drawA a z c).1 c (drawA a z c).2 8
      exact ⟨this.1.trans ih.1, this.2.1.trans ih.2.1, this.2.2.trans ih.2.2⟩
    · exact ih
theorem Good_put {a : TA} (h : Good a) {c t w : Nat} (hc : c < aN a) (ht : t < 8) (hw : w ≤ 2) : Good (sW a (updW (aW a) c t w)) := by
  obtain ⟨hn, hy, hk, hf, ha, hww, h0, h8⟩ := h
  refine ⟨hn, hy, hk, hf, ha, fun i j => ?_, fun i hi => ?_, fun i j hj => ?_⟩
  · show updW (aW a) c t w i j ≤ 2
    unfold updW
    split
    · exact hw
    · exact hww i j
  · obtain ⟨t1, t2, t3, t4, t5⟩ := h0 i hi
    refine ⟨t1, t2, t3, t4, fun j => ?_⟩
    show updW (aW a) c t w i j = 0
    unfold updW
    rw [if_neg (fun e => by have := e.1; have hi : aN a ≤ i := hi; omega)]
    exact t5 j
  · show updW (aW a) c t w i j = 0
    unfold updW
    rw [if_neg (fun e => by omega)]
    exact h8 i j hj
theorem Good_drawC {a : TA} (h : Good a) {c : Nat} (hc : c < aN a) (z : Int32) : ∀ t, t ≤ 8 → Good (drawC a c z t).1 := by
  intro t
  induction t with
  | zero => intro _; exact h
  | succ t ih =>
    intro ht
    have := dv_lt (nz (drawC a c z t).2)
    exact Good_put (ih (by omega)) (by rw [(drawC_n a c z t).1]; exact hc) (by omega) (by omega)
theorem Good_drawA {a : TA} (h : Good a) (z : Int32) : ∀ c, c ≤ aN a → Good (drawA a z c).1 := by
  intro c
  induction c with
  | zero => intro _; exact h
  | succ c ih =>
    intro hc
    show Good (if _ then _ else _ : TA × Int32).1
    split
    · exact Good_drawC (ih (by omega)) (by rw [(drawA_n a z c).1]; omega) _ 8 (by decide)
    · exact ih (by omega)
theorem g_draw {N : Nat} (hN : 2000 ≤ N) {a : TA} (hg : Good a) (z : Int32) : F_X1_drawWords N (TW a) z = some ((drawA a z (aN a)).2, TW (drawA a z (aN a)).1) := by
  have hn := hg.1
  unfold F_X1_drawWords
  refine loop_up (fun n (x : TownS × Int32 × Int32) => F_X1_drawWords_4 N n x.1 x.2.1 x.2.2) (fun i => (TW (drawA a z i).1, (drawA a z i).2, nI i)) (aN a) _ ?_ ?_ N 0 (Nat.zero_le _) (by omega)
  · intro n c hc
    show F_X1_drawWords_4 N (n + 1) (TW (drawA a z c).1) (drawA a z c).2 (nI c) = F_X1_drawWords_4 N n (TW (if live a c then drawC (drawA a z c).1 c (drawA a z c).2 8 else drawA a z c).1) (if live a c then drawC (drawA a z c).1 c (drawA a z c).2 8 else drawA a z c).2 (nI (c + 1))
    have hb := Good_drawA hg z c (Nat.le_of_lt hc)
    have hm := drawA_n a z c
    have hl : live (drawA a z c).1 c = live a c := by unfold live; rw [hm.1, hm.2.2]
    generalize drawA a z c = q at *
    obtain ⟨b, w⟩ := q
    have hbn : aN b = aN a := hm.1
    have hb : Good b := hb
    have hl : live b c = live a c := hl
    rw [F_X1_drawWords_4]
    try rw [TW_n]
    rw [hbn, if_neg (by rw [q_le (by omega) (by omega)]; omega), g_isLiving N hb (by omega)]
    try simp only [q_bs]
    repeat (first | rw [i_b0] | rw [i_nb0])
    rw [hl]
    unfold F_X1_drawWords_64
    try rw [nI_add c 1]
    cases live a c
    · rw [if_neg (fun h => h rfl)]; rfl
    · rw [if_pos (by decide), if_pos (by first | rfl | decide)]
      refine loop_up (fun n2 (x : TownS × Int32 × Int32) => F_X1_drawWords_26 N (fun ctW cx2 cx3 => F_X1_drawWords_4 N n ctW cx2 cx3) n2 x.1 x.2.1 (nI c) x.2.2) (fun i => (TW (drawC b c w i).1, (drawC b c w i).2, nI i)) 8 _ ?_ ?_ N 0 (Nat.zero_le _) (by omega)
      · intro n2 t ht
        show F_X1_drawWords_26 N (fun ctW cx2 cx3 => F_X1_drawWords_4 N n ctW cx2 cx3) (n2 + 1) (TW (drawC b c w t).1) (drawC b c w t).2 (nI c) (nI t) = F_X1_drawWords_26 N (fun ctW cx2 cx3 => F_X1_drawWords_4 N n ctW cx2 cx3) n2 (TW (sW (drawC b c w t).1 (updW (aW (drawC b c w t).1) c t (dv (nz (drawC b c w t).2))))) (nz (drawC b c w t).2) (nI c) (nI (t + 1))
        generalize drawC b c w t = q2
        obtain ⟨b2, w2⟩ := q2
        have hd := dv_is (nz w2)
        have hdl := dv_lt (nz w2)
        unfold nz at hd
        rw [F_X1_drawWords_26, if_neg (by rw [q_le (by decide) (by omega)]; omega), hd]
        try rw [nI_add t 1]
        have hp := g_put N b2 (i := c) (t := t) (w := dv (nz w2)) (by omega) ht (by omega)
        unfold nz at hp
        rw [hp]; rfl
      · intro n2
        show F_X1_drawWords_26 N (fun ctW cx2 cx3 => F_X1_drawWords_4 N n ctW cx2 cx3) (n2 + 1) (TW (drawC b c w 8).1) (drawC b c w 8).2 (nI c) (nI 8) = _
        rw [F_X1_drawWords_26, if_pos (by decide)]
        unfold F_X1_drawWords_64
        try rw [nI_add c 1]
  · intro n
    have hm := drawA_n a z (aN a)
    show F_X1_drawWords_4 N (n + 1) (TW (drawA a z (aN a)).1) (drawA a z (aN a)).2 (nI (aN a)) = _
    rw [F_X1_drawWords_4]
    try rw [TW_n]
    rw [hm.1, if_pos (by rw [q_le (by omega) (by omega)]; exact Nat.le_refl _)]
