set_option maxHeartbeats 8000000 in
set_option maxRecDepth 100000 in
theorem law_body {p : Program} {e : Env} {s : State} {m : MethodId} {below : List Frame} {meth : Method} {c : Code} (l : Launch) (dC : Nat → ClassId) (dI : Nat → Nat → Nat) (cI : ClassId) (sf : SFP) (N : Nat) {bs L : Nat} {xs : Nat → Int32} (C0 : lw_At p s m meth c bs L xs) (a b : Nat → Nat) (xW : XS) (yW : MS) (hNN : NN s) (hSF : SF sf (fun q : Nat => s.heap.size ≤ q) s s.heap) (hK : va_K (dC, dI) vwCl [(cI, .int)] s) (r : Unit) (hF : F_L_law N xs L xW yW = some r) {H : Heap} {locs : List Loc} (hP : va_P (dC, dI) vwCl (cwX cI a xW ++ cwM cI b yW) H) (hD : va_D (fun q : Nat => s.heap.size ≤ q) (cwX cI a xW ++ cwM cI b yW)) (hS : va_S (fun q : Nat => s.heap.size ≤ q) s.heap H locs) {ls : Array Slot} (hl : lv_has ls 4 [(2, .ref (b 0)), (1, .ref (a 0)), (0, .ref bs)]) : W p l e room_1 s m #[Value.ref bs] below meth c H locs 40 1000 (lw_Z below #[Value.ref bs] s) (F0 m 16 ls []) := by
  obtain ⟨hx, hb, hr, hml, hown, hts0, hX, hbl, hlocks, hgv⟩ := id C0
  have hown : s.vm.findClass RL = some m.cls := hown
  have hts : ∀ w ∈ wsL_law, w.before #[Value.ref bs] s = true := fun w h => hts0 w (wsL_law_in w h)
  have hbA : ¬ (fun q : Nat => s.heap.size ≤ q) bs := Nat.not_le.mpr hbl
  obtain ⟨A, hAe⟩ : ∃ A : Nat → Prop, A = fun q : Nat => s.heap.size ≤ q := ⟨_, rfl⟩
  rw [← hAe] at hD hS hSF hbA
  have hA : ∀ q : Nat, s.heap.size ≤ q → A q := fun q h => by rw [hAe]; exact h
  rw [F_L_law] at hF
  refine lv_iconst (v := nI 0) hx hb dL_law_16 (by decide) ?_
  refine vW_have (fun R av Q => ∀ (n18 : Nat) (xW : XS) (yW : MS) (x3 : Int32) (H : Heap) (locs : List Loc) (ls : Array Slot), F_L_law_18 N xs L n18 xW yW x3 = some r → va_P (dC, dI) vwCl (cwX cI a xW ++ cwM cI b yW) H → va_D A (cwX cI a xW ++ cwM cI b yW) → va_S A s.heap H locs → lv_has ls 4 [(0, .ref bs), (1, .ref (a 0)), (2, .ref (b 0)), (3, .int x3)] → W p l e R s m av below meth c H locs 40 1000 Q (F0 m 18 ls [])) ?_ (fun kJ18 => ?_)
  · intro n18
    induction n18 with
    | zero => intro xW yW x3 H locs ls hF; exact nn hF
    | succ n18 ih18 =>
      intro xW yW x3 H locs ls hF hP hD hS hl
      rw [F_L_law_18] at hF
      refine lv_iload_n hx hb dL_law_18 rfl (lv_at hl 3 rfl) ?_
      refine lv_aload_n hx hb dL_law_19 rfl (lv_at hl 0 rfl) ?_
      refine va_slen hx hb hX hbl hbA hS dL_law_20 ?_
      refine lv_iconst (v := nI 5) hx hb dL_law_21 (by decide) ?_
      refine lv_isub hx hb dL_law_22 ?_
      refine lv_icmp_gt (tgt := 1192) hx hb dL_law_23 (by decide) (fun hc => ?_) (fun hc => ?_)
      · have hF := ift hc hF
        refine lv_iconst (v := nI 1) hx hb dL_law_1192 (by decide) ?_
        refine va_forget (fun q hq => by have := hS.2.2 q hq; rw [hAe] at this; exact this) ?_
        refine W.widen (k := 600000) (n := 7302250) (Nat.le_of_ble_eq_true rfl) (Nat.le_of_ble_eq_true rfl) ?_
        exact lw_ret hx hb hr hlocks dL_law_1193
      · have hF := iff_ hc hF
        refine lv_aload_n hx hb dL_law_26 rfl (lv_at hl 0 rfl) ?_
        refine lv_iload_n hx hb dL_law_27 rfl (lv_at hl 3 rfl) ?_
        refine cki hF (fun hi hF => ?_)
        refine va_sld hx hb hX hbl hbA hS hi dL_law_28 ?_
        refine lv_bipush (v := nI 63) hx hb dL_law_29 (by decide) ?_
        refine lv_iand hx hb dL_law_31 ?_
        refine vW_have (fun R av Q => ∀ (xW : XS) (yW : MS) (x3 : Int32) (H : Heap) (locs : List Loc) (ls : Array Slot), F_L_law_1186 N xs L (fun cxW cyW cx3 => F_L_law_18 N xs L n18 cxW cyW cx3) xW yW x3 = some r → va_P (dC, dI) vwCl (cwX cI a xW ++ cwM cI b yW) H → va_D A (cwX cI a xW ++ cwM cI b yW) → va_S A s.heap H locs → lv_has ls 4 [(0, .ref bs), (1, .ref (a 0)), (2, .ref (b 0)), (3, .int x3)] → W p l e R s m av below meth c H locs 40 1000 Q (F0 m 1186 ls [])) ?_ (fun kJ1186 => ?_)
        · 
          intro xW yW x3 H locs ls hF hP hD hS hl
          rw [F_L_law_1186] at hF
          refine lv_iinc (v := x3 + (nI 5)) (lv' := [(3, .int (x3 + (nI 5))), (0, .ref bs), (1, .ref (a 0)), (2, .ref (b 0))]) hx hb dL_law_1186 hl (k := 3) rfl (by rfl) (by decide) rfl (fun ls hl => ?_)
          refine lv_goto (tgt := 18) hx hb dL_law_1189 (by decide) ?_
          exact ih18 xW yW (x3 + (nI 5)) _ _ _ hF hP hD hS (lv_sub hl [1, 2, 3, 0] rfl)
        by_cases hc0 : ((xs x3.toNatClampNeg) &&& (nI 63)) = nI 0
        · have hF := ift hc0 hF
          refine lv_tableIn (off := 168) (tgt := 200) hx hb dL_law_32 (by rw [hc0]; decide) (by rw [hc0]; decide) (by rw [hc0]; rfl) (by decide) ?_
          exact law_a0 l dC dI cI sf N C0 a b hNN A hAe hSF hK r (fun cxW cyW cx3 => F_L_law_1186 N xs L (fun cxW cyW cx3 => F_L_law_18 N xs L n18 cxW cyW cx3) cxW cyW cx3) kJ1186 xW yW x3 hF hP hD hS hl
        · have hF := iff_ hc0 hF
          by_cases hc1 : ((xs x3.toNatClampNeg) &&& (nI 63)) = nI 1
          · have hF := ift hc1 hF
            refine lv_tableIn (off := 191) (tgt := 223) hx hb dL_law_32 (by rw [hc1]; decide) (by rw [hc1]; decide) (by rw [hc1]; rfl) (by decide) ?_
            exact law_a1 l dC dI cI sf N C0 a b hNN A hAe hSF hK r (fun cxW cyW cx3 => F_L_law_1186 N xs L (fun cxW cyW cx3 => F_L_law_18 N xs L n18 cxW cyW cx3) cxW cyW cx3) kJ1186 xW yW x3 hF hP hD hS hl
          · have hF := iff_ hc1 hF
            by_cases hc2 : ((xs x3.toNatClampNeg) &&& (nI 63)) = nI 2
            · have hF := ift hc2 hF
              refine lv_tableIn (off := 204) (tgt := 236) hx hb dL_law_32 (by rw [hc2]; decide) (by rw [hc2]; decide) (by rw [hc2]; rfl) (by decide) ?_
              exact law_a2 l dC dI cI sf N C0 a b hNN A hAe hSF hK r (fun cxW cyW cx3 => F_L_law_1186 N xs L (fun cxW cyW cx3 => F_L_law_18 N xs L n18 cxW cyW cx3) cxW cyW cx3) kJ1186 xW yW x3 hF hP hD hS hl
            · have hF := iff_ hc2 hF
              by_cases hc3 : ((xs x3.toNatClampNeg) &&& (nI 63)) = nI 3
              · have hF := ift hc3 hF
                refine lv_tableIn (off := 237) (tgt := 269) hx hb dL_law_32 (by rw [hc3]; decide) (by rw [hc3]; decide) (by rw [hc3]; rfl) (by decide) ?_
                exact law_a3 l dC dI cI sf N C0 a b hNN A hAe hSF hK r (fun cxW cyW cx3 => F_L_law_1186 N xs L (fun cxW cyW cx3 => F_L_law_18 N xs L n18 cxW cyW cx3) cxW cyW cx3) kJ1186 xW yW x3 hF hP hD hS hl
              · have hF := iff_ hc3 hF
                by_cases hc4 : ((xs x3.toNatClampNeg) &&& (nI 63)) = nI 4
                · have hF := ift hc4 hF
                  refine lv_tableIn (off := 270) (tgt := 302) hx hb dL_law_32 (by rw [hc4]; decide) (by rw [hc4]; decide) (by rw [hc4]; rfl) (by decide) ?_
                  exact law_a4 l dC dI cI sf N C0 a b hNN A hAe hSF hK r (fun cxW cyW cx3 => F_L_law_1186 N xs L (fun cxW cyW cx3 => F_L_law_18 N xs L n18 cxW cyW cx3) cxW cyW cx3) kJ1186 xW yW x3 hF hP hD hS hl
                · have hF := iff_ hc4 hF
                  by_cases hc5 : ((xs x3.toNatClampNeg) &&& (nI 63)) = nI 5
                  · have hF := ift hc5 hF
                    refine lv_tableIn (off := 283) (tgt := 315) hx hb dL_law_32 (by rw [hc5]; decide) (by rw [hc5]; decide) (by rw [hc5]; rfl) (by decide) ?_
                    exact law_a5 l dC dI cI sf N C0 a b hNN A hAe hSF hK r (fun cxW cyW cx3 => F_L_law_1186 N xs L (fun cxW cyW cx3 => F_L_law_18 N xs L n18 cxW cyW cx3) cxW cyW cx3) kJ1186 xW yW x3 hF hP hD hS hl
                  · have hF := iff_ hc5 hF
                    by_cases hc6 : ((xs x3.toNatClampNeg) &&& (nI 63)) = nI 6
                    · have hF := ift hc6 hF
                      refine lv_tableIn (off := 326) (tgt := 358) hx hb dL_law_32 (by rw [hc6]; decide) (by rw [hc6]; decide) (by rw [hc6]; rfl) (by decide) ?_
                      exact law_a6 l dC dI cI sf N C0 a b hNN A hAe hSF hK r (fun cxW cyW cx3 => F_L_law_1186 N xs L (fun cxW cyW cx3 => F_L_law_18 N xs L n18 cxW cyW cx3) cxW cyW cx3) kJ1186 xW yW x3 hF hP hD hS hl
                    · have hF := iff_ hc6 hF
                      by_cases hc7 : ((xs x3.toNatClampNeg) &&& (nI 63)) = nI 7
                      · have hF := ift hc7 hF
                        refine lv_tableIn (off := 359) (tgt := 391) hx hb dL_law_32 (by rw [hc7]; decide) (by rw [hc7]; decide) (by rw [hc7]; rfl) (by decide) ?_
                        exact law_a7 l dC dI cI sf N C0 a b hNN A hAe hSF hK r (fun cxW cyW cx3 => F_L_law_1186 N xs L (fun cxW cyW cx3 => F_L_law_18 N xs L n18 cxW cyW cx3) cxW cyW cx3) kJ1186 xW yW x3 hF hP hD hS hl
                      · have hF := iff_ hc7 hF
                        by_cases hc8 : ((xs x3.toNatClampNeg) &&& (nI 63)) = nI 8
                        · have hF := ift hc8 hF
                          refine lv_tableIn (off := 382) (tgt := 414) hx hb dL_law_32 (by rw [hc8]; decide) (by rw [hc8]; decide) (by rw [hc8]; rfl) (by decide) ?_
                          exact law_a8 l dC dI cI sf N C0 a b hNN A hAe hSF hK r (fun cxW cyW cx3 => F_L_law_1186 N xs L (fun cxW cyW cx3 => F_L_law_18 N xs L n18 cxW cyW cx3) cxW cyW cx3) kJ1186 xW yW x3 hF hP hD hS hl
                        · have hF := iff_ hc8 hF
                          by_cases hc9 : ((xs x3.toNatClampNeg) &&& (nI 63)) = nI 9
                          · have hF := ift hc9 hF
                            refine lv_tableIn (off := 425) (tgt := 457) hx hb dL_law_32 (by rw [hc9]; decide) (by rw [hc9]; decide) (by rw [hc9]; rfl) (by decide) ?_
                            exact law_a9 l dC dI cI sf N C0 a b hNN A hAe hSF hK r (fun cxW cyW cx3 => F_L_law_1186 N xs L (fun cxW cyW cx3 => F_L_law_18 N xs L n18 cxW cyW cx3) cxW cyW cx3) kJ1186 xW yW x3 hF hP hD hS hl
                          · have hF := iff_ hc9 hF
                            by_cases hc10 : ((xs x3.toNatClampNeg) &&& (nI 63)) = nI 10
                            · have hF := ift hc10 hF
                              refine lv_tableIn (off := 448) (tgt := 480) hx hb dL_law_32 (by rw [hc10]; decide) (by rw [hc10]; decide) (by rw [hc10]; rfl) (by decide) ?_
                              exact law_a10 l dC dI cI sf N C0 a b hNN A hAe hSF hK r (fun cxW cyW cx3 => F_L_law_1186 N xs L (fun cxW cyW cx3 => F_L_law_18 N xs L n18 cxW cyW cx3) cxW cyW cx3) kJ1186 xW yW x3 hF hP hD hS hl
                            · have hF := iff_ hc10 hF
                              by_cases hc11 : ((xs x3.toNatClampNeg) &&& (nI 63)) = nI 11
                              · have hF := ift hc11 hF
                                refine lv_tableIn (off := 471) (tgt := 503) hx hb dL_law_32 (by rw [hc11]; decide) (by rw [hc11]; decide) (by rw [hc11]; rfl) (by decide) ?_
                                exact law_a11 l dC dI cI sf N C0 a b hNN A hAe hSF hK r (fun cxW cyW cx3 => F_L_law_1186 N xs L (fun cxW cyW cx3 => F_L_law_18 N xs L n18 cxW cyW cx3) cxW cyW cx3) kJ1186 xW yW x3 hF hP hD hS hl
                              · have hF := iff_ hc11 hF
                                by_cases hc12 : ((xs x3.toNatClampNeg) &&& (nI 63)) = nI 12
                                · have hF := ift hc12 hF
                                  refine lv_tableIn (off := 514) (tgt := 546) hx hb dL_law_32 (by rw [hc12]; decide) (by rw [hc12]; decide) (by rw [hc12]; rfl) (by decide) ?_
                                  exact law_a12 l dC dI cI sf N C0 a b hNN A hAe hSF hK r (fun cxW cyW cx3 => F_L_law_1186 N xs L (fun cxW cyW cx3 => F_L_law_18 N xs L n18 cxW cyW cx3) cxW cyW cx3) kJ1186 xW yW x3 hF hP hD hS hl
                                · have hF := iff_ hc12 hF
                                  by_cases hc13 : ((xs x3.toNatClampNeg) &&& (nI 63)) = nI 13
                                  · have hF := ift hc13 hF
                                    refine lv_tableIn (off := 537) (tgt := 569) hx hb dL_law_32 (by rw [hc13]; decide) (by rw [hc13]; decide) (by rw [hc13]; rfl) (by decide) ?_
                                    exact law_a13 l dC dI cI sf N C0 a b hNN A hAe hSF hK r (fun cxW cyW cx3 => F_L_law_1186 N xs L (fun cxW cyW cx3 => F_L_law_18 N xs L n18 cxW cyW cx3) cxW cyW cx3) kJ1186 xW yW x3 hF hP hD hS hl
                                  · have hF := iff_ hc13 hF
                                    by_cases hc14 : ((xs x3.toNatClampNeg) &&& (nI 63)) = nI 14
                                    · have hF := ift hc14 hF
                                      refine lv_tableIn (off := 560) (tgt := 592) hx hb dL_law_32 (by rw [hc14]; decide) (by rw [hc14]; decide) (by rw [hc14]; rfl) (by decide) ?_
                                      exact law_a14 l dC dI cI sf N C0 a b hNN A hAe hSF hK r (fun cxW cyW cx3 => F_L_law_1186 N xs L (fun cxW cyW cx3 => F_L_law_18 N xs L n18 cxW cyW cx3) cxW cyW cx3) kJ1186 xW yW x3 hF hP hD hS hl
                                    · have hF := iff_ hc14 hF
                                      by_cases hc15 : ((xs x3.toNatClampNeg) &&& (nI 63)) = nI 15
                                      · have hF := ift hc15 hF
                                        refine lv_tableIn (off := 583) (tgt := 615) hx hb dL_law_32 (by rw [hc15]; decide) (by rw [hc15]; decide) (by rw [hc15]; rfl) (by decide) ?_
                                        exact law_a15 l dC dI cI sf N C0 a b hNN A hAe hSF hK r (fun cxW cyW cx3 => F_L_law_1186 N xs L (fun cxW cyW cx3 => F_L_law_18 N xs L n18 cxW cyW cx3) cxW cyW cx3) kJ1186 xW yW x3 hF hP hD hS hl
                                      · have hF := iff_ hc15 hF
                                        by_cases hc16 : ((xs x3.toNatClampNeg) &&& (nI 63)) = nI 16
                                        · have hF := ift hc16 hF
                                          refine lv_tableIn (off := 606) (tgt := 638) hx hb dL_law_32 (by rw [hc16]; decide) (by rw [hc16]; decide) (by rw [hc16]; rfl) (by decide) ?_
                                          exact law_a16 l dC dI cI sf N C0 a b hNN A hAe hSF hK r (fun cxW cyW cx3 => F_L_law_1186 N xs L (fun cxW cyW cx3 => F_L_law_18 N xs L n18 cxW cyW cx3) cxW cyW cx3) kJ1186 xW yW x3 hF hP hD hS hl
                                        · have hF := iff_ hc16 hF
                                          by_cases hc17 : ((xs x3.toNatClampNeg) &&& (nI 63)) = nI 17
                                          · have hF := ift hc17 hF
                                            refine lv_tableIn (off := 629) (tgt := 661) hx hb dL_law_32 (by rw [hc17]; decide) (by rw [hc17]; decide) (by rw [hc17]; rfl) (by decide) ?_
                                            exact law_a17 l dC dI cI sf N C0 a b hNN A hAe hSF hK r (fun cxW cyW cx3 => F_L_law_1186 N xs L (fun cxW cyW cx3 => F_L_law_18 N xs L n18 cxW cyW cx3) cxW cyW cx3) kJ1186 xW yW x3 hF hP hD hS hl
                                          · have hF := iff_ hc17 hF
                                            by_cases hc18 : ((xs x3.toNatClampNeg) &&& (nI 63)) = nI 18
                                            · have hF := ift hc18 hF
                                              refine lv_tableIn (off := 652) (tgt := 684) hx hb dL_law_32 (by rw [hc18]; decide) (by rw [hc18]; decide) (by rw [hc18]; rfl) (by decide) ?_
                                              exact law_a18 l dC dI cI sf N C0 a b hNN A hAe hSF hK r (fun cxW cyW cx3 => F_L_law_1186 N xs L (fun cxW cyW cx3 => F_L_law_18 N xs L n18 cxW cyW cx3) cxW cyW cx3) kJ1186 xW yW x3 hF hP hD hS hl
                                            · have hF := iff_ hc18 hF
                                              by_cases hc19 : ((xs x3.toNatClampNeg) &&& (nI 63)) = nI 19
                                              · have hF := ift hc19 hF
                                                refine lv_tableIn (off := 665) (tgt := 697) hx hb dL_law_32 (by rw [hc19]; decide) (by rw [hc19]; decide) (by rw [hc19]; rfl) (by decide) ?_
                                                exact law_a19 l dC dI cI sf N C0 a b hNN A hAe hSF hK r (fun cxW cyW cx3 => F_L_law_1186 N xs L (fun cxW cyW cx3 => F_L_law_18 N xs L n18 cxW cyW cx3) cxW cyW cx3) kJ1186 xW yW x3 hF hP hD hS hl
                                              · have hF := iff_ hc19 hF
                                                by_cases hc20 : ((xs x3.toNatClampNeg) &&& (nI 63)) = nI 20
                                                · have hF := ift hc20 hF
                                                  refine lv_tableIn (off := 688) (tgt := 720) hx hb dL_law_32 (by rw [hc20]; decide) (by rw [hc20]; decide) (by rw [hc20]; rfl) (by decide) ?_
                                                  exact law_a20 l dC dI cI sf N C0 a b hNN A hAe hSF hK r (fun cxW cyW cx3 => F_L_law_1186 N xs L (fun cxW cyW cx3 => F_L_law_18 N xs L n18 cxW cyW cx3) cxW cyW cx3) kJ1186 xW yW x3 hF hP hD hS hl
                                                · have hF := iff_ hc20 hF
                                                  by_cases hc21 : ((xs x3.toNatClampNeg) &&& (nI 63)) = nI 21
                                                  · have hF := ift hc21 hF
                                                    refine lv_tableIn (off := 721) (tgt := 753) hx hb dL_law_32 (by rw [hc21]; decide) (by rw [hc21]; decide) (by rw [hc21]; rfl) (by decide) ?_
                                                    exact law_a21 l dC dI cI sf N C0 a b hNN A hAe hSF hK r (fun cxW cyW cx3 => F_L_law_1186 N xs L (fun cxW cyW cx3 => F_L_law_18 N xs L n18 cxW cyW cx3) cxW cyW cx3) kJ1186 xW yW x3 hF hP hD hS hl
                                                  · have hF := iff_ hc21 hF
                                                    by_cases hc22 : ((xs x3.toNatClampNeg) &&& (nI 63)) = nI 22
                                                    · have hF := ift hc22 hF
                                                      refine lv_tableIn (off := 744) (tgt := 776) hx hb dL_law_32 (by rw [hc22]; decide) (by rw [hc22]; decide) (by rw [hc22]; rfl) (by decide) ?_
                                                      exact law_a22 l dC dI cI sf N C0 a b hNN A hAe hSF hK r (fun cxW cyW cx3 => F_L_law_1186 N xs L (fun cxW cyW cx3 => F_L_law_18 N xs L n18 cxW cyW cx3) cxW cyW cx3) kJ1186 xW yW x3 hF hP hD hS hl
                                                    · have hF := iff_ hc22 hF
                                                      by_cases hc23 : ((xs x3.toNatClampNeg) &&& (nI 63)) = nI 23
                                                      · have hF := ift hc23 hF
                                                        refine lv_tableIn (off := 767) (tgt := 799) hx hb dL_law_32 (by rw [hc23]; decide) (by rw [hc23]; decide) (by rw [hc23]; rfl) (by decide) ?_
                                                        exact law_a23 l dC dI cI sf N C0 a b hNN A hAe hSF hK r (fun cxW cyW cx3 => F_L_law_1186 N xs L (fun cxW cyW cx3 => F_L_law_18 N xs L n18 cxW cyW cx3) cxW cyW cx3) kJ1186 xW yW x3 hF hP hD hS hl
                                                      · have hF := iff_ hc23 hF
                                                        by_cases hc24 : ((xs x3.toNatClampNeg) &&& (nI 63)) = nI 24
                                                        · have hF := ift hc24 hF
                                                          refine lv_tableIn (off := 780) (tgt := 812) hx hb dL_law_32 (by rw [hc24]; decide) (by rw [hc24]; decide) (by rw [hc24]; rfl) (by decide) ?_
                                                          exact law_a24 l dC dI cI sf N C0 a b hNN A hAe hSF hK r (fun cxW cyW cx3 => F_L_law_1186 N xs L (fun cxW cyW cx3 => F_L_law_18 N xs L n18 cxW cyW cx3) cxW cyW cx3) kJ1186 xW yW x3 hF hP hD hS hl
                                                        · have hF := iff_ hc24 hF
                                                          by_cases hc25 : ((xs x3.toNatClampNeg) &&& (nI 63)) = nI 25
                                                          · have hF := ift hc25 hF
                                                            refine lv_tableIn (off := 803) (tgt := 835) hx hb dL_law_32 (by rw [hc25]; decide) (by rw [hc25]; decide) (by rw [hc25]; rfl) (by decide) ?_
                                                            exact law_a25 l dC dI cI sf N C0 a b hNN A hAe hSF hK r (fun cxW cyW cx3 => F_L_law_1186 N xs L (fun cxW cyW cx3 => F_L_law_18 N xs L n18 cxW cyW cx3) cxW cyW cx3) kJ1186 xW yW x3 hF hP hD hS hl
                                                          · have hF := iff_ hc25 hF
                                                            by_cases hc26 : ((xs x3.toNatClampNeg) &&& (nI 63)) = nI 26
                                                            · have hF := ift hc26 hF
                                                              refine lv_tableIn (off := 826) (tgt := 858) hx hb dL_law_32 (by rw [hc26]; decide) (by rw [hc26]; decide) (by rw [hc26]; rfl) (by decide) ?_
                                                              exact law_a26 l dC dI cI sf N C0 a b hNN A hAe hSF hK r (fun cxW cyW cx3 => F_L_law_1186 N xs L (fun cxW cyW cx3 => F_L_law_18 N xs L n18 cxW cyW cx3) cxW cyW cx3) kJ1186 xW yW x3 hF hP hD hS hl
                                                            · have hF := iff_ hc26 hF
                                                              by_cases hc27 : ((xs x3.toNatClampNeg) &&& (nI 63)) = nI 27
                                                              · have hF := ift hc27 hF
                                                                refine lv_tableIn (off := 839) (tgt := 871) hx hb dL_law_32 (by rw [hc27]; decide) (by rw [hc27]; decide) (by rw [hc27]; rfl) (by decide) ?_
                                                                exact law_a27 l dC dI cI sf N C0 a b hNN A hAe hSF hK r (fun cxW cyW cx3 => F_L_law_1186 N xs L (fun cxW cyW cx3 => F_L_law_18 N xs L n18 cxW cyW cx3) cxW cyW cx3) kJ1186 xW yW x3 hF hP hD hS hl
                                                              · have hF := iff_ hc27 hF
                                                                by_cases hc28 : ((xs x3.toNatClampNeg) &&& (nI 63)) = nI 28
                                                                · have hF := ift hc28 hF
                                                                  refine lv_tableIn (off := 892) (tgt := 924) hx hb dL_law_32 (by rw [hc28]; decide) (by rw [hc28]; decide) (by rw [hc28]; rfl) (by decide) ?_
                                                                  exact law_a28 l dC dI cI sf N C0 a b hNN A hAe hSF hK r (fun cxW cyW cx3 => F_L_law_1186 N xs L (fun cxW cyW cx3 => F_L_law_18 N xs L n18 cxW cyW cx3) cxW cyW cx3) kJ1186 xW yW x3 hF hP hD hS hl
                                                                · have hF := iff_ hc28 hF
                                                                  by_cases hc29 : ((xs x3.toNatClampNeg) &&& (nI 63)) = nI 29
                                                                  · have hF := ift hc29 hF
                                                                    refine lv_tableIn (off := 946) (tgt := 978) hx hb dL_law_32 (by rw [hc29]; decide) (by rw [hc29]; decide) (by rw [hc29]; rfl) (by decide) ?_
                                                                    exact law_a29 l dC dI cI sf N C0 a b hNN A hAe hSF hK r (fun cxW cyW cx3 => F_L_law_1186 N xs L (fun cxW cyW cx3 => F_L_law_18 N xs L n18 cxW cyW cx3) cxW cyW cx3) kJ1186 xW yW x3 hF hP hD hS hl
                                                                  · have hF := iff_ hc29 hF
                                                                    by_cases hc30 : ((xs x3.toNatClampNeg) &&& (nI 63)) = nI 30
                                                                    · have hF := ift hc30 hF
                                                                      refine lv_tableIn (off := 970) (tgt := 1002) hx hb dL_law_32 (by rw [hc30]; decide) (by rw [hc30]; decide) (by rw [hc30]; rfl) (by decide) ?_
                                                                      exact law_a30 l dC dI cI sf N C0 a b hNN A hAe hSF hK r (fun cxW cyW cx3 => F_L_law_1186 N xs L (fun cxW cyW cx3 => F_L_law_18 N xs L n18 cxW cyW cx3) cxW cyW cx3) kJ1186 xW yW x3 hF hP hD hS hl
                                                                    · have hF := iff_ hc30 hF
                                                                      by_cases hc31 : ((xs x3.toNatClampNeg) &&& (nI 63)) = nI 31
                                                                      · have hF := ift hc31 hF
                                                                        refine lv_tableIn (off := 1013) (tgt := 1045) hx hb dL_law_32 (by rw [hc31]; decide) (by rw [hc31]; decide) (by rw [hc31]; rfl) (by decide) ?_
                                                                        exact law_a31 l dC dI cI sf N C0 a b hNN A hAe hSF hK r (fun cxW cyW cx3 => F_L_law_1186 N xs L (fun cxW cyW cx3 => F_L_law_18 N xs L n18 cxW cyW cx3) cxW cyW cx3) kJ1186 xW yW x3 hF hP hD hS hl
                                                                      · have hF := iff_ hc31 hF
                                                                        by_cases hc32 : ((xs x3.toNatClampNeg) &&& (nI 63)) = nI 32
                                                                        · have hF := ift hc32 hF
                                                                          refine lv_tableIn (off := 1036) (tgt := 1068) hx hb dL_law_32 (by rw [hc32]; decide) (by rw [hc32]; decide) (by rw [hc32]; rfl) (by decide) ?_
                                                                          exact law_a32 l dC dI cI sf N C0 a b hNN A hAe hSF hK r (fun cxW cyW cx3 => F_L_law_1186 N xs L (fun cxW cyW cx3 => F_L_law_18 N xs L n18 cxW cyW cx3) cxW cyW cx3) kJ1186 xW yW x3 hF hP hD hS hl
                                                                        · have hF := iff_ hc32 hF
                                                                          by_cases hc33 : ((xs x3.toNatClampNeg) &&& (nI 63)) = nI 33
                                                                          · have hF := ift hc33 hF
                                                                            refine lv_tableIn (off := 1049) (tgt := 1081) hx hb dL_law_32 (by rw [hc33]; decide) (by rw [hc33]; decide) (by rw [hc33]; rfl) (by decide) ?_
                                                                            exact law_a33 l dC dI cI sf N C0 a b hNN A hAe hSF hK r (fun cxW cyW cx3 => F_L_law_1186 N xs L (fun cxW cyW cx3 => F_L_law_18 N xs L n18 cxW cyW cx3) cxW cyW cx3) kJ1186 xW yW x3 hF hP hD hS hl
                                                                          · have hF := iff_ hc33 hF
                                                                            by_cases hc34 : ((xs x3.toNatClampNeg) &&& (nI 63)) = nI 34
                                                                            · have hF := ift hc34 hF
                                                                              refine lv_tableIn (off := 1062) (tgt := 1094) hx hb dL_law_32 (by rw [hc34]; decide) (by rw [hc34]; decide) (by rw [hc34]; rfl) (by decide) ?_
                                                                              exact law_a34 l dC dI cI sf N C0 a b hNN A hAe hSF hK r (fun cxW cyW cx3 => F_L_law_1186 N xs L (fun cxW cyW cx3 => F_L_law_18 N xs L n18 cxW cyW cx3) cxW cyW cx3) kJ1186 xW yW x3 hF hP hD hS hl
                                                                            · have hF := iff_ hc34 hF
                                                                              by_cases hc35 : ((xs x3.toNatClampNeg) &&& (nI 63)) = nI 35
                                                                              · have hF := ift hc35 hF
                                                                                refine lv_tableIn (off := 1105) (tgt := 1137) hx hb dL_law_32 (by rw [hc35]; decide) (by rw [hc35]; decide) (by rw [hc35]; rfl) (by decide) ?_
                                                                                exact law_a35 l dC dI cI sf N C0 a b hNN A hAe hSF hK r (fun cxW cyW cx3 => F_L_law_1186 N xs L (fun cxW cyW cx3 => F_L_law_18 N xs L n18 cxW cyW cx3) cxW cyW cx3) kJ1186 xW yW x3 hF hP hD hS hl
                                                                              · have hF := iff_ hc35 hF
                                                                                by_cases hc36 : ((xs x3.toNatClampNeg) &&& (nI 63)) = nI 36
                                                                                · have hF := ift hc36 hF
                                                                                  refine lv_tableIn (off := 1118) (tgt := 1150) hx hb dL_law_32 (by rw [hc36]; decide) (by rw [hc36]; decide) (by rw [hc36]; rfl) (by decide) ?_
                                                                                  exact law_a36 l dC dI cI sf N C0 a b hNN A hAe hSF hK r (fun cxW cyW cx3 => F_L_law_1186 N xs L (fun cxW cyW cx3 => F_L_law_18 N xs L n18 cxW cyW cx3) cxW cyW cx3) kJ1186 xW yW x3 hF hP hD hS hl
                                                                                · have hF := iff_ hc36 hF
                                                                                  by_cases hc37 : ((xs x3.toNatClampNeg) &&& (nI 63)) = nI 37
                                                                                  · have hF := ift hc37 hF
                                                                                    refine lv_tableIn (off := 1131) (tgt := 1163) hx hb dL_law_32 (by rw [hc37]; decide) (by rw [hc37]; decide) (by rw [hc37]; rfl) (by decide) ?_
                                                                                    exact law_a37 l dC dI cI sf N C0 a b hNN A hAe hSF hK r (fun cxW cyW cx3 => F_L_law_1186 N xs L (fun cxW cyW cx3 => F_L_law_18 N xs L n18 cxW cyW cx3) cxW cyW cx3) kJ1186 xW yW x3 hF hP hD hS hl
                                                                                  · have hF := iff_ hc37 hF
                                                                                    refine lv_tableOut (tgt := 1186) hx hb dL_law_32 (tb_out (lo := 0) (hi := 37) (by decide) (fun k h1 h2 => by rcases (show k = 0 ∨ k = 1 ∨ k = 2 ∨ k = 3 ∨ k = 4 ∨ k = 5 ∨ k = 6 ∨ k = 7 ∨ k = 8 ∨ k = 9 ∨ k = 10 ∨ k = 11 ∨ k = 12 ∨ k = 13 ∨ k = 14 ∨ k = 15 ∨ k = 16 ∨ k = 17 ∨ k = 18 ∨ k = 19 ∨ k = 20 ∨ k = 21 ∨ k = 22 ∨ k = 23 ∨ k = 24 ∨ k = 25 ∨ k = 26 ∨ k = 27 ∨ k = 28 ∨ k = 29 ∨ k = 30 ∨ k = 31 ∨ k = 32 ∨ k = 33 ∨ k = 34 ∨ k = 35 ∨ k = 36 ∨ k = 37 by omega) with rfl | rfl | rfl | rfl | rfl | rfl | rfl | rfl | rfl | rfl | rfl | rfl | rfl | rfl | rfl | rfl | rfl | rfl | rfl | rfl | rfl | rfl | rfl | rfl | rfl | rfl | rfl | rfl | rfl | rfl | rfl | rfl | rfl | rfl | rfl | rfl | rfl | rfl <;> assumption)) (by decide) ?_
                                                                                    exact kJ1186 xW yW x3 _ _ _ hF hP hD hS (lv_sub hl [0, 1, 2, 3] rfl)
  refine lv_istore_n (lv' := [(3, .int (nI 0)), (2, .ref (b 0)), (1, .ref (a 0)), (0, .ref bs)]) hx hb dL_law_17 rfl hl (by decide) rfl (fun ls hl => ?_)
  exact kJ18 N xW yW (nI 0) _ _ _ hF hP hD hS (lv_sub hl [3, 2, 1, 0] rfl)
