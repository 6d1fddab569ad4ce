set_option maxHeartbeats 8000000 in
set_option maxRecDepth 100000 in
theorem law_a12 {p : Program} {e : Env} {s : State} {m : MethodId} {below : List Frame} {meth : Method} {c : Code} (l : Launch) (dC : Nat → ClassId) (dI : Nat → Nat → Nat) (cI : ClassId) (sf : SFP) (N : Nat) {bs L : Nat} {xs : Nat → Int32} (C0 : lw_At p s m meth c bs L xs) (a b : Nat → Nat) (hNN : NN s) (A : Nat → Prop) (hAe : A = fun q : Nat => s.heap.size ≤ q) (hSF : SF sf A s s.heap) (hK : va_K (dC, dI) vwCl [(cI, .int)] s) (r : Unit) (kA : XS → MS → Int32 → Option Unit) (kJ1186 : ∀ (xW : XS) (yW : MS) (x3 : Int32) (H : Heap) (locs : List Loc) (ls : Array Slot), kA xW yW x3 = some r → va_P (dC, dI) vwCl (cwX cI a xW ++ cwM cI b yW) H → va_D A (cwX cI a xW ++ cwM cI b yW) → va_S A s.heap H locs → lv_has ls 4 [(0, .ref bs), (1, .ref (a 0)), (2, .ref (b 0)), (3, .int x3)] → W p l e room_1 s m #[Value.ref bs] below meth c H locs 40 1000 (lw_Z below #[Value.ref bs] s) (F0 m 1186 ls [])) (xW : XS) (yW : MS) (x3 : Int32) (hF : F_L_law_a12 N xs L kA xW yW x3 = some r) {H : Heap} {locs : List Loc} (hP : va_P (dC, dI) vwCl (cwX cI a xW ++ cwM cI b yW) H) (hD : va_D A (cwX cI a xW ++ cwM cI b yW)) (hS : va_S A s.heap H locs) {ls : Array Slot} (hl : lv_has ls 4 [(0, .ref bs), (1, .ref (a 0)), (2, .ref (b 0)), (3, .int x3)]) : W p l e room_1 s m #[Value.ref bs] below meth c H locs 40 1000 (lw_Z below #[Value.ref bs] s) (F0 m 546 ls []) := by
  obtain ⟨hx, hb, hr, hml, hown, hts0, hX, hbl, hlocks, hgv⟩ := id C0
  have hown : s.vm.findClass RL = some m.cls := hown
  have hts : ∀ w ∈ wsL_law, w.before #[Value.ref bs] s = true := fun w h => hts0 w (wsL_law_in w h)
  have hbA : ¬ A bs := by rw [hAe]; exact Nat.not_le.mpr hbl
  have hA : ∀ q : Nat, s.heap.size ≤ q → A q := fun q h => by rw [hAe]; exact h
  rw [F_L_law_a12] at hF
  refine lv_aload_n hx hb dL_law_546 rfl (lv_at hl 1 rfl) ?_
  refine lv_aload_n hx hb dL_law_547 rfl (lv_at hl 0 rfl) ?_
  refine lv_iload_n hx hb dL_law_548 rfl (lv_at hl 3 rfl) ?_
  refine lv_iconst (v := nI 1) hx hb dL_law_549 (by decide) ?_
  refine lv_iadd hx hb dL_law_550 ?_
  refine cki hF (fun hi hF => ?_)
  refine va_sld hx hb hX hbl hbA hS hi dL_law_551 ?_
  have hPc := hP.sub (ws' := (cwX cI a xW)) [0, 1, 2, 3, 4, 5, 6, 7, 8, 9, 10, 11, 12, 13, 14, 15, 16, 17, 18, 19, 20, 21, 22, 23] rfl
  have hDc := hD.sub (ws' := (cwX cI a xW)) [0, 1, 2, 3, 4, 5, 6, 7, 8, 9, 10, 11, 12, 13, 14, 15, 16, 17, 18, 19, 20, 21, 22, 23] (by decide) rfl
  have hFc := va_free (wc := (cwX cI a xW)) hD hS hA [0, 1, 2, 3, 4, 5, 6, 7, 8, 9, 10, 11, 12, 13, 14, 15, 16, 17, 18, 19, 20, 21, 22, 23] rfl
  refine bd hF (fun r552 hG hF => ?_)
  refine va_calli (va_runV (As := [.int (xs (x3 + (nI 1)).toNatClampNeg)]) (rest := []) ⟨hx, hb, hml, hown, hts⟩ (c_X2_deadThen l dC dI cI sf H.size N a xW (xs (x3 + (nI 1)).toNatClampNeg) r552 hG) (cwV 1 hts gL_law_X2_deadThen rfl rfl rfl (by decide +kernel) ⟨Nat.le_of_ble_eq_true rfl, Nat.le_of_ble_eq_true rfl⟩) ⟨fun a U g mk q => ⟨q.1, q.2.call⟩, va_recv hK hP (ci := 2) (q0 := 0) rfl rfl, fun U hU hW => ⟨rfl, PB.of hU hW hPc hK hDc hNN hSF hS hFc⟩⟩ rfl rfl hl.1 rfl (lv_room (Nat.le_of_ble_eq_true rfl)) dL_law_552 ⟨Nat.le_of_ble_eq_true rfl, Nat.le_of_ble_eq_true rfl⟩) hS (fun q _ h => hFc q h) hFc (fun z_ u_ t H locs ht hvm hw hB hz1 hk1 hS => ?_)
  subst z_
  obtain ⟨hP1, hD1⟩ := hB
  rw [ht] at hP1
  have hJ := vb_join (ws' := (cwX cI a r552.2 ++ cwM cI b yW)) hP hD [0, 1, 2, 3, 4, 5, 6, 7, 8, 9, 10, 11, 12, 13, 14, 15, 16, 17, 18, 19, 20, 21, 22, 23] [24, 25, 26, 27, 28, 29, 30, 31, 32, 33] [10, 11, 12, 13, 14, 15, 16, 17, 18, 19, 20, 21, 22, 23, 24, 25, 26, 27, 28, 29, 30, 31, 32, 33, 0, 1, 2, 3, 4, 5, 6, 7, 8, 9] rfl rfl (by decide) (by decide) hk1 hFc hP1 hD1 rfl (by decide) rfl
  clear hP hD hPc hDc hFc hP1 hD1 hk1 hz1 ht hvm hG
  obtain ⟨hP, hD⟩ := hJ
  refine lv_aload_n hx hb dL_law_555 rfl (lv_at hl 2 rfl) ?_
  refine lv_aload_n hx hb dL_law_556 rfl (lv_at hl 0 rfl) ?_
  refine lv_iload_n hx hb dL_law_557 rfl (lv_at hl 3 rfl) ?_
  refine lv_iconst (v := nI 1) hx hb dL_law_558 (by decide) ?_
  refine lv_iadd hx hb dL_law_559 ?_
  refine cki hF (fun hi hF => ?_)
  refine va_sld hx hb hX hbl hbA hS hi dL_law_560 ?_
  have hPc := hP.sub (ws' := (cwM cI b yW)) [24, 25, 26, 27, 28, 29, 30, 31, 32, 33] rfl
  have hDc := hD.sub (ws' := (cwM cI b yW)) [24, 25, 26, 27, 28, 29, 30, 31, 32, 33] (by decide) rfl
  have hFc := va_free (wc := (cwM cI b yW)) hD hS hA [24, 25, 26, 27, 28, 29, 30, 31, 32, 33] rfl
  refine bd hF (fun r561 hG hF => ?_)
  refine va_calli (va_runV (As := [.int (xs (x3 + (nI 1)).toNatClampNeg)]) (rest := [.int r552.1]) ⟨hx, hb, hml, hown, hts⟩ (c_X3_deadThen l dC dI cI sf H.size N b yW (xs (x3 + (nI 1)).toNatClampNeg) r561 hG) (cwV 1 hts gL_law_X3_deadThen rfl rfl rfl (by decide +kernel) ⟨Nat.le_of_ble_eq_true rfl, Nat.le_of_ble_eq_true rfl⟩) ⟨fun a U g mk q => ⟨q.1, q.2.call⟩, va_recv hK hP (ci := 3) (q0 := 24) rfl rfl, fun U hU hW => ⟨rfl, PB.of hU hW hPc hK hDc hNN hSF hS hFc⟩⟩ rfl rfl hl.1 rfl (lv_room (Nat.le_of_ble_eq_true rfl)) dL_law_561 ⟨Nat.le_of_ble_eq_true rfl, Nat.le_of_ble_eq_true rfl⟩) hS (fun q _ h => hFc q h) hFc (fun z_ u_ t H locs ht hvm hw hB hz1 hk1 hS => ?_)
  subst z_
  obtain ⟨hP1, hD1⟩ := hB
  rw [ht] at hP1
  have hJ := vb_join (ws' := (cwX cI a r552.2 ++ cwM cI b r561.2)) hP hD [24, 25, 26, 27, 28, 29, 30, 31, 32, 33] [0, 1, 2, 3, 4, 5, 6, 7, 8, 9, 10, 11, 12, 13, 14, 15, 16, 17, 18, 19, 20, 21, 22, 23] [0, 1, 2, 3, 4, 5, 6, 7, 8, 9, 10, 11, 12, 13, 14, 15, 16, 17, 18, 19, 20, 21, 22, 23, 24, 25, 26, 27, 28, 29, 30, 31, 32, 33] rfl rfl (by decide) (by decide) hk1 hFc hP1 hD1 rfl (by decide) rfl
  clear hP hD hPc hDc hFc hP1 hD1 hk1 hz1 ht hvm hG
  obtain ⟨hP, hD⟩ := hJ
  refine lv_icmp_eq (tgt := 1186) hx hb dL_law_564 (by decide) (fun hc => ?_) (fun hc => ?_)
  · have hF := ift hc hF
    exact kJ1186 r552.2 r561.2 x3 _ _ _ hF hP hD hS (lv_sub hl [0, 1, 2, 3] rfl)
  · have hF := iff_ hc hF
    refine lv_iconst (v := nI 0) hx hb dL_law_567 (by decide) ?_
    exact nn hF
set_option maxHeartbeats 8000000 in
set_option maxRecDepth 100000 in
theorem law_a13 {p : Program} {e : Env} {s : State} {m : MethodId} {below : List Frame} {meth : Method} {c : Code} (l : Launch) (dC : Nat → ClassId) (dI : Nat → Nat → Nat) (cI : ClassId) (sf : SFP) (N : Nat) {bs L : Nat} {xs : Nat → Int32} (C0 : lw_At p s m meth c bs L xs) (a b : Nat → Nat) (hNN : NN s) (A : Nat → Prop) (hAe : A = fun q : Nat => s.heap.size ≤ q) (hSF : SF sf A s s.heap) (hK : va_K (dC, dI) vwCl [(cI, .int)] s) (r : Unit) (kA : XS → MS → Int32 → Option Unit) (kJ1186 : ∀ (xW : XS) (yW : MS) (x3 : Int32) (H : Heap) (locs : List Loc) (ls : Array Slot), kA xW yW x3 = some r → va_P (dC, dI) vwCl (cwX cI a xW ++ cwM cI b yW) H → va_D A (cwX cI a xW ++ cwM cI b yW) → va_S A s.heap H locs → lv_has ls 4 [(0, .ref bs), (1, .ref (a 0)), (2, .ref (b 0)), (3, .int x3)] → W p l e room_1 s m #[Value.ref bs] below meth c H locs 40 1000 (lw_Z below #[Value.ref bs] s) (F0 m 1186 ls [])) (xW : XS) (yW : MS) (x3 : Int32) (hF : F_L_law_a13 N xs L kA xW yW x3 = some r) {H : Heap} {locs : List Loc} (hP : va_P (dC, dI) vwCl (cwX cI a xW ++ cwM cI b yW) H) (hD : va_D A (cwX cI a xW ++ cwM cI b yW)) (hS : va_S A s.heap H locs) {ls : Array Slot} (hl : lv_has ls 4 [(0, .ref bs), (1, .ref (a 0)), (2, .ref (b 0)), (3, .int x3)]) : W p l e room_1 s m #[Value.ref bs] below meth c H locs 40 1000 (lw_Z below #[Value.ref bs] s) (F0 m 569 ls []) := by
  obtain ⟨hx, hb, hr, hml, hown, hts0, hX, hbl, hlocks, hgv⟩ := id C0
  have hown : s.vm.findClass RL = some m.cls := hown
  have hts : ∀ w ∈ wsL_law, w.before #[Value.ref bs] s = true := fun w h => hts0 w (wsL_law_in w h)
  have hbA : ¬ A bs := by rw [hAe]; exact Nat.not_le.mpr hbl
  have hA : ∀ q : Nat, s.heap.size ≤ q → A q := fun q h => by rw [hAe]; exact h
  rw [F_L_law_a13] at hF
  refine lv_aload_n hx hb dL_law_569 rfl (lv_at hl 1 rfl) ?_
  refine lv_aload_n hx hb dL_law_570 rfl (lv_at hl 0 rfl) ?_
  refine lv_iload_n hx hb dL_law_571 rfl (lv_at hl 3 rfl) ?_
  refine lv_iconst (v := nI 1) hx hb dL_law_572 (by decide) ?_
  refine lv_iadd hx hb dL_law_573 ?_
  refine cki hF (fun hi hF => ?_)
  refine va_sld hx hb hX hbl hbA hS hi dL_law_574 ?_
  have hPc := hP.sub (ws' := (cwX cI a xW)) [0, 1, 2, 3, 4, 5, 6, 7, 8, 9, 10, 11, 12, 13, 14, 15, 16, 17, 18, 19, 20, 21, 22, 23] rfl
  have hDc := hD.sub (ws' := (cwX cI a xW)) [0, 1, 2, 3, 4, 5, 6, 7, 8, 9, 10, 11, 12, 13, 14, 15, 16, 17, 18, 19, 20, 21, 22, 23] (by decide) rfl
  have hFc := va_free (wc := (cwX cI a xW)) hD hS hA [0, 1, 2, 3, 4, 5, 6, 7, 8, 9, 10, 11, 12, 13, 14, 15, 16, 17, 18, 19, 20, 21, 22, 23] rfl
  refine bd hF (fun r575 hG hF => ?_)
  refine va_calli (va_runV (As := [.int (xs (x3 + (nI 1)).toNatClampNeg)]) (rest := []) ⟨hx, hb, hml, hown, hts⟩ (c_X2_lasts l dC dI cI sf H.size N a xW (xs (x3 + (nI 1)).toNatClampNeg) r575 hG) (cwV 1 hts gL_law_X2_lasts rfl rfl rfl (by decide +kernel) ⟨Nat.le_of_ble_eq_true rfl, Nat.le_of_ble_eq_true rfl⟩) ⟨fun a U g mk q => ⟨q.1, q.2.call⟩, va_recv hK hP (ci := 2) (q0 := 0) rfl rfl, fun U hU hW => ⟨rfl, PB.of hU hW hPc hK hDc hNN hSF hS hFc⟩⟩ rfl rfl hl.1 rfl (lv_room (Nat.le_of_ble_eq_true rfl)) dL_law_575 ⟨Nat.le_of_ble_eq_true rfl, Nat.le_of_ble_eq_true rfl⟩) hS (fun q _ h => hFc q h) hFc (fun z_ u_ t H locs ht hvm hw hB hz1 hk1 hS => ?_)
  subst z_
  obtain ⟨hP1, hD1⟩ := hB
  rw [ht] at hP1
  have hJ := vb_join (ws' := (cwX cI a r575.2 ++ cwM cI b yW)) hP hD [0, 1, 2, 3, 4, 5, 6, 7, 8, 9, 10, 11, 12, 13, 14, 15, 16, 17, 18, 19, 20, 21, 22, 23] [24, 25, 26, 27, 28, 29, 30, 31, 32, 33] [10, 11, 12, 13, 14, 15, 16, 17, 18, 19, 20, 21, 22, 23, 24, 25, 26, 27, 28, 29, 30, 31, 32, 33, 0, 1, 2, 3, 4, 5, 6, 7, 8, 9] rfl rfl (by decide) (by decide) hk1 hFc hP1 hD1 rfl (by decide) rfl
  clear hP hD hPc hDc hFc hP1 hD1 hk1 hz1 ht hvm hG
  obtain ⟨hP, hD⟩ := hJ
  refine lv_aload_n hx hb dL_law_578 rfl (lv_at hl 2 rfl) ?_
  refine lv_aload_n hx hb dL_law_579 rfl (lv_at hl 0 rfl) ?_
  refine lv_iload_n hx hb dL_law_580 rfl (lv_at hl 3 rfl) ?_
  refine lv_iconst (v := nI 1) hx hb dL_law_581 (by decide) ?_
  refine lv_iadd hx hb dL_law_582 ?_
  refine cki hF (fun hi hF => ?_)
  refine va_sld hx hb hX hbl hbA hS hi dL_law_583 ?_
  have hPc := hP.sub (ws' := (cwM cI b yW)) [24, 25, 26, 27, 28, 29, 30, 31, 32, 33] rfl
  have hDc := hD.sub (ws' := (cwM cI b yW)) [24, 25, 26, 27, 28, 29, 30, 31, 32, 33] (by decide) rfl
  have hFc := va_free (wc := (cwM cI b yW)) hD hS hA [24, 25, 26, 27, 28, 29, 30, 31, 32, 33] rfl
  refine bd hF (fun r584 hG hF => ?_)
  refine va_calli (va_runV (As := [.int (xs (x3 + (nI 1)).toNatClampNeg)]) (rest := [.int r575.1]) ⟨hx, hb, hml, hown, hts⟩ (c_X3_lasts l dC dI cI sf H.size N b yW (xs (x3 + (nI 1)).toNatClampNeg) r584 hG) (cwV 1 hts gL_law_X3_lasts rfl rfl rfl (by decide +kernel) ⟨Nat.le_of_ble_eq_true rfl, Nat.le_of_ble_eq_true rfl⟩) ⟨fun a U g mk q => ⟨q.1, q.2.call⟩, va_recv hK hP (ci := 3) (q0 := 24) rfl rfl, fun U hU hW => ⟨rfl, PB.of hU hW hPc hK hDc hNN hSF hS hFc⟩⟩ rfl rfl hl.1 rfl (lv_room (Nat.le_of_ble_eq_true rfl)) dL_law_584 ⟨Nat.le_of_ble_eq_true rfl, Nat.le_of_ble_eq_true rfl⟩) hS (fun q _ h => hFc q h) hFc (fun z_ u_ t H locs ht hvm hw hB hz1 hk1 hS => ?_)
  subst z_
  obtain ⟨hP1, hD1⟩ := hB
  rw [ht] at hP1
  have hJ := vb_join (ws' := (cwX cI a r575.2 ++ cwM cI b r584.2)) hP hD [24, 25, 26, 27, 28, 29, 30, 31, 32, 33] [0, 1, 2, 3, 4, 5, 6, 7, 8, 9, 10, 11, 12, 13, 14, 15, 16, 17, 18, 19, 20, 21, 22, 23] [0, 1, 2, 3, 4, 5, 6, 7, 8, 9, 10, 11, 12, 13, 14, 15, 16, 17, 18, 19, 20, 21, 22, 23, 24, 25, 26, 27, 28, 29, 30, 31, 32, 33] rfl rfl (by decide) (by decide) hk1 hFc hP1 hD1 rfl (by decide) rfl
  clear hP hD hPc hDc hFc hP1 hD1 hk1 hz1 ht hvm hG
  obtain ⟨hP, hD⟩ := hJ
  refine lv_icmp_eq (tgt := 1186) hx hb dL_law_587 (by decide) (fun hc => ?_) (fun hc => ?_)
  · have hF := ift hc hF
    exact kJ1186 r575.2 r584.2 x3 _ _ _ hF hP hD hS (lv_sub hl [0, 1, 2, 3] rfl)
  · have hF := iff_ hc hF
    refine lv_iconst (v := nI 0) hx hb dL_law_590 (by decide) ?_
    exact nn hF
set_option maxHeartbeats 8000000 in
set_option maxRecDepth 100000 in
theorem law_a14 {p : Program} {e : Env} {s : State} {m : MethodId} {below : List Frame} {meth : Method} {c : Code} (l : Launch) (dC : Nat → ClassId) (dI : Nat → Nat → Nat) (cI : ClassId) (sf : SFP) (N : Nat) {bs L : Nat} {xs : Nat → Int32} (C0 : lw_At p s m meth c bs L xs) (a b : Nat → Nat) (hNN : NN s) (A : Nat → Prop) (hAe : A = fun q : Nat => s.heap.size ≤ q) (hSF : SF sf A s s.heap) (hK : va_K (dC, dI) vwCl [(cI, .int)] s) (r : Unit) (kA : XS → MS → Int32 → Option Unit) (kJ1186 : ∀ (xW : XS) (yW : MS) (x3 : Int32) (H : Heap) (locs : List Loc) (ls : Array Slot), kA xW yW x3 = some r → va_P (dC, dI) vwCl (cwX cI a xW ++ cwM cI b yW) H → va_D A (cwX cI a xW ++ cwM cI b yW) → va_S A s.heap H locs → lv_has ls 4 [(0, .ref bs), (1, .ref (a 0)), (2, .ref (b 0)), (3, .int x3)] → W p l e room_1 s m #[Value.ref bs] below meth c H locs 40 1000 (lw_Z below #[Value.ref bs] s) (F0 m 1186 ls [])) (xW : XS) (yW : MS) (x3 : Int32) (hF : F_L_law_a14 N xs L kA xW yW x3 = some r) {H : Heap} {locs : List Loc} (hP : va_P (dC, dI) vwCl (cwX cI a xW ++ cwM cI b yW) H) (hD : va_D A (cwX cI a xW ++ cwM cI b yW)) (hS : va_S A s.heap H locs) {ls : Array Slot} (hl : lv_has ls 4 [(0, .ref bs), (1, .ref (a 0)), (2, .ref (b 0)), (3, .int x3)]) : W p l e room_1 s m #[Value.ref bs] below meth c H locs 40 1000 (lw_Z below #[Value.ref bs] s) (F0 m 592 ls []) := by
  obtain ⟨hx, hb, hr, hml, hown, hts0, hX, hbl, hlocks, hgv⟩ := id C0
  have hown : s.vm.findClass RL = some m.cls := hown
  have hts : ∀ w ∈ wsL_law, w.before #[Value.ref bs] s = true := fun w h => hts0 w (wsL_law_in w h)
  have hbA : ¬ A bs := by rw [hAe]; exact Nat.not_le.mpr hbl
  have hA : ∀ q : Nat, s.heap.size ≤ q → A q := fun q h => by rw [hAe]; exact h
  rw [F_L_law_a14] at hF
  refine lv_aload_n hx hb dL_law_592 rfl (lv_at hl 1 rfl) ?_
  refine lv_aload_n hx hb dL_law_593 rfl (lv_at hl 0 rfl) ?_
  refine lv_iload_n hx hb dL_law_594 rfl (lv_at hl 3 rfl) ?_
  refine lv_iconst (v := nI 1) hx hb dL_law_595 (by decide) ?_
  refine lv_iadd hx hb dL_law_596 ?_
  refine cki hF (fun hi hF => ?_)
  refine va_sld hx hb hX hbl hbA hS hi dL_law_597 ?_
  have hPc := hP.sub (ws' := (cwX cI a xW)) [0, 1, 2, 3, 4, 5, 6, 7, 8, 9, 10, 11, 12, 13, 14, 15, 16, 17, 18, 19, 20, 21, 22, 23] rfl
  have hDc := hD.sub (ws' := (cwX cI a xW)) [0, 1, 2, 3, 4, 5, 6, 7, 8, 9, 10, 11, 12, 13, 14, 15, 16, 17, 18, 19, 20, 21, 22, 23] (by decide) rfl
  have hFc := va_free (wc := (cwX cI a xW)) hD hS hA [0, 1, 2, 3, 4, 5, 6, 7, 8, 9, 10, 11, 12, 13, 14, 15, 16, 17, 18, 19, 20, 21, 22, 23] rfl
  refine bd hF (fun r598 hG hF => ?_)
  refine va_calli (va_runV (As := [.int (xs (x3 + (nI 1)).toNatClampNeg)]) (rest := []) ⟨hx, hb, hml, hown, hts⟩ (c_X2_lost l dC dI cI sf H.size N a xW (xs (x3 + (nI 1)).toNatClampNeg) r598 hG) (cwV 1 hts gL_law_X2_lost rfl rfl rfl (by decide +kernel) ⟨Nat.le_of_ble_eq_true rfl, Nat.le_of_ble_eq_true rfl⟩) ⟨fun a U g mk q => ⟨q.1, q.2.call⟩, va_recv hK hP (ci := 2) (q0 := 0) rfl rfl, fun U hU hW => ⟨rfl, PB.of hU hW hPc hK hDc hNN hSF hS hFc⟩⟩ rfl rfl hl.1 rfl (lv_room (Nat.le_of_ble_eq_true rfl)) dL_law_598 ⟨Nat.le_of_ble_eq_true rfl, Nat.le_of_ble_eq_true rfl⟩) hS (fun q _ h => hFc q h) hFc (fun z_ u_ t H locs ht hvm hw hB hz1 hk1 hS => ?_)
  subst z_
  obtain ⟨hP1, hD1⟩ := hB
  rw [ht] at hP1
  have hJ := vb_join (ws' := (cwX cI a r598.2 ++ cwM cI b yW)) hP hD [0, 1, 2, 3, 4, 5, 6, 7, 8, 9, 10, 11, 12, 13, 14, 15, 16, 17, 18, 19, 20, 21, 22, 23] [24, 25, 26, 27, 28, 29, 30, 31, 32, 33] [10, 11, 12, 13, 14, 15, 16, 17, 18, 19, 20, 21, 22, 23, 24, 25, 26, 27, 28, 29, 30, 31, 32, 33, 0, 1, 2, 3, 4, 5, 6, 7, 8, 9] rfl rfl (by decide) (by decide) hk1 hFc hP1 hD1 rfl (by decide) rfl
  clear hP hD hPc hDc hFc hP1 hD1 hk1 hz1 ht hvm hG
  obtain ⟨hP, hD⟩ := hJ
  refine lv_aload_n hx hb dL_law_601 rfl (lv_at hl 2 rfl) ?_
  refine lv_aload_n hx hb dL_law_602 rfl (lv_at hl 0 rfl) ?_
  refine lv_iload_n hx hb dL_law_603 rfl (lv_at hl 3 rfl) ?_
  refine lv_iconst (v := nI 1) hx hb dL_law_604 (by decide) ?_
  refine lv_iadd hx hb dL_law_605 ?_
  refine cki hF (fun hi hF => ?_)
  refine va_sld hx hb hX hbl hbA hS hi dL_law_606 ?_
  have hPc := hP.sub (ws' := (cwM cI b yW)) [24, 25, 26, 27, 28, 29, 30, 31, 32, 33] rfl
  have hDc := hD.sub (ws' := (cwM cI b yW)) [24, 25, 26, 27, 28, 29, 30, 31, 32, 33] (by decide) rfl
  have hFc := va_free (wc := (cwM cI b yW)) hD hS hA [24, 25, 26, 27, 28, 29, 30, 31, 32, 33] rfl
  refine bd hF (fun r607 hG hF => ?_)
  refine va_calli (va_runV (As := [.int (xs (x3 + (nI 1)).toNatClampNeg)]) (rest := [.int r598.1]) ⟨hx, hb, hml, hown, hts⟩ (c_X3_lost l dC dI cI sf H.size N b yW (xs (x3 + (nI 1)).toNatClampNeg) r607 hG) (cwV 1 hts gL_law_X3_lost rfl rfl rfl (by decide +kernel) ⟨Nat.le_of_ble_eq_true rfl, Nat.le_of_ble_eq_true rfl⟩) ⟨fun a U g mk q => ⟨q.1, q.2.call⟩, va_recv hK hP (ci := 3) (q0 := 24) rfl rfl, fun U hU hW => ⟨rfl, PB.of hU hW hPc hK hDc hNN hSF hS hFc⟩⟩ rfl rfl hl.1 rfl (lv_room (Nat.le_of_ble_eq_true rfl)) dL_law_607 ⟨Nat.le_of_ble_eq_true rfl, Nat.le_of_ble_eq_true rfl⟩) hS (fun q _ h => hFc q h) hFc (fun z_ u_ t H locs ht hvm hw hB hz1 hk1 hS => ?_)
  subst z_
  obtain ⟨hP1, hD1⟩ := hB
  rw [ht] at hP1
  have hJ := vb_join (ws' := (cwX cI a r598.2 ++ cwM cI b r607.2)) hP hD [24, 25, 26, 27, 28, 29, 30, 31, 32, 33] [0, 1, 2, 3, 4, 5, 6, 7, 8, 9, 10, 11, 12, 13, 14, 15, 16, 17, 18, 19, 20, 21, 22, 23] [0, 1, 2, 3, 4, 5, 6, 7, 8, 9, 10, 11, 12, 13, 14, 15, 16, 17, 18, 19, 20, 21, 22, 23, 24, 25, 26, 27, 28, 29, 30, 31, 32, 33] rfl rfl (by decide) (by decide) hk1 hFc hP1 hD1 rfl (by decide) rfl
  clear hP hD hPc hDc hFc hP1 hD1 hk1 hz1 ht hvm hG
  obtain ⟨hP, hD⟩ := hJ
  refine lv_icmp_eq (tgt := 1186) hx hb dL_law_610 (by decide) (fun hc => ?_) (fun hc => ?_)
  · have hF := ift hc hF
    exact kJ1186 r598.2 r607.2 x3 _ _ _ hF hP hD hS (lv_sub hl [0, 1, 2, 3] rfl)
  · have hF := iff_ hc hF
    refine lv_iconst (v := nI 0) hx hb dL_law_613 (by decide) ?_
    exact nn hF
set_option maxHeartbeats 8000000 in
set_option maxRecDepth 100000 in
theorem law_a15 {p : Program} {e : Env} {s : State} {m : MethodId} {below : List Frame} {meth : Method} {c : Code} (l : Launch) (dC : Nat → ClassId) (dI : Nat → Nat → Nat) (cI : ClassId) (sf : SFP) (N : Nat) {bs L : Nat} {xs : Nat → Int32} (C0 : lw_At p s m meth c bs L xs) (a b : Nat → Nat) (hNN : NN s) (A : Nat → Prop) (hAe : A = fun q : Nat => s.heap.size ≤ q) (hSF : SF sf A s s.heap) (hK : va_K (dC, dI) vwCl [(cI, .int)] s) (r : Unit) (kA : XS → MS → Int32 → Option Unit) (kJ1186 : ∀ (xW : XS) (yW : MS) (x3 : Int32) (H : Heap) (locs : List Loc) (ls : Array Slot), kA xW yW x3 = some r → va_P (dC, dI) vwCl (cwX cI a xW ++ cwM cI b yW) H → va_D A (cwX cI a xW ++ cwM cI b yW) → va_S A s.heap H locs → lv_has ls 4 [(0, .ref bs), (1, .ref (a 0)), (2, .ref (b 0)), (3, .int x3)] → W p l e room_1 s m #[Value.ref bs] below meth c H locs 40 1000 (lw_Z below #[Value.ref bs] s) (F0 m 1186 ls [])) (xW : XS) (yW : MS) (x3 : Int32) (hF : F_L_law_a15 N xs L kA xW yW x3 = some r) {H : Heap} {locs : List Loc} (hP : va_P (dC, dI) vwCl (cwX cI a xW ++ cwM cI b yW) H) (hD : va_D A (cwX cI a xW ++ cwM cI b yW)) (hS : va_S A s.heap H locs) {ls : Array Slot} (hl : lv_has ls 4 [(0, .ref bs), (1, .ref (a 0)), (2, .ref (b 0)), (3, .int x3)]) : W p l e room_1 s m #[Value.ref bs] below meth c H locs 40 1000 (lw_Z below #[Value.ref bs] s) (F0 m 615 ls []) := by
  obtain ⟨hx, hb, hr, hml, hown, hts0, hX, hbl, hlocks, hgv⟩ := id C0
  have hown : s.vm.findClass RL = some m.cls := hown
  have hts : ∀ w ∈ wsL_law, w.before #[Value.ref bs] s = true := fun w h => hts0 w (wsL_law_in w h)
  have hbA : ¬ A bs := by rw [hAe]; exact Nat.not_le.mpr hbl
  have hA : ∀ q : Nat, s.heap.size ≤ q → A q := fun q h => by rw [hAe]; exact h
  rw [F_L_law_a15] at hF
  refine lv_aload_n hx hb dL_law_615 rfl (lv_at hl 1 rfl) ?_
  refine lv_aload_n hx hb dL_law_616 rfl (lv_at hl 0 rfl) ?_
  refine lv_iload_n hx hb dL_law_617 rfl (lv_at hl 3 rfl) ?_
  refine lv_iconst (v := nI 1) hx hb dL_law_618 (by decide) ?_
  refine lv_iadd hx hb dL_law_619 ?_
  refine cki hF (fun hi hF => ?_)
  refine va_sld hx hb hX hbl hbA hS hi dL_law_620 ?_
  have hPc := hP.sub (ws' := (cwX cI a xW)) [0, 1, 2, 3, 4, 5, 6, 7, 8, 9, 10, 11, 12, 13, 14, 15, 16, 17, 18, 19, 20, 21, 22, 23] rfl
  have hDc := hD.sub (ws' := (cwX cI a xW)) [0, 1, 2, 3, 4, 5, 6, 7, 8, 9, 10, 11, 12, 13, 14, 15, 16, 17, 18, 19, 20, 21, 22, 23] (by decide) rfl
  have hFc := va_free (wc := (cwX cI a xW)) hD hS hA [0, 1, 2, 3, 4, 5, 6, 7, 8, 9, 10, 11, 12, 13, 14, 15, 16, 17, 18, 19, 20, 21, 22, 23] rfl
  refine bd hF (fun r621 hG hF => ?_)
  refine va_calli (va_runV (As := [.int (xs (x3 + (nI 1)).toNatClampNeg)]) (rest := []) ⟨hx, hb, hml, hown, hts⟩ (c_X2_still l dC dI cI sf H.size N a xW (xs (x3 + (nI 1)).toNatClampNeg) r621 hG) (cwV 1 hts gL_law_X2_still rfl rfl rfl (by decide +kernel) ⟨Nat.le_of_ble_eq_true rfl, Nat.le_of_ble_eq_true rfl⟩) ⟨fun a U g mk q => ⟨q.1, q.2.call⟩, va_recv hK hP (ci := 2) (q0 := 0) rfl rfl, fun U hU hW => ⟨rfl, PB.of hU hW hPc hK hDc hNN hSF hS hFc⟩⟩ rfl rfl hl.1 rfl (lv_room (Nat.le_of_ble_eq_true rfl)) dL_law_621 ⟨Nat.le_of_ble_eq_true rfl, Nat.le_of_ble_eq_true rfl⟩) hS (fun q _ h => hFc q h) hFc (fun z_ u_ t H locs ht hvm hw hB hz1 hk1 hS => ?_)
  subst z_
  obtain ⟨hP1, hD1⟩ := hB
  rw [ht] at hP1
  have hJ := vb_join (ws' := (cwX cI a r621.2 ++ cwM cI b yW)) hP hD [0, 1, 2, 3, 4, 5, 6, 7, 8, 9, 10, 11, 12, 13, 14, 15, 16, 17, 18, 19, 20, 21, 22, 23] [24, 25, 26, 27, 28, 29, 30, 31, 32, 33] [10, 11, 12, 13, 14, 15, 16, 17, 18, 19, 20, 21, 22, 23, 24, 25, 26, 27, 28, 29, 30, 31, 32, 33, 0, 1, 2, 3, 4, 5, 6, 7, 8, 9] rfl rfl (by decide) (by decide) hk1 hFc hP1 hD1 rfl (by decide) rfl
  clear hP hD hPc hDc hFc hP1 hD1 hk1 hz1 ht hvm hG
  obtain ⟨hP, hD⟩ := hJ
  refine lv_aload_n hx hb dL_law_624 rfl (lv_at hl 2 rfl) ?_
  refine lv_aload_n hx hb dL_law_625 rfl (lv_at hl 0 rfl) ?_
  refine lv_iload_n hx hb dL_law_626 rfl (lv_at hl 3 rfl) ?_
  refine lv_iconst (v := nI 1) hx hb dL_law_627 (by decide) ?_
  refine lv_iadd hx hb dL_law_628 ?_
  refine cki hF (fun hi hF => ?_)
  refine va_sld hx hb hX hbl hbA hS hi dL_law_629 ?_
  have hPc := hP.sub (ws' := (cwM cI b yW)) [24, 25, 26, 27, 28, 29, 30, 31, 32, 33] rfl
  have hDc := hD.sub (ws' := (cwM cI b yW)) [24, 25, 26, 27, 28, 29, 30, 31, 32, 33] (by decide) rfl
  have hFc := va_free (wc := (cwM cI b yW)) hD hS hA [24, 25, 26, 27, 28, 29, 30, 31, 32, 33] rfl
  refine bd hF (fun r630 hG hF => ?_)
  refine va_calli (va_runV (As := [.int (xs (x3 + (nI 1)).toNatClampNeg)]) (rest := [.int r621.1]) ⟨hx, hb, hml, hown, hts⟩ (c_X3_still l dC dI cI sf H.size N b yW (xs (x3 + (nI 1)).toNatClampNeg) r630 hG) (cwV 1 hts gL_law_X3_still rfl rfl rfl (by decide +kernel) ⟨Nat.le_of_ble_eq_true rfl, Nat.le_of_ble_eq_true rfl⟩) ⟨fun a U g mk q => ⟨q.1, q.2.call⟩, va_recv hK hP (ci := 3) (q0 := 24) rfl rfl, fun U hU hW => ⟨rfl, PB.of hU hW hPc hK hDc hNN hSF hS hFc⟩⟩ rfl rfl hl.1 rfl (lv_room (Nat.le_of_ble_eq_true rfl)) dL_law_630 ⟨Nat.le_of_ble_eq_true rfl, Nat.le_of_ble_eq_true rfl⟩) hS (fun q _ h => hFc q h) hFc (fun z_ u_ t H locs ht hvm hw hB hz1 hk1 hS => ?_)
  subst z_
  obtain ⟨hP1, hD1⟩ := hB
  rw [ht] at hP1
  have hJ := vb_join (ws' := (cwX cI a r621.2 ++ cwM cI b r630.2)) hP hD [24, 25, 26, 27, 28, 29, 30, 31, 32, 33] [0, 1, 2, 3, 4, 5, 6, 7, 8, 9, 10, 11, 12, 13, 14, 15, 16, 17, 18, 19, 20, 21, 22, 23] [0, 1, 2, 3, 4, 5, 6, 7, 8, 9, 10, 11, 12, 13, 14, 15, 16, 17, 18, 19, 20, 21, 22, 23, 24, 25, 26, 27, 28, 29, 30, 31, 32, 33] rfl rfl (by decide) (by decide) hk1 hFc hP1 hD1 rfl (by decide) rfl
  clear hP hD hPc hDc hFc hP1 hD1 hk1 hz1 ht hvm hG
  obtain ⟨hP, hD⟩ := hJ
  refine lv_icmp_eq (tgt := 1186) hx hb dL_law_633 (by decide) (fun hc => ?_) (fun hc => ?_)
  · have hF := ift hc hF
    exact kJ1186 r621.2 r630.2 x3 _ _ _ hF hP hD hS (lv_sub hl [0, 1, 2, 3] rfl)
  · have hF := iff_ hc hF
    refine lv_iconst (v := nI 0) hx hb dL_law_636 (by decide) ?_
    exact nn hF
set_option maxHeartbeats 8000000 in
set_option maxRecDepth 100000 in
theorem law_a16 {p : Program} {e : Env} {s : State} {m : MethodId} {below : List Frame} {meth : Method} {c : Code} (l : Launch) (dC : Nat → ClassId) (dI : Nat → Nat → Nat) (cI : ClassId) (sf : SFP) (N : Nat) {bs L : Nat} {xs : Nat → Int32} (C0 : lw_At p s m meth c bs L xs) (a b : Nat → Nat) (hNN : NN s) (A : Nat → Prop) (hAe : A = fun q : Nat => s.heap.size ≤ q) (hSF : SF sf A s s.heap) (hK : va_K (dC, dI) vwCl [(cI, .int)] s) (r : Unit) (kA : XS → MS → Int32 → Option Unit) (kJ1186 : ∀ (xW : XS) (yW : MS) (x3 : Int32) (H : Heap) (locs : List Loc) (ls : Array Slot), kA xW yW x3 = some r → va_P (dC, dI) vwCl (cwX cI a xW ++ cwM cI b yW) H → va_D A (cwX cI a xW ++ cwM cI b yW) → va_S A s.heap H locs → lv_has ls 4 [(0, .ref bs), (1, .ref (a 0)), (2, .ref (b 0)), (3, .int x3)] → W p l e room_1 s m #[Value.ref bs] below meth c H locs 40 1000 (lw_Z below #[Value.ref bs] s) (F0 m 1186 ls [])) (xW : XS) (yW : MS) (x3 : Int32) (hF : F_L_law_a16 N xs L kA xW yW x3 = some r) {H : Heap} {locs : List Loc} (hP : va_P (dC, dI) vwCl (cwX cI a xW ++ cwM cI b yW) H) (hD : va_D A (cwX cI a xW ++ cwM cI b yW)) (hS : va_S A s.heap H locs) {ls : Array Slot} (hl : lv_has ls 4 [(0, .ref bs), (1, .ref (a 0)), (2, .ref (b 0)), (3, .int x3)]) : W p l e room_1 s m #[Value.ref bs] below meth c H locs 40 1000 (lw_Z below #[Value.ref bs] s) (F0 m 638 ls []) := by
  obtain ⟨hx, hb, hr, hml, hown, hts0, hX, hbl, hlocks, hgv⟩ := id C0
  have hown : s.vm.findClass RL = some m.cls := hown
  have hts : ∀ w ∈ wsL_law, w.before #[Value.ref bs] s = true := fun w h => hts0 w (wsL_law_in w h)
  have hbA : ¬ A bs := by rw [hAe]; exact Nat.not_le.mpr hbl
  have hA : ∀ q : Nat, s.heap.size ≤ q → A q := fun q h => by rw [hAe]; exact h
  rw [F_L_law_a16] at hF
  refine lv_aload_n hx hb dL_law_638 rfl (lv_at hl 1 rfl) ?_
  refine lv_aload_n hx hb dL_law_639 rfl (lv_at hl 0 rfl) ?_
  refine lv_iload_n hx hb dL_law_640 rfl (lv_at hl 3 rfl) ?_
  refine lv_iconst (v := nI 1) hx hb dL_law_641 (by decide) ?_
  refine lv_iadd hx hb dL_law_642 ?_
  refine cki hF (fun hi hF => ?_)
  refine va_sld hx hb hX hbl hbA hS hi dL_law_643 ?_
  have hPc := hP.sub (ws' := (cwX cI a xW)) [0, 1, 2, 3, 4, 5, 6, 7, 8, 9, 10, 11, 12, 13, 14, 15, 16, 17, 18, 19, 20, 21, 22, 23] rfl
  have hDc := hD.sub (ws' := (cwX cI a xW)) [0, 1, 2, 3, 4, 5, 6, 7, 8, 9, 10, 11, 12, 13, 14, 15, 16, 17, 18, 19, 20, 21, 22, 23] (by decide) rfl
  have hFc := va_free (wc := (cwX cI a xW)) hD hS hA [0, 1, 2, 3, 4, 5, 6, 7, 8, 9, 10, 11, 12, 13, 14, 15, 16, 17, 18, 19, 20, 21, 22, 23] rfl
  refine bd hF (fun r644 hG hF => ?_)
  refine va_calli (va_runV (As := [.int (xs (x3 + (nI 1)).toNatClampNeg)]) (rest := []) ⟨hx, hb, hml, hown, hts⟩ (c_X2_chapter l dC dI cI sf H.size N a xW (xs (x3 + (nI 1)).toNatClampNeg) r644 hG) (cwV 1 hts gL_law_X2_chapter rfl rfl rfl (by decide +kernel) ⟨Nat.le_of_ble_eq_true rfl, Nat.le_of_ble_eq_true rfl⟩) ⟨fun a U g mk q => ⟨q.1, q.2.call⟩, va_recv hK hP (ci := 2) (q0 := 0) rfl rfl, fun U hU hW => ⟨rfl, PB.of hU hW hPc hK hDc hNN hSF hS hFc⟩⟩ rfl rfl hl.1 rfl (lv_room (Nat.le_of_ble_eq_true rfl)) dL_law_644 ⟨Nat.le_of_ble_eq_true rfl, Nat.le_of_ble_eq_true rfl⟩) hS (fun q _ h => hFc q h) hFc (fun z_ u_ t H locs ht hvm hw hB hz1 hk1 hS => ?_)
  subst z_
  obtain ⟨hP1, hD1⟩ := hB
  rw [ht] at hP1
  have hJ := vb_join (ws' := (cwX cI a r644.2 ++ cwM cI b yW)) hP hD [0, 1, 2, 3, 4, 5, 6, 7, 8, 9, 10, 11, 12, 13, 14, 15, 16, 17, 18, 19, 20, 21, 22, 23] [24, 25, 26, 27, 28, 29, 30, 31, 32, 33] [10, 11, 12, 13, 14, 15, 16, 17, 18, 19, 20, 21, 22, 23, 24, 25, 26, 27, 28, 29, 30, 31, 32, 33, 0, 1, 2, 3, 4, 5, 6, 7, 8, 9] rfl rfl (by decide) (by decide) hk1 hFc hP1 hD1 rfl (by decide) rfl
  clear hP hD hPc hDc hFc hP1 hD1 hk1 hz1 ht hvm hG
  obtain ⟨hP, hD⟩ := hJ
  refine lv_aload_n hx hb dL_law_647 rfl (lv_at hl 2 rfl) ?_
  refine lv_aload_n hx hb dL_law_648 rfl (lv_at hl 0 rfl) ?_
  refine lv_iload_n hx hb dL_law_649 rfl (lv_at hl 3 rfl) ?_
  refine lv_iconst (v := nI 1) hx hb dL_law_650 (by decide) ?_
  refine lv_iadd hx hb dL_law_651 ?_
  refine cki hF (fun hi hF => ?_)
  refine va_sld hx hb hX hbl hbA hS hi dL_law_652 ?_
  have hPc := hP.sub (ws' := (cwM cI b yW)) [24, 25, 26, 27, 28, 29, 30, 31, 32, 33] rfl
  have hDc := hD.sub (ws' := (cwM cI b yW)) [24, 25, 26, 27, 28, 29, 30, 31, 32, 33] (by decide) rfl
  have hFc := va_free (wc := (cwM cI b yW)) hD hS hA [24, 25, 26, 27, 28, 29, 30, 31, 32, 33] rfl
  refine bd hF (fun r653 hG hF => ?_)
  refine va_calli (va_runV (As := [.int (xs (x3 + (nI 1)).toNatClampNeg)]) (rest := [.int r644.1]) ⟨hx, hb, hml, hown, hts⟩ (c_X3_chapter l dC dI cI sf H.size N b yW (xs (x3 + (nI 1)).toNatClampNeg) r653 hG) (cwV 1 hts gL_law_X3_chapter rfl rfl rfl (by decide +kernel) ⟨Nat.le_of_ble_eq_true rfl, Nat.le_of_ble_eq_true rfl⟩) ⟨fun a U g mk q => ⟨q.1, q.2.call⟩, va_recv hK hP (ci := 3) (q0 := 24) rfl rfl, fun U hU hW => ⟨rfl, PB.of hU hW hPc hK hDc hNN hSF hS hFc⟩⟩ rfl rfl hl.1 rfl (lv_room (Nat.le_of_ble_eq_true rfl)) dL_law_653 ⟨Nat.le_of_ble_eq_true rfl, Nat.le_of_ble_eq_true rfl⟩) hS (fun q _ h => hFc q h) hFc (fun z_ u_ t H locs ht hvm hw hB hz1 hk1 hS => ?_)
  subst z_
  obtain ⟨hP1, hD1⟩ := hB
  rw [ht] at hP1
  have hJ := vb_join (ws' := (cwX cI a r644.2 ++ cwM cI b r653.2)) hP hD [24, 25, 26, 27, 28, 29, 30, 31, 32, 33] [0, 1, 2, 3, 4, 5, 6, 7, 8, 9, 10, 11, 12, 13, 14, 15, 16, 17, 18, 19, 20, 21, 22, 23] [0, 1, 2, 3, 4, 5, 6, 7, 8, 9, 10, 11, 12, 13, 14, 15, 16, 17, 18, 19, 20, 21, 22, 23, 24, 25, 26, 27, 28, 29, 30, 31, 32, 33] rfl rfl (by decide) (by decide) hk1 hFc hP1 hD1 rfl (by decide) rfl
  clear hP hD hPc hDc hFc hP1 hD1 hk1 hz1 ht hvm hG
  obtain ⟨hP, hD⟩ := hJ
  refine lv_icmp_eq (tgt := 1186) hx hb dL_law_656 (by decide) (fun hc => ?_) (fun hc => ?_)
  · have hF := ift hc hF
    exact kJ1186 r644.2 r653.2 x3 _ _ _ hF hP hD hS (lv_sub hl [0, 1, 2, 3] rfl)
  · have hF := iff_ hc hF
    refine lv_iconst (v := nI 0) hx hb dL_law_659 (by decide) ?_
    exact nn hF
set_option maxHeartbeats 8000000 in
set_option maxRecDepth 100000 in
theorem law_a17 {p : Program} {e : Env} {s : State} {m : MethodId} {below : List Frame} {meth : Method} {c : Code} (l : Launch) (dC : Nat → ClassId) (dI : Nat → Nat → Nat) (cI : ClassId) (sf : SFP) (N : Nat) {bs L : Nat} {xs : Nat → Int32} (C0 : lw_At p s m meth c bs L xs) (a b : Nat → Nat) (hNN : NN s) (A : Nat → Prop) (hAe : A = fun q : Nat => s.heap.size ≤ q) (hSF : SF sf A s s.heap) (hK : va_K (dC, dI) vwCl [(cI, .int)] s) (r : Unit) (kA : XS → MS → Int32 → Option Unit) (kJ1186 : ∀ (xW : XS) (yW : MS) (x3 : Int32) (H : Heap) (locs : List Loc) (ls : Array Slot), kA xW yW x3 = some r → va_P (dC, dI) vwCl (cwX cI a xW ++ cwM cI b yW) H → va_D A (cwX cI a xW ++ cwM cI b yW) → va_S A s.heap H locs → lv_has ls 4 [(0, .ref bs), (1, .ref (a 0)), (2, .ref (b 0)), (3, .int x3)] → W p l e room_1 s m #[Value.ref bs] below meth c H locs 40 1000 (lw_Z below #[Value.ref bs] s) (F0 m 1186 ls [])) (xW : XS) (yW : MS) (x3 : Int32) (hF : F_L_law_a17 N xs L kA xW yW x3 = some r) {H : Heap} {locs : List Loc} (hP : va_P (dC, dI) vwCl (cwX cI a xW ++ cwM cI b yW) H) (hD : va_D A (cwX cI a xW ++ cwM cI b yW)) (hS : va_S A s.heap H locs) {ls : Array Slot} (hl : lv_has ls 4 [(0, .ref bs), (1, .ref (a 0)), (2, .ref (b 0)), (3, .int x3)]) : W p l e room_1 s m #[Value.ref bs] below meth c H locs 40 1000 (lw_Z below #[Value.ref bs] s) (F0 m 661 ls []) := by
  obtain ⟨hx, hb, hr, hml, hown, hts0, hX, hbl, hlocks, hgv⟩ := id C0
  have hown : s.vm.findClass RL = some m.cls := hown
  have hts : ∀ w ∈ wsL_law, w.before #[Value.ref bs] s = true := fun w h => hts0 w (wsL_law_in w h)
  have hbA : ¬ A bs := by rw [hAe]; exact Nat.not_le.mpr hbl
  have hA : ∀ q : Nat, s.heap.size ≤ q → A q := fun q h => by rw [hAe]; exact h
  rw [F_L_law_a17] at hF
  refine lv_aload_n hx hb dL_law_661 rfl (lv_at hl 1 rfl) ?_
  refine lv_aload_n hx hb dL_law_662 rfl (lv_at hl 0 rfl) ?_
  refine lv_iload_n hx hb dL_law_663 rfl (lv_at hl 3 rfl) ?_
  refine lv_iconst (v := nI 1) hx hb dL_law_664 (by decide) ?_
  refine lv_iadd hx hb dL_law_665 ?_
  refine cki hF (fun hi hF => ?_)
  refine va_sld hx hb hX hbl hbA hS hi dL_law_666 ?_
  have hPc := hP.sub (ws' := (cwX cI a xW)) [0, 1, 2, 3, 4, 5, 6, 7, 8, 9, 10, 11, 12, 13, 14, 15, 16, 17, 18, 19, 20, 21, 22, 23] rfl
  have hDc := hD.sub (ws' := (cwX cI a xW)) [0, 1, 2, 3, 4, 5, 6, 7, 8, 9, 10, 11, 12, 13, 14, 15, 16, 17, 18, 19, 20, 21, 22, 23] (by decide) rfl
  have hFc := va_free (wc := (cwX cI a xW)) hD hS hA [0, 1, 2, 3, 4, 5, 6, 7, 8, 9, 10, 11, 12, 13, 14, 15, 16, 17, 18, 19, 20, 21, 22, 23] rfl
  refine bd hF (fun r667 hG hF => ?_)
  refine va_calli (va_runV (As := [.int (xs (x3 + (nI 1)).toNatClampNeg)]) (rest := []) ⟨hx, hb, hml, hown, hts⟩ (c_X2_quarrel l dC dI cI sf H.size N a xW (xs (x3 + (nI 1)).toNatClampNeg) r667 hG) (cwV 1 hts gL_law_X2_quarrel rfl rfl rfl (by decide +kernel) ⟨Nat.le_of_ble_eq_true rfl, Nat.le_of_ble_eq_true rfl⟩) ⟨fun a U g mk q => ⟨q.1, q.2.call⟩, va_recv hK hP (ci := 2) (q0 := 0) rfl rfl, fun U hU hW => ⟨rfl, PB.of hU hW hPc hK hDc hNN hSF hS hFc⟩⟩ rfl rfl hl.1 rfl (lv_room (Nat.le_of_ble_eq_true rfl)) dL_law_667 ⟨Nat.le_of_ble_eq_true rfl, Nat.le_of_ble_eq_true rfl⟩) hS (fun q _ h => hFc q h) hFc (fun z_ u_ t H locs ht hvm hw hB hz1 hk1 hS => ?_)
  subst z_
  obtain ⟨hP1, hD1⟩ := hB
  rw [ht] at hP1
  have hJ := vb_join (ws' := (cwX cI a r667.2 ++ cwM cI b yW)) hP hD [0, 1, 2, 3, 4, 5, 6, 7, 8, 9, 10, 11, 12, 13, 14, 15, 16, 17, 18, 19, 20, 21, 22, 23] [24, 25, 26, 27, 28, 29, 30, 31, 32, 33] [10, 11, 12, 13, 14, 15, 16, 17, 18, 19, 20, 21, 22, 23, 24, 25, 26, 27, 28, 29, 30, 31, 32, 33, 0, 1, 2, 3, 4, 5, 6, 7, 8, 9] rfl rfl (by decide) (by decide) hk1 hFc hP1 hD1 rfl (by decide) rfl
  clear hP hD hPc hDc hFc hP1 hD1 hk1 hz1 ht hvm hG
  obtain ⟨hP, hD⟩ := hJ
  refine lv_aload_n hx hb dL_law_670 rfl (lv_at hl 2 rfl) ?_
  refine lv_aload_n hx hb dL_law_671 rfl (lv_at hl 0 rfl) ?_
  refine lv_iload_n hx hb dL_law_672 rfl (lv_at hl 3 rfl) ?_
  refine lv_iconst (v := nI 1) hx hb dL_law_673 (by decide) ?_
  refine lv_iadd hx hb dL_law_674 ?_
  refine cki hF (fun hi hF => ?_)
  refine va_sld hx hb hX hbl hbA hS hi dL_law_675 ?_
  have hPc := hP.sub (ws' := (cwM cI b yW)) [24, 25, 26, 27, 28, 29, 30, 31, 32, 33] rfl
  have hDc := hD.sub (ws' := (cwM cI b yW)) [24, 25, 26, 27, 28, 29, 30, 31, 32, 33] (by decide) rfl
  have hFc := va_free (wc := (cwM cI b yW)) hD hS hA [24, 25, 26, 27, 28, 29, 30, 31, 32, 33] rfl
  refine bd hF (fun r676 hG hF => ?_)
  refine va_calli (va_runV (As := [.int (xs (x3 + (nI 1)).toNatClampNeg)]) (rest := [.int r667.1]) ⟨hx, hb, hml, hown, hts⟩ (c_X3_quarrel l dC dI cI sf H.size N b yW (xs (x3 + (nI 1)).toNatClampNeg) r676 hG) (cwV 1 hts gL_law_X3_quarrel rfl rfl rfl (by decide +kernel) ⟨Nat.le_of_ble_eq_true rfl, Nat.le_of_ble_eq_true rfl⟩) ⟨fun a U g mk q => ⟨q.1, q.2.call⟩, va_recv hK hP (ci := 3) (q0 := 24) rfl rfl, fun U hU hW => ⟨rfl, PB.of hU hW hPc hK hDc hNN hSF hS hFc⟩⟩ rfl rfl hl.1 rfl (lv_room (Nat.le_of_ble_eq_true rfl)) dL_law_676 ⟨Nat.le_of_ble_eq_true rfl, Nat.le_of_ble_eq_true rfl⟩) hS (fun q _ h => hFc q h) hFc (fun z_ u_ t H locs ht hvm hw hB hz1 hk1 hS => ?_)
  subst z_
  obtain ⟨hP1, hD1⟩ := hB
  rw [ht] at hP1
  have hJ := vb_join (ws' := (cwX cI a r667.2 ++ cwM cI b r676.2)) hP hD [24, 25, 26, 27, 28, 29, 30, 31, 32, 33] [0, 1, 2, 3, 4, 5, 6, 7, 8, 9, 10, 11, 12, 13, 14, 15, 16, 17, 18, 19, 20, 21, 22, 23] [0, 1, 2, 3, 4, 5, 6, 7, 8, 9, 10, 11, 12, 13, 14, 15, 16, 17, 18, 19, 20, 21, 22, 23, 24, 25, 26, 27, 28, 29, 30, 31, 32, 33] rfl rfl (by decide) (by decide) hk1 hFc hP1 hD1 rfl (by decide) rfl
  clear hP hD hPc hDc hFc hP1 hD1 hk1 hz1 ht hvm hG
  obtain ⟨hP, hD⟩ := hJ
  refine lv_icmp_eq (tgt := 1186) hx hb dL_law_679 (by decide) (fun hc => ?_) (fun hc => ?_)
  · have hF := ift hc hF
    exact kJ1186 r667.2 r676.2 x3 _ _ _ hF hP hD hS (lv_sub hl [0, 1, 2, 3] rfl)
  · have hF := iff_ hc hF
    refine lv_iconst (v := nI 0) hx hb dL_law_682 (by decide) ?_
    exact nn hF
set_option maxHeartbeats 8000000 in
set_option maxRecDepth 100000 in
theorem law_a18 {p : Program} {e : Env} {s : State} {m : MethodId} {below : List Frame} {meth : Method} {c : Code} (l : Launch) (dC : Nat → ClassId) (dI : Nat → Nat → Nat) (cI : ClassId) (sf : SFP) (N : Nat) {bs L : Nat} {xs : Nat → Int32} (C0 : lw_At p s m meth c bs L xs) (a b : Nat → Nat) (hNN : NN s) (A : Nat → Prop) (hAe : A = fun q : Nat => s.heap.size ≤ q) (hSF : SF sf A s s.heap) (hK : va_K (dC, dI) vwCl [(cI, .int)] s) (r : Unit) (kA : XS → MS → Int32 → Option Unit) (kJ1186 : ∀ (xW : XS) (yW : MS) (x3 : Int32) (H : Heap) (locs : List Loc) (ls : Array Slot), kA xW yW x3 = some r → va_P (dC, dI) vwCl (cwX cI a xW ++ cwM cI b yW) H → va_D A (cwX cI a xW ++ cwM cI b yW) → va_S A s.heap H locs → lv_has ls 4 [(0, .ref bs), (1, .ref (a 0)), (2, .ref (b 0)), (3, .int x3)] → W p l e room_1 s m #[Value.ref bs] below meth c H locs 40 1000 (lw_Z below #[Value.ref bs] s) (F0 m 1186 ls [])) (xW : XS) (yW : MS) (x3 : Int32) (hF : F_L_law_a18 N xs L kA xW yW x3 = some r) {H : Heap} {locs : List Loc} (hP : va_P (dC, dI) vwCl (cwX cI a xW ++ cwM cI b yW) H) (hD : va_D A (cwX cI a xW ++ cwM cI b yW)) (hS : va_S A s.heap H locs) {ls : Array Slot} (hl : lv_has ls 4 [(0, .ref bs), (1, .ref (a 0)), (2, .ref (b 0)), (3, .int x3)]) : W p l e room_1 s m #[Value.ref bs] below meth c H locs 40 1000 (lw_Z below #[Value.ref bs] s) (F0 m 684 ls []) := by
  obtain ⟨hx, hb, hr, hml, hown, hts0, hX, hbl, hlocks, hgv⟩ := id C0
  have hown : s.vm.findClass RL = some m.cls := hown
  have hts : ∀ w ∈ wsL_law, w.before #[Value.ref bs] s = true := fun w h => hts0 w (wsL_law_in w h)
  have hbA : ¬ A bs := by rw [hAe]; exact Nat.not_le.mpr hbl
  have hA : ∀ q : Nat, s.heap.size ≤ q → A q := fun q h => by rw [hAe]; exact h
  rw [F_L_law_a18] at hF
  refine lv_aload_n hx hb dL_law_684 rfl (lv_at hl 1 rfl) ?_
  have hPc := hP.sub (ws' := (cwX cI a xW)) [0, 1, 2, 3, 4, 5, 6, 7, 8, 9, 10, 11, 12, 13, 14, 15, 16, 17, 18, 19, 20, 21, 22, 23] rfl
  have hDc := hD.sub (ws' := (cwX cI a xW)) [0, 1, 2, 3, 4, 5, 6, 7, 8, 9, 10, 11, 12, 13, 14, 15, 16, 17, 18, 19, 20, 21, 22, 23] (by decide) rfl
  have hFc := va_free (wc := (cwX cI a xW)) hD hS hA [0, 1, 2, 3, 4, 5, 6, 7, 8, 9, 10, 11, 12, 13, 14, 15, 16, 17, 18, 19, 20, 21, 22, 23] rfl
  refine bd hF (fun r685 hG hF => ?_)
  refine va_calli (va_runV (As := []) (rest := []) ⟨hx, hb, hml, hown, hts⟩ (c_X2_keeps l dC dI cI sf H.size N a xW r685 hG) (cwV 0 hts gL_law_X2_keeps rfl rfl rfl (by decide +kernel) ⟨Nat.le_of_ble_eq_true rfl, Nat.le_of_ble_eq_true rfl⟩) ⟨fun a U g mk q => ⟨q.1, q.2.call⟩, va_recv hK hP (ci := 2) (q0 := 0) rfl rfl, fun U hU hW => ⟨rfl, PB.of hU hW hPc hK hDc hNN hSF hS hFc⟩⟩ rfl rfl hl.1 rfl (lv_room (Nat.le_of_ble_eq_true rfl)) dL_law_685 ⟨Nat.le_of_ble_eq_true rfl, Nat.le_of_ble_eq_true rfl⟩) hS (fun q _ h => hFc q h) hFc (fun z_ u_ t H locs ht hvm hw hB hz1 hk1 hS => ?_)
  subst z_
  obtain ⟨hP1, hD1⟩ := hB
  rw [ht] at hP1
  have hJ := vb_join (ws' := (cwX cI a xW ++ cwM cI b yW)) hP hD [0, 1, 2, 3, 4, 5, 6, 7, 8, 9, 10, 11, 12, 13, 14, 15, 16, 17, 18, 19, 20, 21, 22, 23] [24, 25, 26, 27, 28, 29, 30, 31, 32, 33] [10, 11, 12, 13, 14, 15, 16, 17, 18, 19, 20, 21, 22, 23, 24, 25, 26, 27, 28, 29, 30, 31, 32, 33, 0, 1, 2, 3, 4, 5, 6, 7, 8, 9] rfl rfl (by decide) (by decide) hk1 hFc hP1 hD1 rfl (by decide) rfl
  clear hP hD hPc hDc hFc hP1 hD1 hk1 hz1 ht hvm hG
  obtain ⟨hP, hD⟩ := hJ
  refine lv_aload_n hx hb dL_law_688 rfl (lv_at hl 2 rfl) ?_
  have hPc := hP.sub (ws' := (cwM cI b yW)) [24, 25, 26, 27, 28, 29, 30, 31, 32, 33] rfl
  have hDc := hD.sub (ws' := (cwM cI b yW)) [24, 25, 26, 27, 28, 29, 30, 31, 32, 33] (by decide) rfl
  have hFc := va_free (wc := (cwM cI b yW)) hD hS hA [24, 25, 26, 27, 28, 29, 30, 31, 32, 33] rfl
  refine bd hF (fun r689 hG hF => ?_)
  refine va_calli (va_runV (As := []) (rest := [.int r685]) ⟨hx, hb, hml, hown, hts⟩ (c_X3_keeps l dC dI cI sf H.size N b yW r689 hG) (cwV 0 hts gL_law_X3_keeps rfl rfl rfl (by decide +kernel) ⟨Nat.le_of_ble_eq_true rfl, Nat.le_of_ble_eq_true rfl⟩) ⟨fun a U g mk q => ⟨q.1, q.2.call⟩, va_recv hK hP (ci := 3) (q0 := 24) rfl rfl, fun U hU hW => ⟨rfl, PB.of hU hW hPc hK hDc hNN hSF hS hFc⟩⟩ rfl rfl hl.1 rfl (lv_room (Nat.le_of_ble_eq_true rfl)) dL_law_689 ⟨Nat.le_of_ble_eq_true rfl, Nat.le_of_ble_eq_true rfl⟩) hS (fun q _ h => hFc q h) hFc (fun z_ u_ t H locs ht hvm hw hB hz1 hk1 hS => ?_)
  subst z_
  obtain ⟨hP1, hD1⟩ := hB
  rw [ht] at hP1
  have hJ := vb_join (ws' := (cwX cI a xW ++ cwM cI b yW)) hP hD [24, 25, 26, 27, 28, 29, 30, 31, 32, 33] [0, 1, 2, 3, 4, 5, 6, 7, 8, 9, 10, 11, 12, 13, 14, 15, 16, 17, 18, 19, 20, 21, 22, 23] [0, 1, 2, 3, 4, 5, 6, 7, 8, 9, 10, 11, 12, 13, 14, 15, 16, 17, 18, 19, 20, 21, 22, 23, 24, 25, 26, 27, 28, 29, 30, 31, 32, 33] rfl rfl (by decide) (by decide) hk1 hFc hP1 hD1 rfl (by decide) rfl
  clear hP hD hPc hDc hFc hP1 hD1 hk1 hz1 ht hvm hG
  obtain ⟨hP, hD⟩ := hJ
  refine lv_icmp_eq (tgt := 1186) hx hb dL_law_692 (by decide) (fun hc => ?_) (fun hc => ?_)
  · have hF := ift hc hF
    exact kJ1186 xW yW x3 _ _ _ hF hP hD hS (lv_sub hl [0, 1, 2, 3] rfl)
  · have hF := iff_ hc hF
    refine lv_iconst (v := nI 0) hx hb dL_law_695 (by decide) ?_
    exact nn hF
set_option maxHeartbeats 8000000 in
set_option maxRecDepth 100000 in
theorem law_a19 {p : Program} {e : Env} {s : State} {m : MethodId} {below : List Frame} {meth : Method} {c : Code} (l : Launch) (dC : Nat → ClassId) (dI : Nat → Nat → Nat) (cI : ClassId) (sf : SFP) (N : Nat) {bs L : Nat} {xs : Nat → Int32} (C0 : lw_At p s m meth c bs L xs) (a b : Nat → Nat) (hNN : NN s) (A : Nat → Prop) (hAe : A = fun q : Nat => s.heap.size ≤ q) (hSF : SF sf A s s.heap) (hK : va_K (dC, dI) vwCl [(cI, .int)] s) (r : Unit) (kA : XS → MS → Int32 → Option Unit) (kJ1186 : ∀ (xW : XS) (yW : MS) (x3 : Int32) (H : Heap) (locs : List Loc) (ls : Array Slot), kA xW yW x3 = some r → va_P (dC, dI) vwCl (cwX cI a xW ++ cwM cI b yW) H → va_D A (cwX cI a xW ++ cwM cI b yW) → va_S A s.heap H locs → lv_has ls 4 [(0, .ref bs), (1, .ref (a 0)), (2, .ref (b 0)), (3, .int x3)] → W p l e room_1 s m #[Value.ref bs] below meth c H locs 40 1000 (lw_Z below #[Value.ref bs] s) (F0 m 1186 ls [])) (xW : XS) (yW : MS) (x3 : Int32) (hF : F_L_law_a19 N xs L kA xW yW x3 = some r) {H : Heap} {locs : List Loc} (hP : va_P (dC, dI) vwCl (cwX cI a xW ++ cwM cI b yW) H) (hD : va_D A (cwX cI a xW ++ cwM cI b yW)) (hS : va_S A s.heap H locs) {ls : Array Slot} (hl : lv_has ls 4 [(0, .ref bs), (1, .ref (a 0)), (2, .ref (b 0)), (3, .int x3)]) : W p l e room_1 s m #[Value.ref bs] below meth c H locs 40 1000 (lw_Z below #[Value.ref bs] s) (F0 m 697 ls []) := by
  obtain ⟨hx, hb, hr, hml, hown, hts0, hX, hbl, hlocks, hgv⟩ := id C0
  have hown : s.vm.findClass RL = some m.cls := hown
  have hts : ∀ w ∈ wsL_law, w.before #[Value.ref bs] s = true := fun w h => hts0 w (wsL_law_in w h)
  have hbA : ¬ A bs := by rw [hAe]; exact Nat.not_le.mpr hbl
  have hA : ∀ q : Nat, s.heap.size ≤ q → A q := fun q h => by rw [hAe]; exact h
  rw [F_L_law_a19] at hF
  refine lv_aload_n hx hb dL_law_697 rfl (lv_at hl 1 rfl) ?_
  refine lv_aload_n hx hb dL_law_698 rfl (lv_at hl 0 rfl) ?_
  refine lv_iload_n hx hb dL_law_699 rfl (lv_at hl 3 rfl) ?_
  refine lv_iconst (v := nI 1) hx hb dL_law_700 (by decide) ?_
  refine lv_iadd hx hb dL_law_701 ?_
  refine cki hF (fun hi hF => ?_)
  refine va_sld hx hb hX hbl hbA hS hi dL_law_702 ?_
  have hPc := hP.sub (ws' := (cwX cI a xW)) [0, 1, 2, 3, 4, 5, 6, 7, 8, 9, 10, 11, 12, 13, 14, 15, 16, 17, 18, 19, 20, 21, 22, 23] rfl
  have hDc := hD.sub (ws' := (cwX cI a xW)) [0, 1, 2, 3, 4, 5, 6, 7, 8, 9, 10, 11, 12, 13, 14, 15, 16, 17, 18, 19, 20, 21, 22, 23] (by decide) rfl
  have hFc := va_free (wc := (cwX cI a xW)) hD hS hA [0, 1, 2, 3, 4, 5, 6, 7, 8, 9, 10, 11, 12, 13, 14, 15, 16, 17, 18, 19, 20, 21, 22, 23] rfl
  refine bd hF (fun r703 hG hF => ?_)
  refine va_calli (va_runV (As := [.int (xs (x3 + (nI 1)).toNatClampNeg)]) (rest := []) ⟨hx, hb, hml, hown, hts⟩ (c_X2_silent l dC dI cI sf H.size N a xW (xs (x3 + (nI 1)).toNatClampNeg) r703 hG) (cwV 1 hts gL_law_X2_silent rfl rfl rfl (by decide +kernel) ⟨Nat.le_of_ble_eq_true rfl, Nat.le_of_ble_eq_true rfl⟩) ⟨fun a U g mk q => ⟨q.1, q.2.call⟩, va_recv hK hP (ci := 2) (q0 := 0) rfl rfl, fun U hU hW => ⟨rfl, PB.of hU hW hPc hK hDc hNN hSF hS hFc⟩⟩ rfl rfl hl.1 rfl (lv_room (Nat.le_of_ble_eq_true rfl)) dL_law_703 ⟨Nat.le_of_ble_eq_true rfl, Nat.le_of_ble_eq_true rfl⟩) hS (fun q _ h => hFc q h) hFc (fun z_ u_ t H locs ht hvm hw hB hz1 hk1 hS => ?_)
  subst z_
  obtain ⟨hP1, hD1⟩ := hB
  rw [ht] at hP1
  have hJ := vb_join (ws' := (cwX cI a r703.2 ++ cwM cI b yW)) hP hD [0, 1, 2, 3, 4, 5, 6, 7, 8, 9, 10, 11, 12, 13, 14, 15, 16, 17, 18, 19, 20, 21, 22, 23] [24, 25, 26, 27, 28, 29, 30, 31, 32, 33] [10, 11, 12, 13, 14, 15, 16, 17, 18, 19, 20, 21, 22, 23, 24, 25, 26, 27, 28, 29, 30, 31, 32, 33, 0, 1, 2, 3, 4, 5, 6, 7, 8, 9] rfl rfl (by decide) (by decide) hk1 hFc hP1 hD1 rfl (by decide) rfl
  clear hP hD hPc hDc hFc hP1 hD1 hk1 hz1 ht hvm hG
  obtain ⟨hP, hD⟩ := hJ
  refine lv_aload_n hx hb dL_law_706 rfl (lv_at hl 2 rfl) ?_
  refine lv_aload_n hx hb dL_law_707 rfl (lv_at hl 0 rfl) ?_
  refine lv_iload_n hx hb dL_law_708 rfl (lv_at hl 3 rfl) ?_
  refine lv_iconst (v := nI 1) hx hb dL_law_709 (by decide) ?_
  refine lv_iadd hx hb dL_law_710 ?_
  refine cki hF (fun hi hF => ?_)
  refine va_sld hx hb hX hbl hbA hS hi dL_law_711 ?_
  have hPc := hP.sub (ws' := (cwM cI b yW)) [24, 25, 26, 27, 28, 29, 30, 31, 32, 33] rfl
  have hDc := hD.sub (ws' := (cwM cI b yW)) [24, 25, 26, 27, 28, 29, 30, 31, 32, 33] (by decide) rfl
  have hFc := va_free (wc := (cwM cI b yW)) hD hS hA [24, 25, 26, 27, 28, 29, 30, 31, 32, 33] rfl
  refine bd hF (fun r712 hG hF => ?_)
  refine va_calli (va_runV (As := [.int (xs (x3 + (nI 1)).toNatClampNeg)]) (rest := [.int r703.1]) ⟨hx, hb, hml, hown, hts⟩ (c_X3_silent l dC dI cI sf H.size N b yW (xs (x3 + (nI 1)).toNatClampNeg) r712 hG) (cwV 1 hts gL_law_X3_silent rfl rfl rfl (by decide +kernel) ⟨Nat.le_of_ble_eq_true rfl, Nat.le_of_ble_eq_true rfl⟩) ⟨fun a U g mk q => ⟨q.1, q.2.call⟩, va_recv hK hP (ci := 3) (q0 := 24) rfl rfl, fun U hU hW => ⟨rfl, PB.of hU hW hPc hK hDc hNN hSF hS hFc⟩⟩ rfl rfl hl.1 rfl (lv_room (Nat.le_of_ble_eq_true rfl)) dL_law_712 ⟨Nat.le_of_ble_eq_true rfl, Nat.le_of_ble_eq_true rfl⟩) hS (fun q _ h => hFc q h) hFc (fun z_ u_ t H locs ht hvm hw hB hz1 hk1 hS => ?_)
  subst z_
  obtain ⟨hP1, hD1⟩ := hB
  rw [ht] at hP1
  have hJ := vb_join (ws' := (cwX cI a r703.2 ++ cwM cI b r712.2)) hP hD [24, 25, 26, 27, 28, 29, 30, 31, 32, 33] [0, 1, 2, 3, 4, 5, 6, 7, 8, 9, 10, 11, 12, 13, 14, 15, 16, 17, 18, 19, 20, 21, 22, 23] [0, 1, 2, 3, 4, 5, 6, 7, 8, 9, 10, 11, 12, 13, 14, 15, 16, 17, 18, 19, 20, 21, 22, 23, 24, 25, 26, 27, 28, 29, 30, 31, 32, 33] rfl rfl (by decide) (by decide) hk1 hFc hP1 hD1 rfl (by decide) rfl
  clear hP hD hPc hDc hFc hP1 hD1 hk1 hz1 ht hvm hG
  obtain ⟨hP, hD⟩ := hJ
  refine lv_icmp_eq (tgt := 1186) hx hb dL_law_715 (by decide) (fun hc => ?_) (fun hc => ?_)
  · have hF := ift hc hF
    exact kJ1186 r703.2 r712.2 x3 _ _ _ hF hP hD hS (lv_sub hl [0, 1, 2, 3] rfl)
  · have hF := iff_ hc hF
    refine lv_iconst (v := nI 0) hx hb dL_law_718 (by decide) ?_
    exact nn hF
set_option maxHeartbeats 8000000 in
set_option maxRecDepth 100000 in
theorem law_a20 {p : Program} {e : Env} {s : State} {m : MethodId} {below : List Frame} {meth : Method} {c : Code} (l : Launch) (dC : Nat → ClassId) (dI : Nat → Nat → Nat) (cI : ClassId) (sf : SFP) (N : Nat) {bs L : Nat} {xs : Nat → Int32} (C0 : lw_At p s m meth c bs L xs) (a b : Nat → Nat) (hNN : NN s) (A : Nat → Prop) (hAe : A = fun q : Nat => s.heap.size ≤ q) (hSF : SF sf A s s.heap) (hK : va_K (dC, dI) vwCl [(cI, .int)] s) (r : Unit) (kA : XS → MS → Int32 → Option Unit) (kJ1186 : ∀ (xW : XS) (yW : MS) (x3 : Int32) (H : Heap) (locs : List Loc) (ls : Array Slot), kA xW yW x3 = some r → va_P (dC, dI) vwCl (cwX cI a xW ++ cwM cI b yW) H → va_D A (cwX cI a xW ++ cwM cI b yW) → va_S A s.heap H locs → lv_has ls 4 [(0, .ref bs), (1, .ref (a 0)), (2, .ref (b 0)), (3, .int x3)] → W p l e room_1 s m #[Value.ref bs] below meth c H locs 40 1000 (lw_Z below #[Value.ref bs] s) (F0 m 1186 ls [])) (xW : XS) (yW : MS) (x3 : Int32) (hF : F_L_law_a20 N xs L kA xW yW x3 = some r) {H : Heap} {locs : List Loc} (hP : va_P (dC, dI) vwCl (cwX cI a xW ++ cwM cI b yW) H) (hD : va_D A (cwX cI a xW ++ cwM cI b yW)) (hS : va_S A s.heap H locs) {ls : Array Slot} (hl : lv_has ls 4 [(0, .ref bs), (1, .ref (a 0)), (2, .ref (b 0)), (3, .int x3)]) : W p l e room_1 s m #[Value.ref bs] below meth c H locs 40 1000 (lw_Z below #[Value.ref bs] s) (F0 m 720 ls []) := by
  obtain ⟨hx, hb, hr, hml, hown, hts0, hX, hbl, hlocks, hgv⟩ := id C0
  have hown : s.vm.findClass RL = some m.cls := hown
  have hts : ∀ w ∈ wsL_law, w.before #[Value.ref bs] s = true := fun w h => hts0 w (wsL_law_in w h)
  have hbA : ¬ A bs := by rw [hAe]; exact Nat.not_le.mpr hbl
  have hA : ∀ q : Nat, s.heap.size ≤ q → A q := fun q h => by rw [hAe]; exact h
  rw [F_L_law_a20] at hF
  refine lv_aload_n hx hb dL_law_720 rfl (lv_at hl 1 rfl) ?_
  refine lv_aload_n hx hb dL_law_721 rfl (lv_at hl 0 rfl) ?_
  refine lv_iload_n hx hb dL_law_722 rfl (lv_at hl 3 rfl) ?_
  refine lv_iconst (v := nI 1) hx hb dL_law_723 (by decide) ?_
  refine lv_iadd hx hb dL_law_724 ?_
  refine cki hF (fun hi hF => ?_)
  refine va_sld hx hb hX hbl hbA hS hi dL_law_725 ?_
  refine lv_aload_n hx hb dL_law_726 rfl (lv_at hl 0 rfl) ?_
  refine lv_iload_n hx hb dL_law_727 rfl (lv_at hl 3 rfl) ?_
  refine lv_iconst (v := nI 2) hx hb dL_law_728 (by decide) ?_
  refine lv_iadd hx hb dL_law_729 ?_
  refine cki hF (fun hi hF => ?_)
  refine va_sld hx hb hX hbl hbA hS hi dL_law_730 ?_
  have hPc := hP.sub (ws' := (cwX cI a xW)) [0, 1, 2, 3, 4, 5, 6, 7, 8, 9, 10, 11, 12, 13, 14, 15, 16, 17, 18, 19, 20, 21, 22, 23] rfl
  have hDc := hD.sub (ws' := (cwX cI a xW)) [0, 1, 2, 3, 4, 5, 6, 7, 8, 9, 10, 11, 12, 13, 14, 15, 16, 17, 18, 19, 20, 21, 22, 23] (by decide) rfl
  have hFc := va_free (wc := (cwX cI a xW)) hD hS hA [0, 1, 2, 3, 4, 5, 6, 7, 8, 9, 10, 11, 12, 13, 14, 15, 16, 17, 18, 19, 20, 21, 22, 23] rfl
  refine bd hF (fun r731 hG hF => ?_)
  refine va_calli (va_runV (As := [.int (xs (x3 + (nI 1)).toNatClampNeg), .int (xs (x3 + (nI 2)).toNatClampNeg)]) (rest := []) ⟨hx, hb, hml, hown, hts⟩ (c_X2_lives l dC dI cI sf H.size N a xW (xs (x3 + (nI 1)).toNatClampNeg) (xs (x3 + (nI 2)).toNatClampNeg) r731 hG) (cwV 2 hts gL_law_X2_lives rfl rfl rfl (by decide +kernel) ⟨Nat.le_of_ble_eq_true rfl, Nat.le_of_ble_eq_true rfl⟩) ⟨fun a U g mk q => ⟨q.1, q.2.call⟩, va_recv hK hP (ci := 2) (q0 := 0) rfl rfl, fun U hU hW => ⟨rfl, PB.of hU hW hPc hK hDc hNN hSF hS hFc⟩⟩ rfl rfl hl.1 rfl (lv_room (Nat.le_of_ble_eq_true rfl)) dL_law_731 ⟨Nat.le_of_ble_eq_true rfl, Nat.le_of_ble_eq_true rfl⟩) hS (fun q _ h => hFc q h) hFc (fun z_ u_ t H locs ht hvm hw hB hz1 hk1 hS => ?_)
  subst z_
  obtain ⟨hP1, hD1⟩ := hB
  rw [ht] at hP1
  have hJ := vb_join (ws' := (cwX cI a r731.2 ++ cwM cI b yW)) hP hD [0, 1, 2, 3, 4, 5, 6, 7, 8, 9, 10, 11, 12, 13, 14, 15, 16, 17, 18, 19, 20, 21, 22, 23] [24, 25, 26, 27, 28, 29, 30, 31, 32, 33] [10, 11, 12, 13, 14, 15, 16, 17, 18, 19, 20, 21, 22, 23, 24, 25, 26, 27, 28, 29, 30, 31, 32, 33, 0, 1, 2, 3, 4, 5, 6, 7, 8, 9] rfl rfl (by decide) (by decide) hk1 hFc hP1 hD1 rfl (by decide) rfl
  clear hP hD hPc hDc hFc hP1 hD1 hk1 hz1 ht hvm hG
  obtain ⟨hP, hD⟩ := hJ
  refine lv_aload_n hx hb dL_law_734 rfl (lv_at hl 2 rfl) ?_
  refine lv_aload_n hx hb dL_law_735 rfl (lv_at hl 0 rfl) ?_
  refine lv_iload_n hx hb dL_law_736 rfl (lv_at hl 3 rfl) ?_
  refine lv_iconst (v := nI 1) hx hb dL_law_737 (by decide) ?_
  refine lv_iadd hx hb dL_law_738 ?_
  refine cki hF (fun hi hF => ?_)
  refine va_sld hx hb hX hbl hbA hS hi dL_law_739 ?_
  refine lv_aload_n hx hb dL_law_740 rfl (lv_at hl 0 rfl) ?_
  refine lv_iload_n hx hb dL_law_741 rfl (lv_at hl 3 rfl) ?_
  refine lv_iconst (v := nI 2) hx hb dL_law_742 (by decide) ?_
  refine lv_iadd hx hb dL_law_743 ?_
  refine cki hF (fun hi hF => ?_)
  refine va_sld hx hb hX hbl hbA hS hi dL_law_744 ?_
  have hPc := hP.sub (ws' := (cwM cI b yW)) [24, 25, 26, 27, 28, 29, 30, 31, 32, 33] rfl
  have hDc := hD.sub (ws' := (cwM cI b yW)) [24, 25, 26, 27, 28, 29, 30, 31, 32, 33] (by decide) rfl
  have hFc := va_free (wc := (cwM cI b yW)) hD hS hA [24, 25, 26, 27, 28, 29, 30, 31, 32, 33] rfl
  refine bd hF (fun r745 hG hF => ?_)
  refine va_calli (va_runV (As := [.int (xs (x3 + (nI 1)).toNatClampNeg), .int (xs (x3 + (nI 2)).toNatClampNeg)]) (rest := [.int r731.1]) ⟨hx, hb, hml, hown, hts⟩ (c_X3_lives l dC dI cI sf H.size N b yW (xs (x3 + (nI 1)).toNatClampNeg) (xs (x3 + (nI 2)).toNatClampNeg) r745 hG) (cwV 2 hts gL_law_X3_lives rfl rfl rfl (by decide +kernel) ⟨Nat.le_of_ble_eq_true rfl, Nat.le_of_ble_eq_true rfl⟩) ⟨fun a U g mk q => ⟨q.1, q.2.call⟩, va_recv hK hP (ci := 3) (q0 := 24) rfl rfl, fun U hU hW => ⟨rfl, PB.of hU hW hPc hK hDc hNN hSF hS hFc⟩⟩ rfl rfl hl.1 rfl (lv_room (Nat.le_of_ble_eq_true rfl)) dL_law_745 ⟨Nat.le_of_ble_eq_true rfl, Nat.le_of_ble_eq_true rfl⟩) hS (fun q _ h => hFc q h) hFc (fun z_ u_ t H locs ht hvm hw hB hz1 hk1 hS => ?_)
  subst z_
  obtain ⟨hP1, hD1⟩ := hB
  rw [ht] at hP1
  have hJ := vb_join (ws' := (cwX cI a r731.2 ++ cwM cI b r745.2)) hP hD [24, 25, 26, 27, 28, 29, 30, 31, 32, 33] [0, 1, 2, 3, 4, 5, 6, 7, 8, 9, 10, 11, 12, 13, 14, 15, 16, 17, 18, 19, 20, 21, 22, 23] [0, 1, 2, 3, 4, 5, 6, 7, 8, 9, 10, 11, 12, 13, 14, 15, 16, 17, 18, 19, 20, 21, 22, 23, 24, 25, 26, 27, 28, 29, 30, 31, 32, 33] rfl rfl (by decide) (by decide) hk1 hFc hP1 hD1 rfl (by decide) rfl
  clear hP hD hPc hDc hFc hP1 hD1 hk1 hz1 ht hvm hG
  obtain ⟨hP, hD⟩ := hJ
  refine lv_icmp_eq (tgt := 1186) hx hb dL_law_748 (by decide) (fun hc => ?_) (fun hc => ?_)
  · have hF := ift hc hF
    exact kJ1186 r731.2 r745.2 x3 _ _ _ hF hP hD hS (lv_sub hl [0, 1, 2, 3] rfl)
  · have hF := iff_ hc hF
    refine lv_iconst (v := nI 0) hx hb dL_law_751 (by decide) ?_
    exact nn hF
set_option maxHeartbeats 8000000 in
set_option maxRecDepth 100000 in
theorem law_a21 {p : Program} {e : Env} {s : State} {m : MethodId} {below : List Frame} {meth : Method} {c : Code} (l : Launch) (dC : Nat → ClassId) (dI : Nat → Nat → Nat) (cI : ClassId) (sf : SFP) (N : Nat) {bs L : Nat} {xs : Nat → Int32} (C0 : lw_At p s m meth c bs L xs) (a b : Nat → Nat) (hNN : NN s) (A : Nat → Prop) (hAe : A = fun q : Nat => s.heap.size ≤ q) (hSF : SF sf A s s.heap) (hK : va_K (dC, dI) vwCl [(cI, .int)] s) (r : Unit) (kA : XS → MS → Int32 → Option Unit) (kJ1186 : ∀ (xW : XS) (yW : MS) (x3 : Int32) (H : Heap) (locs : List Loc) (ls : Array Slot), kA xW yW x3 = some r → va_P (dC, dI) vwCl (cwX cI a xW ++ cwM cI b yW) H → va_D A (cwX cI a xW ++ cwM cI b yW) → va_S A s.heap H locs → lv_has ls 4 [(0, .ref bs), (1, .ref (a 0)), (2, .ref (b 0)), (3, .int x3)] → W p l e room_1 s m #[Value.ref bs] below meth c H locs 40 1000 (lw_Z below #[Value.ref bs] s) (F0 m 1186 ls [])) (xW : XS) (yW : MS) (x3 : Int32) (hF : F_L_law_a21 N xs L kA xW yW x3 = some r) {H : Heap} {locs : List Loc} (hP : va_P (dC, dI) vwCl (cwX cI a xW ++ cwM cI b yW) H) (hD : va_D A (cwX cI a xW ++ cwM cI b yW)) (hS : va_S A s.heap H locs) {ls : Array Slot} (hl : lv_has ls 4 [(0, .ref bs), (1, .ref (a 0)), (2, .ref (b 0)), (3, .int x3)]) : W p l e room_1 s m #[Value.ref bs] below meth c H locs 40 1000 (lw_Z below #[Value.ref bs] s) (F0 m 753 ls []) := by
  obtain ⟨hx, hb, hr, hml, hown, hts0, hX, hbl, hlocks, hgv⟩ := id C0
  have hown : s.vm.findClass RL = some m.cls := hown
  have hts : ∀ w ∈ wsL_law, w.before #[Value.ref bs] s = true := fun w h => hts0 w (wsL_law_in w h)
  have hbA : ¬ A bs := by rw [hAe]; exact Nat.not_le.mpr hbl
  have hA : ∀ q : Nat, s.heap.size ≤ q → A q := fun q h => by rw [hAe]; exact h
  rw [F_L_law_a21] at hF
  refine lv_aload_n hx hb dL_law_753 rfl (lv_at hl 1 rfl) ?_
  refine lv_aload_n hx hb dL_law_754 rfl (lv_at hl 0 rfl) ?_
  refine lv_iload_n hx hb dL_law_755 rfl (lv_at hl 3 rfl) ?_
  refine lv_iconst (v := nI 1) hx hb dL_law_756 (by decide) ?_
  refine lv_iadd hx hb dL_law_757 ?_
  refine cki hF (fun hi hF => ?_)
  refine va_sld hx hb hX hbl hbA hS hi dL_law_758 ?_
  have hPc := hP.sub (ws' := (cwX cI a xW)) [0, 1, 2, 3, 4, 5, 6, 7, 8, 9, 10, 11, 12, 13, 14, 15, 16, 17, 18, 19, 20, 21, 22, 23] rfl
  have hDc := hD.sub (ws' := (cwX cI a xW)) [0, 1, 2, 3, 4, 5, 6, 7, 8, 9, 10, 11, 12, 13, 14, 15, 16, 17, 18, 19, 20, 21, 22, 23] (by decide) rfl
  have hFc := va_free (wc := (cwX cI a xW)) hD hS hA [0, 1, 2, 3, 4, 5, 6, 7, 8, 9, 10, 11, 12, 13, 14, 15, 16, 17, 18, 19, 20, 21, 22, 23] rfl
  refine bd hF (fun r759 hG hF => ?_)
  refine va_calli (va_runV (As := [.int (xs (x3 + (nI 1)).toNatClampNeg)]) (rest := []) ⟨hx, hb, hml, hown, hts⟩ (c_X2_heir l dC dI cI sf H.size N a xW (xs (x3 + (nI 1)).toNatClampNeg) r759 hG) (cwV 1 hts gL_law_X2_heir rfl rfl rfl (by decide +kernel) ⟨Nat.le_of_ble_eq_true rfl, Nat.le_of_ble_eq_true rfl⟩) ⟨fun a U g mk q => ⟨q.1, q.2.call⟩, va_recv hK hP (ci := 2) (q0 := 0) rfl rfl, fun U hU hW => ⟨rfl, PB.of hU hW hPc hK hDc hNN hSF hS hFc⟩⟩ rfl rfl hl.1 rfl (lv_room (Nat.le_of_ble_eq_true rfl)) dL_law_759 ⟨Nat.le_of_ble_eq_true rfl, Nat.le_of_ble_eq_true rfl⟩) hS (fun q _ h => hFc q h) hFc (fun z_ u_ t H locs ht hvm hw hB hz1 hk1 hS => ?_)
  subst z_
  obtain ⟨hP1, hD1⟩ := hB
  rw [ht] at hP1
  have hJ := vb_join (ws' := (cwX cI a r759.2 ++ cwM cI b yW)) hP hD [0, 1, 2, 3, 4, 5, 6, 7, 8, 9, 10, 11, 12, 13, 14, 15, 16, 17, 18, 19, 20, 21, 22, 23] [24, 25, 26, 27, 28, 29, 30, 31, 32, 33] [10, 11, 12, 13, 14, 15, 16, 17, 18, 19, 20, 21, 22, 23, 24, 25, 26, 27, 28, 29, 30, 31, 32, 33, 0, 1, 2, 3, 4, 5, 6, 7, 8, 9] rfl rfl (by decide) (by decide) hk1 hFc hP1 hD1 rfl (by decide) rfl
  clear hP hD hPc hDc hFc hP1 hD1 hk1 hz1 ht hvm hG
  obtain ⟨hP, hD⟩ := hJ
  refine lv_aload_n hx hb dL_law_762 rfl (lv_at hl 2 rfl) ?_
  refine lv_aload_n hx hb dL_law_763 rfl (lv_at hl 0 rfl) ?_
  refine lv_iload_n hx hb dL_law_764 rfl (lv_at hl 3 rfl) ?_
  refine lv_iconst (v := nI 1) hx hb dL_law_765 (by decide) ?_
  refine lv_iadd hx hb dL_law_766 ?_
  refine cki hF (fun hi hF => ?_)
  refine va_sld hx hb hX hbl hbA hS hi dL_law_767 ?_
  have hPc := hP.sub (ws' := (cwM cI b yW)) [24, 25, 26, 27, 28, 29, 30, 31, 32, 33] rfl
  have hDc := hD.sub (ws' := (cwM cI b yW)) [24, 25, 26, 27, 28, 29, 30, 31, 32, 33] (by decide) rfl
  have hFc := va_free (wc := (cwM cI b yW)) hD hS hA [24, 25, 26, 27, 28, 29, 30, 31, 32, 33] rfl
  refine bd hF (fun r768 hG hF => ?_)
  refine va_calli (va_runV (As := [.int (xs (x3 + (nI 1)).toNatClampNeg)]) (rest := [.int r759.1]) ⟨hx, hb, hml, hown, hts⟩ (c_X3_heir l dC dI cI sf H.size N b yW (xs (x3 + (nI 1)).toNatClampNeg) r768 hG) (cwV 1 hts gL_law_X3_heir rfl rfl rfl (by decide +kernel) ⟨Nat.le_of_ble_eq_true rfl, Nat.le_of_ble_eq_true rfl⟩) ⟨fun a U g mk q => ⟨q.1, q.2.call⟩, va_recv hK hP (ci := 3) (q0 := 24) rfl rfl, fun U hU hW => ⟨rfl, PB.of hU hW hPc hK hDc hNN hSF hS hFc⟩⟩ rfl rfl hl.1 rfl (lv_room (Nat.le_of_ble_eq_true rfl)) dL_law_768 ⟨Nat.le_of_ble_eq_true rfl, Nat.le_of_ble_eq_true rfl⟩) hS (fun q _ h => hFc q h) hFc (fun z_ u_ t H locs ht hvm hw hB hz1 hk1 hS => ?_)
  subst z_
  obtain ⟨hP1, hD1⟩ := hB
  rw [ht] at hP1
  have hJ := vb_join (ws' := (cwX cI a r759.2 ++ cwM cI b r768.2)) hP hD [24, 25, 26, 27, 28, 29, 30, 31, 32, 33] [0, 1, 2, 3, 4, 5, 6, 7, 8, 9, 10, 11, 12, 13, 14, 15, 16, 17, 18, 19, 20, 21, 22, 23] [0, 1, 2, 3, 4, 5, 6, 7, 8, 9, 10, 11, 12, 13, 14, 15, 16, 17, 18, 19, 20, 21, 22, 23, 24, 25, 26, 27, 28, 29, 30, 31, 32, 33] rfl rfl (by decide) (by decide) hk1 hFc hP1 hD1 rfl (by decide) rfl
  clear hP hD hPc hDc hFc hP1 hD1 hk1 hz1 ht hvm hG
  obtain ⟨hP, hD⟩ := hJ
  refine lv_icmp_eq (tgt := 1186) hx hb dL_law_771 (by decide) (fun hc => ?_) (fun hc => ?_)
  · have hF := ift hc hF
    exact kJ1186 r759.2 r768.2 x3 _ _ _ hF hP hD hS (lv_sub hl [0, 1, 2, 3] rfl)
  · have hF := iff_ hc hF
    refine lv_iconst (v := nI 0) hx hb dL_law_774 (by decide) ?_
    exact nn hF
set_option maxHeartbeats 8000000 in
set_option maxRecDepth 100000 in
theorem law_a22 {p : Program} {e : Env} {s : State} {m : MethodId} {below : List Frame} {meth : Method} {c : Code} (l : Launch) (dC : Nat → ClassId) (dI : Nat → Nat → Nat) (cI : ClassId) (sf : SFP) (N : Nat) {bs L : Nat} {xs : Nat → Int32} (C0 : lw_At p s m meth c bs L xs) (a b : Nat → Nat) (hNN : NN s) (A : Nat → Prop) (hAe : A = fun q : Nat => s.heap.size ≤ q) (hSF : SF sf A s s.heap) (hK : va_K (dC, dI) vwCl [(cI, .int)] s) (r : Unit) (kA : XS → MS → Int32 → Option Unit) (kJ1186 : ∀ (xW : XS) (yW : MS) (x3 : Int32) (H : Heap) (locs : List Loc) (ls : Array Slot), kA xW yW x3 = some r → va_P (dC, dI) vwCl (cwX cI a xW ++ cwM cI b yW) H → va_D A (cwX cI a xW ++ cwM cI b yW) → va_S A s.heap H locs → lv_has ls 4 [(0, .ref bs), (1, .ref (a 0)), (2, .ref (b 0)), (3, .int x3)] → W p l e room_1 s m #[Value.ref bs] below meth c H locs 40 1000 (lw_Z below #[Value.ref bs] s) (F0 m 1186 ls [])) (xW : XS) (yW : MS) (x3 : Int32) (hF : F_L_law_a22 N xs L kA xW yW x3 = some r) {H : Heap} {locs : List Loc} (hP : va_P (dC, dI) vwCl (cwX cI a xW ++ cwM cI b yW) H) (hD : va_D A (cwX cI a xW ++ cwM cI b yW)) (hS : va_S A s.heap H locs) {ls : Array Slot} (hl : lv_has ls 4 [(0, .ref bs), (1, .ref (a 0)), (2, .ref (b 0)), (3, .int x3)]) : W p l e room_1 s m #[Value.ref bs] below meth c H locs 40 1000 (lw_Z below #[Value.ref bs] s) (F0 m 776 ls []) := by
  obtain ⟨hx, hb, hr, hml, hown, hts0, hX, hbl, hlocks, hgv⟩ := id C0
  have hown : s.vm.findClass RL = some m.cls := hown
  have hts : ∀ w ∈ wsL_law, w.before #[Value.ref bs] s = true := fun w h => hts0 w (wsL_law_in w h)
  have hbA : ¬ A bs := by rw [hAe]; exact Nat.not_le.mpr hbl
  have hA : ∀ q : Nat, s.heap.size ≤ q → A q := fun q h => by rw [hAe]; exact h
  rw [F_L_law_a22] at hF
  refine lv_aload_n hx hb dL_law_776 rfl (lv_at hl 1 rfl) ?_
  refine lv_aload_n hx hb dL_law_777 rfl (lv_at hl 0 rfl) ?_
  refine lv_iload_n hx hb dL_law_778 rfl (lv_at hl 3 rfl) ?_
  refine lv_iconst (v := nI 1) hx hb dL_law_779 (by decide) ?_
  refine lv_iadd hx hb dL_law_780 ?_
  refine cki hF (fun hi hF => ?_)
  refine va_sld hx hb hX hbl hbA hS hi dL_law_781 ?_
  have hPc := hP.sub (ws' := (cwX cI a xW)) [0, 1, 2, 3, 4, 5, 6, 7, 8, 9, 10, 11, 12, 13, 14, 15, 16, 17, 18, 19, 20, 21, 22, 23] rfl
  have hDc := hD.sub (ws' := (cwX cI a xW)) [0, 1, 2, 3, 4, 5, 6, 7, 8, 9, 10, 11, 12, 13, 14, 15, 16, 17, 18, 19, 20, 21, 22, 23] (by decide) rfl
  have hFc := va_free (wc := (cwX cI a xW)) hD hS hA [0, 1, 2, 3, 4, 5, 6, 7, 8, 9, 10, 11, 12, 13, 14, 15, 16, 17, 18, 19, 20, 21, 22, 23] rfl
  refine bd hF (fun r782 hG hF => ?_)
  refine va_calli (va_runV (As := [.int (xs (x3 + (nI 1)).toNatClampNeg)]) (rest := []) ⟨hx, hb, hml, hown, hts⟩ (c_X2_so l dC dI cI sf H.size N a xW (xs (x3 + (nI 1)).toNatClampNeg) r782 hG) (cwV 1 hts gL_law_X2_so rfl rfl rfl (by decide +kernel) ⟨Nat.le_of_ble_eq_true rfl, Nat.le_of_ble_eq_true rfl⟩) ⟨fun a U g mk q => ⟨q.1, q.2.call⟩, va_recv hK hP (ci := 2) (q0 := 0) rfl rfl, fun U hU hW => ⟨rfl, PB.of hU hW hPc hK hDc hNN hSF hS hFc⟩⟩ rfl rfl hl.1 rfl (lv_room (Nat.le_of_ble_eq_true rfl)) dL_law_782 ⟨Nat.le_of_ble_eq_true rfl, Nat.le_of_ble_eq_true rfl⟩) hS (fun q _ h => hFc q h) hFc (fun z_ u_ t H locs ht hvm hw hB hz1 hk1 hS => ?_)
  subst z_
  obtain ⟨hP1, hD1⟩ := hB
  rw [ht] at hP1
  have hJ := vb_join (ws' := (cwX cI a r782.2 ++ cwM cI b yW)) hP hD [0, 1, 2, 3, 4, 5, 6, 7, 8, 9, 10, 11, 12, 13, 14, 15, 16, 17, 18, 19, 20, 21, 22, 23] [24, 25, 26, 27, 28, 29, 30, 31, 32, 33] [10, 11, 12, 13, 14, 15, 16, 17, 18, 19, 20, 21, 22, 23, 24, 25, 26, 27, 28, 29, 30, 31, 32, 33, 0, 1, 2, 3, 4, 5, 6, 7, 8, 9] rfl rfl (by decide) (by decide) hk1 hFc hP1 hD1 rfl (by decide) rfl
  clear hP hD hPc hDc hFc hP1 hD1 hk1 hz1 ht hvm hG
  obtain ⟨hP, hD⟩ := hJ
  refine lv_aload_n hx hb dL_law_785 rfl (lv_at hl 2 rfl) ?_
  refine lv_aload_n hx hb dL_law_786 rfl (lv_at hl 0 rfl) ?_
  refine lv_iload_n hx hb dL_law_787 rfl (lv_at hl 3 rfl) ?_
  refine lv_iconst (v := nI 1) hx hb dL_law_788 (by decide) ?_
  refine lv_iadd hx hb dL_law_789 ?_
  refine cki hF (fun hi hF => ?_)
  refine va_sld hx hb hX hbl hbA hS hi dL_law_790 ?_
  have hPc := hP.sub (ws' := (cwM cI b yW)) [24, 25, 26, 27, 28, 29, 30, 31, 32, 33] rfl
  have hDc := hD.sub (ws' := (cwM cI b yW)) [24, 25, 26, 27, 28, 29, 30, 31, 32, 33] (by decide) rfl
  have hFc := va_free (wc := (cwM cI b yW)) hD hS hA [24, 25, 26, 27, 28, 29, 30, 31, 32, 33] rfl
  refine bd hF (fun r791 hG hF => ?_)
  refine va_calli (va_runV (As := [.int (xs (x3 + (nI 1)).toNatClampNeg)]) (rest := [.int r782.1]) ⟨hx, hb, hml, hown, hts⟩ (c_X3_so l dC dI cI sf H.size N b yW (xs (x3 + (nI 1)).toNatClampNeg) r791 hG) (cwV 1 hts gL_law_X3_so rfl rfl rfl (by decide +kernel) ⟨Nat.le_of_ble_eq_true rfl, Nat.le_of_ble_eq_true rfl⟩) ⟨fun a U g mk q => ⟨q.1, q.2.call⟩, va_recv hK hP (ci := 3) (q0 := 24) rfl rfl, fun U hU hW => ⟨rfl, PB.of hU hW hPc hK hDc hNN hSF hS hFc⟩⟩ rfl rfl hl.1 rfl (lv_room (Nat.le_of_ble_eq_true rfl)) dL_law_791 ⟨Nat.le_of_ble_eq_true rfl, Nat.le_of_ble_eq_true rfl⟩) hS (fun q _ h => hFc q h) hFc (fun z_ u_ t H locs ht hvm hw hB hz1 hk1 hS => ?_)
  subst z_
  obtain ⟨hP1, hD1⟩ := hB
  rw [ht] at hP1
  have hJ := vb_join (ws' := (cwX cI a r782.2 ++ cwM cI b r791.2)) hP hD [24, 25, 26, 27, 28, 29, 30, 31, 32, 33] [0, 1, 2, 3, 4, 5, 6, 7, 8, 9, 10, 11, 12, 13, 14, 15, 16, 17, 18, 19, 20, 21, 22, 23] [0, 1, 2, 3, 4, 5, 6, 7, 8, 9, 10, 11, 12, 13, 14, 15, 16, 17, 18, 19, 20, 21, 22, 23, 24, 25, 26, 27, 28, 29, 30, 31, 32, 33] rfl rfl (by decide) (by decide) hk1 hFc hP1 hD1 rfl (by decide) rfl
  clear hP hD hPc hDc hFc hP1 hD1 hk1 hz1 ht hvm hG
  obtain ⟨hP, hD⟩ := hJ
  refine lv_icmp_eq (tgt := 1186) hx hb dL_law_794 (by decide) (fun hc => ?_) (fun hc => ?_)
  · have hF := ift hc hF
    exact kJ1186 r782.2 r791.2 x3 _ _ _ hF hP hD hS (lv_sub hl [0, 1, 2, 3] rfl)
  · have hF := iff_ hc hF
    refine lv_iconst (v := nI 0) hx hb dL_law_797 (by decide) ?_
    exact nn hF
set_option maxHeartbeats 8000000 in
set_option maxRecDepth 100000 in
theorem law_a23 {p : Program} {e : Env} {s : State} {m : MethodId} {below : List Frame} {meth : Method} {c : Code} (l : Launch) (dC : Nat → ClassId) (dI : Nat → Nat → Nat) (cI : ClassId) (sf : SFP) (N : Nat) {bs L : Nat} {xs : Nat → Int32} (C0 : lw_At p s m meth c bs L xs) (a b : Nat → Nat) (hNN : NN s) (A : Nat → Prop) (hAe : A = fun q : Nat => s.heap.size ≤ q) (hSF : SF sf A s s.heap) (hK : va_K (dC, dI) vwCl [(cI, .int)] s) (r : Unit) (kA : XS → MS → Int32 → Option Unit) (kJ1186 : ∀ (xW : XS) (yW : MS) (x3 : Int32) (H : Heap) (locs : List Loc) (ls : Array Slot), kA xW yW x3 = some r → va_P (dC, dI) vwCl (cwX cI a xW ++ cwM cI b yW) H → va_D A (cwX cI a xW ++ cwM cI b yW) → va_S A s.heap H locs → lv_has ls 4 [(0, .ref bs), (1, .ref (a 0)), (2, .ref (b 0)), (3, .int x3)] → W p l e room_1 s m #[Value.ref bs] below meth c H locs 40 1000 (lw_Z below #[Value.ref bs] s) (F0 m 1186 ls [])) (xW : XS) (yW : MS) (x3 : Int32) (hF : F_L_law_a23 N xs L kA xW yW x3 = some r) {H : Heap} {locs : List Loc} (hP : va_P (dC, dI) vwCl (cwX cI a xW ++ cwM cI b yW) H) (hD : va_D A (cwX cI a xW ++ cwM cI b yW)) (hS : va_S A s.heap H locs) {ls : Array Slot} (hl : lv_has ls 4 [(0, .ref bs), (1, .ref (a 0)), (2, .ref (b 0)), (3, .int x3)]) : W p l e room_1 s m #[Value.ref bs] below meth c H locs 40 1000 (lw_Z below #[Value.ref bs] s) (F0 m 799 ls []) := by
  obtain ⟨hx, hb, hr, hml, hown, hts0, hX, hbl, hlocks, hgv⟩ := id C0
  have hown : s.vm.findClass RL = some m.cls := hown
  have hts : ∀ w ∈ wsL_law, w.before #[Value.ref bs] s = true := fun w h => hts0 w (wsL_law_in w h)
  have hbA : ¬ A bs := by rw [hAe]; exact Nat.not_le.mpr hbl
  have hA : ∀ q : Nat, s.heap.size ≤ q → A q := fun q h => by rw [hAe]; exact h
  rw [F_L_law_a23] at hF
  refine lv_aload_n hx hb dL_law_799 rfl (lv_at hl 1 rfl) ?_
  have hPc := hP.sub (ws' := (cwX cI a xW)) [0, 1, 2, 3, 4, 5, 6, 7, 8, 9, 10, 11, 12, 13, 14, 15, 16, 17, 18, 19, 20, 21, 22, 23] rfl
  have hDc := hD.sub (ws' := (cwX cI a xW)) [0, 1, 2, 3, 4, 5, 6, 7, 8, 9, 10, 11, 12, 13, 14, 15, 16, 17, 18, 19, 20, 21, 22, 23] (by decide) rfl
  have hFc := va_free (wc := (cwX cI a xW)) hD hS hA [0, 1, 2, 3, 4, 5, 6, 7, 8, 9, 10, 11, 12, 13, 14, 15, 16, 17, 18, 19, 20, 21, 22, 23] rfl
  refine bd hF (fun r800 hG hF => ?_)
  refine va_calli (va_runV (As := []) (rest := []) ⟨hx, hb, hml, hown, hts⟩ (c_X2_leastLiars l dC dI cI sf H.size N a xW r800 hG) (cwV 0 hts gL_law_X2_leastLiars rfl rfl rfl (by decide +kernel) ⟨Nat.le_of_ble_eq_true rfl, Nat.le_of_ble_eq_true rfl⟩) ⟨fun a U g mk q => ⟨q.1, q.2.call⟩, va_recv hK hP (ci := 2) (q0 := 0) rfl rfl, fun U hU hW => ⟨rfl, PB.of hU hW hPc hK hDc hNN hSF hS hFc⟩⟩ rfl rfl hl.1 rfl (lv_room (Nat.le_of_ble_eq_true rfl)) dL_law_800 ⟨Nat.le_of_ble_eq_true rfl, Nat.le_of_ble_eq_true rfl⟩) hS (fun q _ h => hFc q h) hFc (fun z_ u_ t H locs ht hvm hw hB hz1 hk1 hS => ?_)
  subst z_
  obtain ⟨hP1, hD1⟩ := hB
  rw [ht] at hP1
  have hJ := vb_join (ws' := (cwX cI a xW ++ cwM cI b yW)) hP hD [0, 1, 2, 3, 4, 5, 6, 7, 8, 9, 10, 11, 12, 13, 14, 15, 16, 17, 18, 19, 20, 21, 22, 23] [24, 25, 26, 27, 28, 29, 30, 31, 32, 33] [10, 11, 12, 13, 14, 15, 16, 17, 18, 19, 20, 21, 22, 23, 24, 25, 26, 27, 28, 29, 30, 31, 32, 33, 0, 1, 2, 3, 4, 5, 6, 7, 8, 9] rfl rfl (by decide) (by decide) hk1 hFc hP1 hD1 rfl (by decide) rfl
  clear hP hD hPc hDc hFc hP1 hD1 hk1 hz1 ht hvm hG
  obtain ⟨hP, hD⟩ := hJ
  refine lv_aload_n hx hb dL_law_803 rfl (lv_at hl 2 rfl) ?_
  have hPc := hP.sub (ws' := (cwM cI b yW)) [24, 25, 26, 27, 28, 29, 30, 31, 32, 33] rfl
  have hDc := hD.sub (ws' := (cwM cI b yW)) [24, 25, 26, 27, 28, 29, 30, 31, 32, 33] (by decide) rfl
  have hFc := va_free (wc := (cwM cI b yW)) hD hS hA [24, 25, 26, 27, 28, 29, 30, 31, 32, 33] rfl
  refine bd hF (fun r804 hG hF => ?_)
  refine va_calli (va_runV (As := []) (rest := [.int r800]) ⟨hx, hb, hml, hown, hts⟩ (c_X3_leastLiars l dC dI cI sf H.size N b yW r804 hG) (cwV 0 hts gL_law_X3_leastLiars rfl rfl rfl (by decide +kernel) ⟨Nat.le_of_ble_eq_true rfl, Nat.le_of_ble_eq_true rfl⟩) ⟨fun a U g mk q => ⟨q.1, q.2.call⟩, va_recv hK hP (ci := 3) (q0 := 24) rfl rfl, fun U hU hW => ⟨rfl, PB.of hU hW hPc hK hDc hNN hSF hS hFc⟩⟩ rfl rfl hl.1 rfl (lv_room (Nat.le_of_ble_eq_true rfl)) dL_law_804 ⟨Nat.le_of_ble_eq_true rfl, Nat.le_of_ble_eq_true rfl⟩) hS (fun q _ h => hFc q h) hFc (fun z_ u_ t H locs ht hvm hw hB hz1 hk1 hS => ?_)
  subst z_
  obtain ⟨hP1, hD1⟩ := hB
  rw [ht] at hP1
  have hJ := vb_join (ws' := (cwX cI a xW ++ cwM cI b r804.2)) hP hD [24, 25, 26, 27, 28, 29, 30, 31, 32, 33] [0, 1, 2, 3, 4, 5, 6, 7, 8, 9, 10, 11, 12, 13, 14, 15, 16, 17, 18, 19, 20, 21, 22, 23] [0, 1, 2, 3, 4, 5, 6, 7, 8, 9, 10, 11, 12, 13, 14, 15, 16, 17, 18, 19, 20, 21, 22, 23, 24, 25, 26, 27, 28, 29, 30, 31, 32, 33] rfl rfl (by decide) (by decide) hk1 hFc hP1 hD1 rfl (by decide) rfl
  clear hP hD hPc hDc hFc hP1 hD1 hk1 hz1 ht hvm hG
  obtain ⟨hP, hD⟩ := hJ
  refine lv_icmp_eq (tgt := 1186) hx hb dL_law_807 (by decide) (fun hc => ?_) (fun hc => ?_)
  · have hF := ift hc hF
    exact kJ1186 xW r804.2 x3 _ _ _ hF hP hD hS (lv_sub hl [0, 1, 2, 3] rfl)
  · have hF := iff_ hc hF
    refine lv_iconst (v := nI 0) hx hb dL_law_810 (by decide) ?_
    exact nn hF
set_option maxHeartbeats 8000000 in
set_option maxRecDepth 100000 in
theorem law_a24 {p : Program} {e : Env} {s : State} {m : MethodId} {below : List Frame} {meth : Method} {c : Code} (l : Launch) (dC : Nat → ClassId) (dI : Nat → Nat → Nat) (cI : ClassId) (sf : SFP) (N : Nat) {bs L : Nat} {xs : Nat → Int32} (C0 : lw_At p s m meth c bs L xs) (a b : Nat → Nat) (hNN : NN s) (A : Nat → Prop) (hAe : A = fun q : Nat => s.heap.size ≤ q) (hSF : SF sf A s s.heap) (hK : va_K (dC, dI) vwCl [(cI, .int)] s) (r : Unit) (kA : XS → MS → Int32 → Option Unit) (kJ1186 : ∀ (xW : XS) (yW : MS) (x3 : Int32) (H : Heap) (locs : List Loc) (ls : Array Slot), kA xW yW x3 = some r → va_P (dC, dI) vwCl (cwX cI a xW ++ cwM cI b yW) H → va_D A (cwX cI a xW ++ cwM cI b yW) → va_S A s.heap H locs → lv_has ls 4 [(0, .ref bs), (1, .ref (a 0)), (2, .ref (b 0)), (3, .int x3)] → W p l e room_1 s m #[Value.ref bs] below meth c H locs 40 1000 (lw_Z below #[Value.ref bs] s) (F0 m 1186 ls [])) (xW : XS) (yW : MS) (x3 : Int32) (hF : F_L_law_a24 N xs L kA xW yW x3 = some r) {H : Heap} {locs : List Loc} (hP : va_P (dC, dI) vwCl (cwX cI a xW ++ cwM cI b yW) H) (hD : va_D A (cwX cI a xW ++ cwM cI b yW)) (hS : va_S A s.heap H locs) {ls : Array Slot} (hl : lv_has ls 4 [(0, .ref bs), (1, .ref (a 0)), (2, .ref (b 0)), (3, .int x3)]) : W p l e room_1 s m #[Value.ref bs] below meth c H locs 40 1000 (lw_Z below #[Value.ref bs] s) (F0 m 812 ls []) := by
  obtain ⟨hx, hb, hr, hml, hown, hts0, hX, hbl, hlocks, hgv⟩ := id C0
  have hown : s.vm.findClass RL = some m.cls := hown
  have hts : ∀ w ∈ wsL_law, w.before #[Value.ref bs] s = true := fun w h => hts0 w (wsL_law_in w h)
  have hbA : ¬ A bs := by rw [hAe]; exact Nat.not_le.mpr hbl
  have hA : ∀ q : Nat, s.heap.size ≤ q → A q := fun q h => by rw [hAe]; exact h
  rw [F_L_law_a24] at hF
  refine lv_aload_n hx hb dL_law_812 rfl (lv_at hl 1 rfl) ?_
  refine lv_aload_n hx hb dL_law_813 rfl (lv_at hl 0 rfl) ?_
  refine lv_iload_n hx hb dL_law_814 rfl (lv_at hl 3 rfl) ?_
  refine lv_iconst (v := nI 1) hx hb dL_law_815 (by decide) ?_
  refine lv_iadd hx hb dL_law_816 ?_
  refine cki hF (fun hi hF => ?_)
  refine va_sld hx hb hX hbl hbA hS hi dL_law_817 ?_
  have hPc := hP.sub (ws' := (cwX cI a xW)) [0, 1, 2, 3, 4, 5, 6, 7, 8, 9, 10, 11, 12, 13, 14, 15, 16, 17, 18, 19, 20, 21, 22, 23] rfl
  have hDc := hD.sub (ws' := (cwX cI a xW)) [0, 1, 2, 3, 4, 5, 6, 7, 8, 9, 10, 11, 12, 13, 14, 15, 16, 17, 18, 19, 20, 21, 22, 23] (by decide) rfl
  have hFc := va_free (wc := (cwX cI a xW)) hD hS hA [0, 1, 2, 3, 4, 5, 6, 7, 8, 9, 10, 11, 12, 13, 14, 15, 16, 17, 18, 19, 20, 21, 22, 23] rfl
  refine bd hF (fun r818 hG hF => ?_)
  refine va_calli (va_runV (As := [.int (xs (x3 + (nI 1)).toNatClampNeg)]) (rest := []) ⟨hx, hb, hml, hown, hts⟩ (c_X2_differ l dC dI cI sf H.size N a xW (xs (x3 + (nI 1)).toNatClampNeg) r818 hG) (cwV 1 hts gL_law_X2_differ rfl rfl rfl (by decide +kernel) ⟨Nat.le_of_ble_eq_true rfl, Nat.le_of_ble_eq_true rfl⟩) ⟨fun a U g mk q => ⟨q.1, q.2.call⟩, va_recv hK hP (ci := 2) (q0 := 0) rfl rfl, fun U hU hW => ⟨rfl, PB.of hU hW hPc hK hDc hNN hSF hS hFc⟩⟩ rfl rfl hl.1 rfl (lv_room (Nat.le_of_ble_eq_true rfl)) dL_law_818 ⟨Nat.le_of_ble_eq_true rfl, Nat.le_of_ble_eq_true rfl⟩) hS (fun q _ h => hFc q h) hFc (fun z_ u_ t H locs ht hvm hw hB hz1 hk1 hS => ?_)
  subst z_
  obtain ⟨hP1, hD1⟩ := hB
  rw [ht] at hP1
  have hJ := vb_join (ws' := (cwX cI a r818.2 ++ cwM cI b yW)) hP hD [0, 1, 2, 3, 4, 5, 6, 7, 8, 9, 10, 11, 12, 13, 14, 15, 16, 17, 18, 19, 20, 21, 22, 23] [24, 25, 26, 27, 28, 29, 30, 31, 32, 33] [10, 11, 12, 13, 14, 15, 16, 17, 18, 19, 20, 21, 22, 23, 24, 25, 26, 27, 28, 29, 30, 31, 32, 33, 0, 1, 2, 3, 4, 5, 6, 7, 8, 9] rfl rfl (by decide) (by decide) hk1 hFc hP1 hD1 rfl (by decide) rfl
  clear hP hD hPc hDc hFc hP1 hD1 hk1 hz1 ht hvm hG
  obtain ⟨hP, hD⟩ := hJ
  refine lv_aload_n hx hb dL_law_821 rfl (lv_at hl 2 rfl) ?_
  refine lv_aload_n hx hb dL_law_822 rfl (lv_at hl 0 rfl) ?_
  refine lv_iload_n hx hb dL_law_823 rfl (lv_at hl 3 rfl) ?_
  refine lv_iconst (v := nI 1) hx hb dL_law_824 (by decide) ?_
  refine lv_iadd hx hb dL_law_825 ?_
  refine cki hF (fun hi hF => ?_)
  refine va_sld hx hb hX hbl hbA hS hi dL_law_826 ?_
  have hPc := hP.sub (ws' := (cwM cI b yW)) [24, 25, 26, 27, 28, 29, 30, 31, 32, 33] rfl
  have hDc := hD.sub (ws' := (cwM cI b yW)) [24, 25, 26, 27, 28, 29, 30, 31, 32, 33] (by decide) rfl
  have hFc := va_free (wc := (cwM cI b yW)) hD hS hA [24, 25, 26, 27, 28, 29, 30, 31, 32, 33] rfl
  refine bd hF (fun r827 hG hF => ?_)
  refine va_calli (va_runV (As := [.int (xs (x3 + (nI 1)).toNatClampNeg)]) (rest := [.int r818.1]) ⟨hx, hb, hml, hown, hts⟩ (c_X3_differ l dC dI cI sf H.size N b yW (xs (x3 + (nI 1)).toNatClampNeg) r827 hG) (cwV 1 hts gL_law_X3_differ rfl rfl rfl (by decide +kernel) ⟨Nat.le_of_ble_eq_true rfl, Nat.le_of_ble_eq_true rfl⟩) ⟨fun a U g mk q => ⟨q.1, q.2.call⟩, va_recv hK hP (ci := 3) (q0 := 24) rfl rfl, fun U hU hW => ⟨rfl, PB.of hU hW hPc hK hDc hNN hSF hS hFc⟩⟩ rfl rfl hl.1 rfl (lv_room (Nat.le_of_ble_eq_true rfl)) dL_law_827 ⟨Nat.le_of_ble_eq_true rfl, Nat.le_of_ble_eq_true rfl⟩) hS (fun q _ h => hFc q h) hFc (fun z_ u_ t H locs ht hvm hw hB hz1 hk1 hS => ?_)
  subst z_
  obtain ⟨hP1, hD1⟩ := hB
  rw [ht] at hP1
  have hJ := vb_join (ws' := (cwX cI a r818.2 ++ cwM cI b r827.2)) hP hD [24, 25, 26, 27, 28, 29, 30, 31, 32, 33] [0, 1, 2, 3, 4, 5, 6, 7, 8, 9, 10, 11, 12, 13, 14, 15, 16, 17, 18, 19, 20, 21, 22, 23] [0, 1, 2, 3, 4, 5, 6, 7, 8, 9, 10, 11, 12, 13, 14, 15, 16, 17, 18, 19, 20, 21, 22, 23, 24, 25, 26, 27, 28, 29, 30, 31, 32, 33] rfl rfl (by decide) (by decide) hk1 hFc hP1 hD1 rfl (by decide) rfl
  clear hP hD hPc hDc hFc hP1 hD1 hk1 hz1 ht hvm hG
  obtain ⟨hP, hD⟩ := hJ
  refine lv_icmp_eq (tgt := 1186) hx hb dL_law_830 (by decide) (fun hc => ?_) (fun hc => ?_)
  · have hF := ift hc hF
    exact kJ1186 r818.2 r827.2 x3 _ _ _ hF hP hD hS (lv_sub hl [0, 1, 2, 3] rfl)
  · have hF := iff_ hc hF
    refine lv_iconst (v := nI 0) hx hb dL_law_833 (by decide) ?_
    exact nn hF
