theorem inw_X2_dies_X2 : ∀ w ∈ u_ws RX2 TX2 9, w ∈ wsX2_dies := fun _ h => List.mem_cons_of_mem _ (List.mem_append_left _ (List.mem_append_right _ h))
theorem inw_X2_dies_X1 : ∀ w ∈ u_ws RX1 TX1 8, w ∈ wsX2_dies := fun _ h => List.mem_cons_of_mem _ (List.mem_append_right _ h)
set_option maxHeartbeats 4000000 in
set_option maxRecDepth 100000 in
theorem c_X2_dies (l : Launch) (dC : Nat → ClassId) (dI : Nat → Nat → Nat) (cI : ClassId) (sf : SFP) (sz : Nat) (N : Nat) (a : Nat → Nat) (tW : XS) (p1 : Int32) (r : (Int32 × XS)) (hF : F_X2_dies N tW p1 = some r) : Met l yX2_dies wsX2_dies ({ frames := 2, cells := 0, slots := 0, locals := 42 }) (va_Pc [.ref (a 0), .int p1] (PB (dC, dI) cI (cwX cI a tW) sz sf)) (va_Qi (fun (z : Int32) (_ : Unit) => z = r.1) (fun _ t => QB (dC, dI) (cwX cI a r.2) (va_A (cwX cI a tW) sz) t) (va_A (cwX cI a tW) sz)) 0 0 (va_A (cwX cI a tW) sz) := by
  refine Met.ofW (cc := cX2_dies) (maxL := 2) (ret := (some .int)) (by decide) rfl ?_
  intro p e s m args below meth c s₁ B hml hv
  obtain ⟨rfl, hsz, hP, hK, hD0, hNN, hSF⟩ := hv
  have hx := B.exec
  have hb := B.bytes
  have hr := B.returns
  have hts := atoms_spec (ws := wsX2_dies) B.pre
  have hown : s.vm.findClass RX2 = some m.cls := findClass_of_methodNamed B.named
  have hlocks := B.notSynchronized
  subst hsz
  have hD := hD0.self (sz := s.heap.size)
  generalize hAe : va_A (cwX cI a tW) s.heap.size = A at hD hSF ⊢
  have hA : ∀ q : Nat, s.heap.size ≤ q → A q := fun q h => by rw [← hAe]; exact Or.inr h
  clear hAe hD0
  have hS : va_S A s.heap s.heap [] := va_S.rf
  have hl := lv_entry ([.ref (a 0), .int p1]) (n := 2) (Nat.le_of_ble_eq_true rfl)
  rw [lg_entry_eq]
  generalize (lg_sl ([.ref (a 0), .int p1]) ++ List.replicate (2 - (lg_sl ([.ref (a 0), .int p1])).length) Slot.unset).toArray = ls at hl ⊢
  have hl : lv_has ls 2 [(0, .ref (a 0)), (1, .int p1)] := hl
  rw [F_X2_dies] at hF
  refine lv_aload_n hx hb dX2_dies_0 rfl (lv_at hl 0 rfl) ?_
  refine lv_iload_n hx hb dX2_dies_1 rfl (lv_at hl 1 rfl) ?_
  have hPc := hP.sub (ws' := (cwX cI a tW)) [0, 1, 2, 3, 4, 5, 6, 7, 8, 9, 10, 11, 12, 13, 14, 15, 16, 17, 18, 19, 20, 21, 22, 23] rfl
  have hDc := hD.sub (ws' := (cwX cI a tW)) [0, 1, 2, 3, 4, 5, 6, 7, 8, 9, 10, 11, 12, 13, 14, 15, 16, 17, 18, 19, 20, 21, 22, 23] (by decide) rfl
  have hFc := va_free (wc := (cwX cI a tW)) hD hS hA [0, 1, 2, 3, 4, 5, 6, 7, 8, 9, 10, 11, 12, 13, 14, 15, 16, 17, 18, 19, 20, 21, 22, 23] rfl
  refine bd hF (fun r2 hG hF => ?_)
  refine va_calli (va_runV (As := [.int p1]) (rest := []) ⟨hx, hb, hml, hown, hts⟩ (c_X2_noCitizen l dC dI cI sf s.heap.size N a tW p1 r2 hG) (cwV 1 hts gX2_dies_X2_noCitizen rfl rfl rfl (by decide +kernel) ⟨Nat.le_of_ble_eq_true rfl, Nat.le_of_ble_eq_true rfl⟩) ⟨fun a U g mk q => ⟨q.1, q.2.call⟩, va_recv hK hP (ci := 2) (q0 := 0) rfl rfl, fun U hU hW => ⟨rfl, PB.of hU hW hPc hK hDc hNN hSF hS hFc⟩⟩ rfl rfl hl.1 rfl (lv_room (Nat.le_of_ble_eq_true rfl)) dX2_dies_2 ⟨Nat.le_of_ble_eq_true rfl, Nat.le_of_ble_eq_true rfl⟩) hS (fun q _ h => hFc q h) hFc (fun z_ u_ t H locs ht hvm hw hB hz1 hk1 hS => ?_)
  subst z_
  obtain ⟨hP1, hD1⟩ := hB
  rw [ht] at hP1
  have hJ := vb_join (ws' := (cwX cI a tW)) hP hD [0, 1, 2, 3, 4, 5, 6, 7, 8, 9, 10, 11, 12, 13, 14, 15, 16, 17, 18, 19, 20, 21, 22, 23] [] [0, 1, 2, 3, 4, 5, 6, 7, 8, 9, 10, 11, 12, 13, 14, 15, 16, 17, 18, 19, 20, 21, 22, 23] rfl rfl (by decide) (by decide) hk1 hFc hP1 hD1 rfl (by decide) rfl
  clear hP hD hPc hDc hFc hP1 hD1 hk1 hz1 ht hvm hG
  obtain ⟨hP, hD⟩ := hJ
  refine lv_if_eq (tgt := 14) hx hb dX2_dies_5 (by decide) (fun hc => ?_) (fun hc => ?_)
  · have hF := ift hc hF
    refine lv_aload_n hx hb dX2_dies_14 rfl (lv_at hl 0 rfl) ?_
    refine va_get (D := (dC, dI)) (ci := 2) (v := .ref (a 1)) (C := RX2) (T := TX2) (N := 9) hx hb hts inw_X2_dies_X2 hown hK hP 0 rfl rfl 0 (by decide) (hts (.fieldLink RX2 10 "DeniedOfEachOther" "now" "LDeniedOfEachOther$Town;") (List.mem_of_getElem? (i := 1) rfl)) (fun _ h9 => h9) rfl dX2_dies_15 ?_
    refine lv_iload_n hx hb dX2_dies_18 rfl (lv_at hl 1 rfl) ?_
    have hPc := hP.sub (ws' := (cwT cI (a 1) (a 2) (a 3) (a 4) (a 5) (a 6) tW.1)) [1, 2, 3, 4, 5, 6] rfl
    have hDc := hD.sub (ws' := (cwT cI (a 1) (a 2) (a 3) (a 4) (a 5) (a 6) tW.1)) [1, 2, 3, 4, 5, 6] (by decide) rfl
    have hFc := va_free (wc := (cwT cI (a 1) (a 2) (a 3) (a 4) (a 5) (a 6) tW.1)) hD hS hA [1, 2, 3, 4, 5, 6] rfl
    refine bd hF (fun r19 hG hF => ?_)
    refine va_calli (va_runVN (As := [.int p1]) (rest := []) ⟨hx, hb, hml, hown, hts⟩ (c_X1_bury l dC dI cI sf H.size N (a 1) (a 2) (a 3) (a 4) (a 5) (a 6) tW.1 p1 r19 hG) ⟨va_cnB 1 hts gX2_dies_X1_bury_n108 rfl rfl rfl (hNN.at 16 rfl) (hts (.initialized RX1) (List.mem_of_getElem? (i := 13) rfl)) (by decide +kernel) ⟨Nat.le_of_ble_eq_true rfl, Nat.le_of_ble_eq_true rfl⟩, hts (.instanceMethod yX1_bury) (List.mem_of_getElem? (i := 12) rfl), hts (.selects RX1 yX1_bury yX1_bury) (List.mem_of_getElem? (i := 14) rfl)⟩ ⟨fun a U g mk q => ⟨q.1, q.2.call⟩, va_recv hK hP (ci := 1) (q0 := 1) rfl rfl, fun U hU hW => ⟨rfl, PB.of hU hW hPc hK hDc hNN hSF hS hFc⟩⟩ rfl rfl hl.1 rfl (lv_room (Nat.le_of_ble_eq_true rfl)) dX2_dies_19 ⟨Nat.le_of_ble_eq_true rfl, Nat.le_of_ble_eq_true rfl⟩) hS (fun q _ h => hFc q h) hFc (fun z_ u_ t H locs ht hvm hw hB hz1 hk1 hS => ?_)
    subst z_
    obtain ⟨hP1, hD1⟩ := hB
    rw [ht] at hP1
    have hJ := vb_join (ws' := (cwX cI a (r19.2, tW.2.1, tW.2.2.1, tW.2.2.2.1, tW.2.2.2.2.1, tW.2.2.2.2.2.1, tW.2.2.2.2.2.2.1, tW.2.2.2.2.2.2.2.1, tW.2.2.2.2.2.2.2.2))) hP hD [1, 2, 3, 4, 5, 6] [0, 7, 8, 9, 10, 11, 12, 13, 14, 15, 16, 17, 18, 19, 20, 21, 22, 23] [0, 18, 19, 20, 21, 22, 23, 1, 2, 3, 4, 5, 6, 7, 8, 9, 10, 11, 12, 13, 14, 15, 16, 17] rfl rfl (by decide) (by decide) hk1 hFc hP1 hD1 rfl (by decide) rfl
    clear hP hD hPc hDc hFc hP1 hD1 hk1 hz1 ht hvm hG
    obtain ⟨hP, hD⟩ := hJ
    refine lv_if_ne (tgt := 32) hx hb dX2_dies_22 (by decide) (fun hc => ?_) (fun hc => ?_)
    · have hF := ift hc hF
      refine lv_aload_n hx hb dX2_dies_32 rfl (lv_at hl 0 rfl) ?_
      refine va_get (D := (dC, dI)) (ci := 2) (v := .ref (a 1)) (C := RX2) (T := TX2) (N := 9) hx hb hts inw_X2_dies_X2 hown hK hP 0 rfl rfl 0 (by decide) (hts (.fieldLink RX2 10 "DeniedOfEachOther" "now" "LDeniedOfEachOther$Town;") (List.mem_of_getElem? (i := 1) rfl)) (fun _ h9 => h9) rfl dX2_dies_33 ?_
      have hPc := hP.sub (ws' := (cwT cI (a 1) (a 2) (a 3) (a 4) (a 5) (a 6) r19.2)) [1, 2, 3, 4, 5, 6] rfl
      have hDc := hD.sub (ws' := (cwT cI (a 1) (a 2) (a 3) (a 4) (a 5) (a 6) r19.2)) [1, 2, 3, 4, 5, 6] (by decide) rfl
      have hFc := va_free (wc := (cwT cI (a 1) (a 2) (a 3) (a 4) (a 5) (a 6) r19.2)) hD hS hA [1, 2, 3, 4, 5, 6] rfl
      refine bd hF (fun r36 hG hF => ?_)
      refine va_calli (va_runVN (As := []) (rest := []) ⟨hx, hb, hml, hown, hts⟩ (c_X1_howManyLive l dC dI cI sf H.size N (a 1) (a 2) (a 3) (a 4) (a 5) (a 6) r19.2 r36 hG) ⟨va_cnB 0 hts gX2_dies_X1_howManyLive_n111 rfl rfl rfl (hNN.at 17 rfl) (hts (.initialized RX1) (List.mem_of_getElem? (i := 13) rfl)) (by decide +kernel) ⟨Nat.le_of_ble_eq_true rfl, Nat.le_of_ble_eq_true rfl⟩, hts (.instanceMethod yX1_howManyLive) (List.mem_of_getElem? (i := 22) rfl), hts (.selects RX1 yX1_howManyLive yX1_howManyLive) (List.mem_of_getElem? (i := 23) rfl)⟩ ⟨fun a U g mk q => ⟨q.1, q.2.call⟩, va_recv hK hP (ci := 1) (q0 := 1) rfl rfl, fun U hU hW => ⟨rfl, PB.of hU hW hPc hK hDc hNN hSF hS hFc⟩⟩ rfl rfl hl.1 rfl (lv_room (Nat.le_of_ble_eq_true rfl)) dX2_dies_36 ⟨Nat.le_of_ble_eq_true rfl, Nat.le_of_ble_eq_true rfl⟩) hS (fun q _ h => hFc q h) hFc (fun z_ u_ t H locs ht hvm hw hB hz1 hk1 hS => ?_)
      subst z_
      obtain ⟨hP1, hD1⟩ := hB
      rw [ht] at hP1
      have hJ := vb_join (ws' := (cwX cI a (r19.2, tW.2.1, tW.2.2.1, tW.2.2.2.1, tW.2.2.2.2.1, tW.2.2.2.2.2.1, tW.2.2.2.2.2.2.1, tW.2.2.2.2.2.2.2.1, tW.2.2.2.2.2.2.2.2))) hP hD [1, 2, 3, 4, 5, 6] [0, 7, 8, 9, 10, 11, 12, 13, 14, 15, 16, 17, 18, 19, 20, 21, 22, 23] [0, 18, 19, 20, 21, 22, 23, 1, 2, 3, 4, 5, 6, 7, 8, 9, 10, 11, 12, 13, 14, 15, 16, 17] rfl rfl (by decide) (by decide) hk1 hFc hP1 hD1 rfl (by decide) rfl
      clear hP hD hPc hDc hFc hP1 hD1 hk1 hz1 ht hvm hG
      obtain ⟨hP, hD⟩ := hJ
      obtain rfl := Option.some.inj hF
      exact W.iret (v := r36) hx hb hr (fun t ht hW => ⟨⟨r36, (), rfl, rfl, QB.of ht hP hD⟩, hS.F ht⟩) hS.2.2 dX2_dies_39
    · have hF := iff_ (fun h => h hc) hF
      refine lv_aload_n hx hb dX2_dies_25 rfl (lv_at hl 0 rfl) ?_
      refine lv_bipush (v := (-3)) hx hb dX2_dies_26 (by decide) ?_
      have hPc := hP.sub (ws' := (cwX cI a (r19.2, tW.2.1, tW.2.2.1, tW.2.2.2.1, tW.2.2.2.2.1, tW.2.2.2.2.2.1, tW.2.2.2.2.2.2.1, tW.2.2.2.2.2.2.2.1, tW.2.2.2.2.2.2.2.2))) [0, 1, 2, 3, 4, 5, 6, 7, 8, 9, 10, 11, 12, 13, 14, 15, 16, 17, 18, 19, 20, 21, 22, 23] rfl
      have hDc := hD.sub (ws' := (cwX cI a (r19.2, tW.2.1, tW.2.2.1, tW.2.2.2.1, tW.2.2.2.2.1, tW.2.2.2.2.2.1, tW.2.2.2.2.2.2.1, tW.2.2.2.2.2.2.2.1, tW.2.2.2.2.2.2.2.2))) [0, 1, 2, 3, 4, 5, 6, 7, 8, 9, 10, 11, 12, 13, 14, 15, 16, 17, 18, 19, 20, 21, 22, 23] (by decide) rfl
      have hFc := va_free (wc := (cwX cI a (r19.2, tW.2.1, tW.2.2.1, tW.2.2.2.1, tW.2.2.2.2.1, tW.2.2.2.2.2.1, tW.2.2.2.2.2.2.1, tW.2.2.2.2.2.2.2.1, tW.2.2.2.2.2.2.2.2))) hD hS hA [0, 1, 2, 3, 4, 5, 6, 7, 8, 9, 10, 11, 12, 13, 14, 15, 16, 17, 18, 19, 20, 21, 22, 23] rfl
      refine bd hF (fun r28 hG hF => ?_)
      refine va_calli (va_runV (As := [.int (-3)]) (rest := []) ⟨hx, hb, hml, hown, hts⟩ (c_X2_refuse l dC dI cI sf H.size N a (r19.2, tW.2.1, tW.2.2.1, tW.2.2.2.1, tW.2.2.2.2.1, tW.2.2.2.2.2.1, tW.2.2.2.2.2.2.1, tW.2.2.2.2.2.2.2.1, tW.2.2.2.2.2.2.2.2) (-3) r28 hG) (cwV 1 hts gX2_dies_X2_refuse rfl rfl rfl (by decide +kernel) ⟨Nat.le_of_ble_eq_true rfl, Nat.le_of_ble_eq_true rfl⟩) ⟨fun a U g mk q => ⟨q.1, q.2.call⟩, va_recv hK hP (ci := 2) (q0 := 0) rfl rfl, fun U hU hW => ⟨rfl, PB.of hU hW hPc hK hDc hNN hSF hS hFc⟩⟩ rfl rfl hl.1 rfl (lv_room (Nat.le_of_ble_eq_true rfl)) dX2_dies_28 ⟨Nat.le_of_ble_eq_true rfl, Nat.le_of_ble_eq_true rfl⟩) hS (fun q _ h => hFc q h) hFc (fun z_ u_ t H locs ht hvm hw hB hz1 hk1 hS => ?_)
      subst z_
      obtain ⟨hP1, hD1⟩ := hB
      rw [ht] at hP1
      have hJ := vb_join (ws' := (cwX cI a r28.2)) hP hD [0, 1, 2, 3, 4, 5, 6, 7, 8, 9, 10, 11, 12, 13, 14, 15, 16, 17, 18, 19, 20, 21, 22, 23] [] [0, 1, 2, 3, 4, 5, 6, 7, 8, 9, 10, 11, 12, 13, 14, 15, 16, 17, 18, 19, 20, 21, 22, 23] rfl rfl (by decide) (by decide) hk1 hFc hP1 hD1 rfl (by decide) rfl
      clear hP hD hPc hDc hFc hP1 hD1 hk1 hz1 ht hvm hG
      obtain ⟨hP, hD⟩ := hJ
      obtain rfl := Option.some.inj hF
      exact W.iret (v := r28.1) hx hb hr (fun t ht hW => ⟨⟨r28.1, (), rfl, rfl, QB.of ht hP hD⟩, hS.F ht⟩) hS.2.2 dX2_dies_31
  · have hF := iff_ hc hF
    refine lv_aload_n hx hb dX2_dies_8 rfl (lv_at hl 0 rfl) ?_
    refine lv_iconst (v := (-1)) hx hb dX2_dies_9 (by decide) ?_
    have hPc := hP.sub (ws' := (cwX cI a tW)) [0, 1, 2, 3, 4, 5, 6, 7, 8, 9, 10, 11, 12, 13, 14, 15, 16, 17, 18, 19, 20, 21, 22, 23] rfl
    have hDc := hD.sub (ws' := (cwX cI a tW)) [0, 1, 2, 3, 4, 5, 6, 7, 8, 9, 10, 11, 12, 13, 14, 15, 16, 17, 18, 19, 20, 21, 22, 23] (by decide) rfl
    have hFc := va_free (wc := (cwX cI a tW)) hD hS hA [0, 1, 2, 3, 4, 5, 6, 7, 8, 9, 10, 11, 12, 13, 14, 15, 16, 17, 18, 19, 20, 21, 22, 23] rfl
    refine bd hF (fun r10 hG hF => ?_)
    refine va_calli (va_runV (As := [.int (-1)]) (rest := []) ⟨hx, hb, hml, hown, hts⟩ (c_X2_refuse l dC dI cI sf H.size N a tW (-1) r10 hG) (cwV 1 hts gX2_dies_X2_refuse rfl rfl rfl (by decide +kernel) ⟨Nat.le_of_ble_eq_true rfl, Nat.le_of_ble_eq_true rfl⟩) ⟨fun a U g mk q => ⟨q.1, q.2.call⟩, va_recv hK hP (ci := 2) (q0 := 0) rfl rfl, fun U hU hW => ⟨rfl, PB.of hU hW hPc hK hDc hNN hSF hS hFc⟩⟩ rfl rfl hl.1 rfl (lv_room (Nat.le_of_ble_eq_true rfl)) dX2_dies_10 ⟨Nat.le_of_ble_eq_true rfl, Nat.le_of_ble_eq_true rfl⟩) hS (fun q _ h => hFc q h) hFc (fun z_ u_ t H locs ht hvm hw hB hz1 hk1 hS => ?_)
    subst z_
    obtain ⟨hP1, hD1⟩ := hB
    rw [ht] at hP1
    have hJ := vb_join (ws' := (cwX cI a r10.2)) hP hD [0, 1, 2, 3, 4, 5, 6, 7, 8, 9, 10, 11, 12, 13, 14, 15, 16, 17, 18, 19, 20, 21, 22, 23] [] [0, 1, 2, 3, 4, 5, 6, 7, 8, 9, 10, 11, 12, 13, 14, 15, 16, 17, 18, 19, 20, 21, 22, 23] rfl rfl (by decide) (by decide) hk1 hFc hP1 hD1 rfl (by decide) rfl
    clear hP hD hPc hDc hFc hP1 hD1 hk1 hz1 ht hvm hG
    obtain ⟨hP, hD⟩ := hJ
    obtain rfl := Option.some.inj hF
    exact W.iret (v := r10.1) hx hb hr (fun t ht hW => ⟨⟨r10.1, (), rfl, rfl, QB.of ht hP hD⟩, hS.F ht⟩) hS.2.2 dX2_dies_13
theorem inw_X2_mostPairs_X2 : ∀ w ∈ u_ws RX2 TX2 9, w ∈ wsX2_mostPairs := fun _ h => List.mem_cons_of_mem _ (List.mem_append_left _ (List.mem_append_right _ h))
theorem inw_X2_mostPairs_X1 : ∀ w ∈ u_ws RX1 TX1 8, w ∈ wsX2_mostPairs := fun _ h => List.mem_cons_of_mem _ (List.mem_append_right _ h)
set_option maxHeartbeats 4000000 in
set_option maxRecDepth 100000 in
theorem c_X2_mostPairs (l : Launch) (dC : Nat → ClassId) (dI : Nat → Nat → Nat) (cI : ClassId) (sf : SFP) (sz : Nat) (N : Nat) (a : Nat → Nat) (tW : XS) (r : (Int32 × XS)) (hF : F_X2_mostPairs N tW = some r) : Met l yX2_mostPairs wsX2_mostPairs ({ frames := 2, cells := 0, slots := 0, locals := 46 }) (va_Pc [.ref (a 0)] (PB (dC, dI) cI (cwX cI a tW) sz sf)) (va_Qi (fun (z : Int32) (_ : Unit) => z = r.1) (fun _ t => QB (dC, dI) (cwX cI a r.2) (va_A (cwX cI a tW) sz) t) (va_A (cwX cI a tW) sz)) 0 0 (va_A (cwX cI a tW) sz) := by
  refine Met.ofW (cc := cX2_mostPairs) (maxL := 6) (ret := (some .int)) (by decide) rfl ?_
  intro p e s m args below meth c s₁ B hml hv
  obtain ⟨rfl, hsz, hP, hK, hD0, hNN, hSF⟩ := hv
  have hx := B.exec
  have hb := B.bytes
  have hr := B.returns
  have hts := atoms_spec (ws := wsX2_mostPairs) B.pre
  have hown : s.vm.findClass RX2 = some m.cls := findClass_of_methodNamed B.named
  have hlocks := B.notSynchronized
  subst hsz
  have hD := hD0.self (sz := s.heap.size)
  generalize hAe : va_A (cwX cI a tW) s.heap.size = A at hD hSF ⊢
  have hA : ∀ q : Nat, s.heap.size ≤ q → A q := fun q h => by rw [← hAe]; exact Or.inr h
  clear hAe hD0
  have hS : va_S A s.heap s.heap [] := va_S.rf
  have hl := lv_entry ([.ref (a 0)]) (n := 6) (Nat.le_of_ble_eq_true rfl)
  rw [lg_entry_eq]
  generalize (lg_sl ([.ref (a 0)]) ++ List.replicate (6 - (lg_sl ([.ref (a 0)])).length) Slot.unset).toArray = ls at hl ⊢
  have hl : lv_has ls 6 [(0, .ref (a 0))] := hl
  rw [F_X2_mostPairs] at hF
  refine lv_aload_n hx hb dX2_mostPairs_0 rfl (lv_at hl 0 rfl) ?_
  refine va_get (D := (dC, dI)) (ci := 2) (v := .ref (a 23)) (C := RX2) (T := TX2) (N := 9) hx hb hts inw_X2_mostPairs_X2 hown hK hP 0 rfl rfl 8 (by decide) (hts (.fieldLink RX2 44 "DeniedOfEachOther" "pairsOf" "[I") (List.mem_of_getElem? (i := 1) rfl)) (fun _ h9 => h9) rfl dX2_mostPairs_1 ?_
  refine lv_iconst (v := nI 0) hx hb dX2_mostPairs_4 (by decide) ?_
  refine lv_iconst (v := nI 0) hx hb dX2_mostPairs_5 (by decide) ?_
  refine va_iast (D := (dC, dI)) hx hb hK hP hD hS 23 0 rfl rfl (vp_in_nI (n := 0) (N := 64) (by decide) (by decide)) dX2_mostPairs_6 (fun H locs hP hD hS => ?_)
  have hP : va_P (dC, dI) vwCl (cwX cI a (tW.1, tW.2.1, tW.2.2.1, tW.2.2.2.1, tW.2.2.2.2.1, tW.2.2.2.2.2.1, tW.2.2.2.2.2.2.1, tW.2.2.2.2.2.2.2.1, (upd tW.2.2.2.2.2.2.2.2 (nI 0).toNatClampNeg (nI 0)))) H := hP
  have hD : va_D A (cwX cI a (tW.1, tW.2.1, tW.2.2.1, tW.2.2.2.1, tW.2.2.2.2.1, tW.2.2.2.2.2.1, tW.2.2.2.2.2.2.1, tW.2.2.2.2.2.2.2.1, (upd tW.2.2.2.2.2.2.2.2 (nI 0).toNatClampNeg (nI 0)))) := hD
  refine lv_iconst (v := nI 1) hx hb dX2_mostPairs_7 (by decide) ?_
  refine vW_have (fun R av Q => ∀ (n9 : Nat) (tW : XS) (x1 : Int32) (H : Heap) (locs : List Loc) (ls : Array Slot), F_X2_mostPairs_9 N n9 tW x1 = some r → va_P (dC, dI) vwCl (cwX cI a tW) H → va_D A (cwX cI a tW) → va_S A s.heap H locs → lv_has ls 6 [(0, .ref (a 0)), (1, .int x1)] → W p l e R s m av below meth c H locs 0 0 Q (F0 m 9 ls [])) ?_ (fun kJ9 => ?_)
  · intro n9
    induction n9 with
    | zero => intro tW x1 H locs ls hF; exact nn hF
    | succ n9 ih9 =>
      intro tW x1 H locs ls hF hP hD hS hl
      rw [F_X2_mostPairs_9] at hF
      refine lv_iload_n hx hb dX2_mostPairs_9 rfl (lv_at hl 1 rfl) ?_
      refine lv_aload_n hx hb dX2_mostPairs_10 rfl (lv_at hl 0 rfl) ?_
      refine va_get (D := (dC, dI)) (ci := 2) (v := .ref (a 23)) (C := RX2) (T := TX2) (N := 9) hx hb hts inw_X2_mostPairs_X2 hown hK hP 0 rfl rfl 8 (by decide) (hts (.fieldLink RX2 44 "DeniedOfEachOther" "pairsOf" "[I") (List.mem_of_getElem? (i := 1) rfl)) (fun _ h9 => h9) rfl dX2_mostPairs_11 ?_
      refine va_alen (D := (dC, dI)) hx hb hK hP 23 0 rfl rfl (v := nI 64) rfl dX2_mostPairs_14 ?_
      refine vW_have (fun R av Q => ∀ (tW : XS) (H : Heap) (locs : List Loc) (ls : Array Slot), F_X2_mostPairs_116 N tW = some r → va_P (dC, dI) vwCl (cwX cI a tW) H → va_D A (cwX cI a tW) → va_S A s.heap H locs → lv_has ls 6 [(0, .ref (a 0))] → W p l e R s m av below meth c H locs 0 0 Q (F0 m 116 ls [])) ?_ (fun kJ116 => ?_)
      · 
        intro tW H locs ls hF hP hD hS hl
        rw [F_X2_mostPairs_116] at hF
        refine lv_aload_n hx hb dX2_mostPairs_116 rfl (lv_at hl 0 rfl) ?_
        refine va_get (D := (dC, dI)) (ci := 2) (v := .ref (a 23)) (C := RX2) (T := TX2) (N := 9) hx hb hts inw_X2_mostPairs_X2 hown hK hP 0 rfl rfl 8 (by decide) (hts (.fieldLink RX2 44 "DeniedOfEachOther" "pairsOf" "[I") (List.mem_of_getElem? (i := 1) rfl)) (fun _ h9 => h9) rfl dX2_mostPairs_117 ?_
        refine lv_aload_n hx hb dX2_mostPairs_120 rfl (lv_at hl 0 rfl) ?_
        refine va_get (D := (dC, dI)) (ci := 2) (v := .ref (a 1)) (C := RX2) (T := TX2) (N := 9) hx hb hts inw_X2_mostPairs_X2 hown hK hP 0 rfl rfl 0 (by decide) (hts (.fieldLink RX2 10 "DeniedOfEachOther" "now" "LDeniedOfEachOther$Town;") (List.mem_of_getElem? (i := 2) rfl)) (fun _ h9 => h9) rfl dX2_mostPairs_121 ?_
        refine va_getN (D := (dC, dI)) (ci := 1) (v := .int tW.1.2.2.2.2.2.2.1) (C := RX1) (T := TX1) (N := 8) hx hb hts inw_X2_mostPairs_X1 hown hK hP 1 rfl rfl 6 (by decide) (hNN.use 38 rfl) (fun _ h9 => h9) rfl dX2_mostPairs_124 ?_
        refine cki hF (fun hi hF => ?_)
        refine va_iald (D := (dC, dI)) hx hb hK hP 23 0 rfl rfl hi dX2_mostPairs_127 ?_
        obtain rfl := Option.some.inj hF
        exact W.iret (v := (tW.2.2.2.2.2.2.2.2 tW.1.2.2.2.2.2.2.1.toNatClampNeg)) hx hb hr (fun t ht hW => ⟨⟨(tW.2.2.2.2.2.2.2.2 tW.1.2.2.2.2.2.2.1.toNatClampNeg), (), rfl, rfl, QB.of ht hP hD⟩, hS.F ht⟩) hS.2.2 dX2_mostPairs_128
      refine lv_icmp_ge (tgt := 116) hx hb dX2_mostPairs_15 (by decide) (fun hc => ?_) (fun hc => ?_)
      · have hF := ift hc hF
        exact kJ116 tW _ _ _ hF hP hD hS (lv_sub hl [0] rfl)
      · have hF := iff_ hc hF
        refine lv_iload_n hx hb dX2_mostPairs_18 rfl (lv_at hl 1 rfl) ?_
        have hPc := hP.sub (ws' := ([] : va_W)) [] rfl
        have hDc := hD.sub (ws' := ([] : va_W)) [] (by decide) rfl
        have hFc := va_free (wc := ([] : va_W)) hD hS hA [] rfl
        refine bd hF (fun r19 hG hF => ?_)
        refine va_calli (va_runS (As := [.int x1]) (rest := []) ⟨hx, hb, hml, hown, hts⟩ (c_J6_numberOfTrailingZeros_0f7a4 l dC dI cI sf H.size N  x1 r19 hG) (va_cwS 1 hts gX2_mostPairs_J6_numberOfTrailingZeros_0f7a4 rfl rfl rfl (by decide +kernel) ⟨Nat.le_of_ble_eq_true rfl, Nat.le_of_ble_eq_true rfl⟩) ⟨fun a U g mk q => ⟨q.1, q.2.call⟩, fun U hU hW => ⟨rfl, PB.of hU hW hPc hK hDc hNN hSF hS hFc⟩⟩ rfl rfl hl.1 rfl (lv_room (Nat.le_of_ble_eq_true rfl)) dX2_mostPairs_19 ⟨Nat.le_of_ble_eq_true rfl, Nat.le_of_ble_eq_true rfl⟩) hS (fun q _ h => hFc q h) hFc (fun z_ u_ t H locs ht hvm hw hB hz1 hk1 hS => ?_)
        subst z_
        obtain ⟨hP1, hD1⟩ := hB
        rw [ht] at hP1
        have hJ := vb_join (ws' := (cwX cI a tW)) hP hD [] [0, 1, 2, 3, 4, 5, 6, 7, 8, 9, 10, 11, 12, 13, 14, 15, 16, 17, 18, 19, 20, 21, 22, 23] [0, 1, 2, 3, 4, 5, 6, 7, 8, 9, 10, 11, 12, 13, 14, 15, 16, 17, 18, 19, 20, 21, 22, 23] rfl rfl (by decide) (by decide) hk1 hFc hP1 hD1 rfl (by decide) rfl
        clear hP hD hPc hDc hFc hP1 hD1 hk1 hz1 ht hvm hG
        obtain ⟨hP, hD⟩ := hJ
        refine lv_istore_n (lv' := [(2, .int r19), (0, .ref (a 0)), (1, .int x1)]) hx hb dX2_mostPairs_22 rfl hl (by decide) rfl (fun ls hl => ?_)
        refine lv_iload_n hx hb dX2_mostPairs_23 rfl (lv_at hl 2 rfl) ?_
        refine lv_iload_n hx hb dX2_mostPairs_24 rfl (lv_at hl 2 rfl) ?_
        refine lv_iconst (v := nI 1) hx hb dX2_mostPairs_25 (by decide) ?_
        refine lv_isub hx hb dX2_mostPairs_26 ?_
        refine lv_iand hx hb dX2_mostPairs_27 ?_
        refine lv_istore_n (lv' := [(3, .int (x1 &&& (x1 - (nI 1)))), (2, .int r19), (0, .ref (a 0)), (1, .int x1)]) hx hb dX2_mostPairs_28 rfl hl (by decide) rfl (fun ls hl => ?_)
        refine lv_aload_n hx hb dX2_mostPairs_29 rfl (lv_at hl 2 rfl) ?_
        refine va_get (D := (dC, dI)) (ci := 2) (v := .ref (a 23)) (C := RX2) (T := TX2) (N := 9) hx hb hts inw_X2_mostPairs_X2 hown hK hP 0 rfl rfl 8 (by decide) (hts (.fieldLink RX2 44 "DeniedOfEachOther" "pairsOf" "[I") (List.mem_of_getElem? (i := 1) rfl)) (fun _ h9 => h9) rfl dX2_mostPairs_30 ?_
        refine lv_iload_n hx hb dX2_mostPairs_33 rfl (lv_at hl 0 rfl) ?_
        refine cki hF (fun hi hF => ?_)
        refine va_iald (D := (dC, dI)) hx hb hK hP 23 0 rfl rfl hi dX2_mostPairs_34 ?_
        refine lv_istore (lv' := [(4, .int (tW.2.2.2.2.2.2.2.2 (x1 &&& (x1 - (nI 1))).toNatClampNeg)), (3, .int (x1 &&& (x1 - (nI 1)))), (2, .int r19), (0, .ref (a 0)), (1, .int x1)]) hx hb dX2_mostPairs_35 hl (by decide) rfl (fun ls hl => ?_)
        refine lv_iload_n hx hb dX2_mostPairs_37 rfl (lv_at hl 2 rfl) ?_
        refine lv_iconst (v := nI 1) hx hb dX2_mostPairs_38 (by decide) ?_
        refine lv_iadd hx hb dX2_mostPairs_39 ?_
        refine vW_have (fun R av Q => ∀ (n42 : Nat) (tW : XS) (x1 : Int32) (x2 : Int32) (x3 : Int32) (x4 : Int32) (x5 : Int32) (H : Heap) (locs : List Loc) (ls : Array Slot), F_X2_mostPairs_42 N (fun ctW cx1 => F_X2_mostPairs_9 N n9 ctW cx1) n42 tW x1 x2 x3 x4 x5 = some r → va_P (dC, dI) vwCl (cwX cI a tW) H → va_D A (cwX cI a tW) → va_S A s.heap H locs → lv_has ls 6 [(0, .ref (a 0)), (1, .int x1), (2, .int x2), (3, .int x3), (4, .int x4), (5, .int x5)] → W p l e R s m av below meth c H locs 0 0 Q (F0 m 42 ls [])) ?_ (fun kJ42 => ?_)
        · intro n42
          induction n42 with
          | zero => intro tW x1 x2 x3 x4 x5 H locs ls hF; exact nn hF
          | succ n42 ih42 =>
            intro tW x1 x2 x3 x4 x5 H locs ls hF hP hD hS hl
            rw [F_X2_mostPairs_42] at hF
            refine lv_iload hx hb dX2_mostPairs_42 (lv_at hl 5 rfl) ?_
            refine lv_bipush (v := nI 6) hx hb dX2_mostPairs_44 (by decide) ?_
            refine vW_have (fun R av Q => ∀ (tW : XS) (x1 : Int32) (x4 : Int32) (H : Heap) (locs : List Loc) (ls : Array Slot), F_X2_mostPairs_102 N (fun ctW cx1 => F_X2_mostPairs_9 N n9 ctW cx1) tW x1 x4 = some r → va_P (dC, dI) vwCl (cwX cI a tW) H → va_D A (cwX cI a tW) → va_S A s.heap H locs → lv_has ls 6 [(0, .ref (a 0)), (1, .int x1), (4, .int x4)] → W p l e R s m av below meth c H locs 0 0 Q (F0 m 102 ls [])) ?_ (fun kJ102 => ?_)
            · 
              intro tW x1 x4 H locs ls hF hP hD hS hl
              rw [F_X2_mostPairs_102] at hF
              refine lv_aload_n hx hb dX2_mostPairs_102 rfl (lv_at hl 0 rfl) ?_
              refine va_get (D := (dC, dI)) (ci := 2) (v := .ref (a 23)) (C := RX2) (T := TX2) (N := 9) hx hb hts inw_X2_mostPairs_X2 hown hK hP 0 rfl rfl 8 (by decide) (hts (.fieldLink RX2 44 "DeniedOfEachOther" "pairsOf" "[I") (List.mem_of_getElem? (i := 1) rfl)) (fun _ h9 => h9) rfl dX2_mostPairs_103 ?_
              refine lv_iload_n hx hb dX2_mostPairs_106 rfl (lv_at hl 1 rfl) ?_
              refine lv_iload hx hb dX2_mostPairs_107 (lv_at hl 2 rfl) ?_
              refine cki hF (fun hi hF => ?_)
              refine va_iast (D := (dC, dI)) hx hb hK hP hD hS 23 0 rfl rfl hi dX2_mostPairs_109 (fun H locs hP hD hS => ?_)
              have hP : va_P (dC, dI) vwCl (cwX cI a (tW.1, tW.2.1, tW.2.2.1, tW.2.2.2.1, tW.2.2.2.2.1, tW.2.2.2.2.2.1, tW.2.2.2.2.2.2.1, tW.2.2.2.2.2.2.2.1, (upd tW.2.2.2.2.2.2.2.2 x1.toNatClampNeg x4))) H := hP
              have hD : va_D A (cwX cI a (tW.1, tW.2.1, tW.2.2.1, tW.2.2.2.1, tW.2.2.2.2.1, tW.2.2.2.2.2.1, tW.2.2.2.2.2.2.1, tW.2.2.2.2.2.2.2.1, (upd tW.2.2.2.2.2.2.2.2 x1.toNatClampNeg x4))) := hD
              refine lv_iinc (v := x1 + (nI 1)) (lv' := [(1, .int (x1 + (nI 1))), (0, .ref (a 0)), (4, .int x4)]) hx hb dX2_mostPairs_110 hl (k := 1) rfl (by rfl) (by decide) rfl (fun ls hl => ?_)
              refine lv_goto (tgt := 9) hx hb dX2_mostPairs_113 (by decide) ?_
              exact ih9 (tW.1, tW.2.1, tW.2.2.1, tW.2.2.2.1, tW.2.2.2.2.1, tW.2.2.2.2.2.1, tW.2.2.2.2.2.2.1, tW.2.2.2.2.2.2.2.1, (upd tW.2.2.2.2.2.2.2.2 x1.toNatClampNeg x4)) (x1 + (nI 1)) _ _ _ hF hP hD hS (lv_sub hl [1, 0] rfl)
            refine lv_icmp_ge (tgt := 102) hx hb dX2_mostPairs_46 (by decide) (fun hc => ?_) (fun hc => ?_)
            · have hF := ift hc hF
              exact kJ102 tW x1 x4 _ _ _ hF hP hD hS (lv_sub hl [0, 1, 4] rfl)
            · have hF := iff_ hc hF
              refine lv_iload_n hx hb dX2_mostPairs_49 rfl (lv_at hl 3 rfl) ?_
              refine lv_iload hx hb dX2_mostPairs_50 (lv_at hl 5 rfl) ?_
              refine lv_ishr hx hb dX2_mostPairs_52 ?_
              refine lv_iconst (v := nI 1) hx hb dX2_mostPairs_53 (by decide) ?_
              refine lv_iand hx hb dX2_mostPairs_54 ?_
              refine vW_have (fun R av Q => ∀ (tW : XS) (x1 : Int32) (x2 : Int32) (x3 : Int32) (x4 : Int32) (x5 : Int32) (H : Heap) (locs : List Loc) (ls : Array Slot), F_X2_mostPairs_96 N (fun ctW cx1 => F_X2_mostPairs_9 N n9 ctW cx1) (fun ctW cx1 cx2 cx3 cx4 cx5 => F_X2_mostPairs_42 N (fun ctW cx1 => F_X2_mostPairs_9 N n9 ctW cx1) n42 ctW cx1 cx2 cx3 cx4 cx5) tW x1 x2 x3 x4 x5 = some r → va_P (dC, dI) vwCl (cwX cI a tW) H → va_D A (cwX cI a tW) → va_S A s.heap H locs → lv_has ls 6 [(0, .ref (a 0)), (1, .int x1), (2, .int x2), (3, .int x3), (4, .int x4), (5, .int x5)] → W p l e R s m av below meth c H locs 0 0 Q (F0 m 96 ls [])) ?_ (fun kJ96 => ?_)
              · 
                intro tW x1 x2 x3 x4 x5 H locs ls hF hP hD hS hl
                rw [F_X2_mostPairs_96] at hF
                refine lv_iinc (v := x5 + (nI 1)) (lv' := [(5, .int (x5 + (nI 1))), (0, .ref (a 0)), (1, .int x1), (2, .int x2), (3, .int x3), (4, .int x4)]) hx hb dX2_mostPairs_96 hl (k := 5) rfl (by rfl) (by decide) rfl (fun ls hl => ?_)
                refine lv_goto (tgt := 42) hx hb dX2_mostPairs_99 (by decide) ?_
                exact ih42 tW x1 x2 x3 x4 (x5 + (nI 1)) _ _ _ hF hP hD hS (lv_sub hl [1, 2, 3, 4, 5, 0] rfl)
              refine lv_if_eq (tgt := 96) hx hb dX2_mostPairs_55 (by decide) (fun hc => ?_) (fun hc => ?_)
              · have hF := ift hc hF
                exact kJ96 tW x1 x2 x3 x4 x5 _ _ _ hF hP hD hS (lv_sub hl [0, 1, 2, 3, 4, 5] rfl)
              · have hF := iff_ hc hF
                refine lv_aload_n hx hb dX2_mostPairs_58 rfl (lv_at hl 0 rfl) ?_
                refine va_get (D := (dC, dI)) (ci := 2) (v := .ref (a 1)) (C := RX2) (T := TX2) (N := 9) hx hb hts inw_X2_mostPairs_X2 hown hK hP 0 rfl rfl 0 (by decide) (hts (.fieldLink RX2 10 "DeniedOfEachOther" "now" "LDeniedOfEachOther$Town;") (List.mem_of_getElem? (i := 2) rfl)) (fun _ h9 => h9) rfl dX2_mostPairs_59 ?_
                refine lv_iload_n hx hb dX2_mostPairs_62 rfl (lv_at hl 2 rfl) ?_
                refine lv_iload hx hb dX2_mostPairs_63 (lv_at hl 5 rfl) ?_
                have hPc := hP.sub (ws' := (cwT cI (a 1) (a 2) (a 3) (a 4) (a 5) (a 6) tW.1)) [1, 2, 3, 4, 5, 6] rfl
                have hDc := hD.sub (ws' := (cwT cI (a 1) (a 2) (a 3) (a 4) (a 5) (a 6) tW.1)) [1, 2, 3, 4, 5, 6] (by decide) rfl
                have hFc := va_free (wc := (cwT cI (a 1) (a 2) (a 3) (a 4) (a 5) (a 6) tW.1)) hD hS hA [1, 2, 3, 4, 5, 6] rfl
                refine bd hF (fun r65 hG hF => ?_)
                refine va_calli (va_runVN (As := [.int x2, .int x5]) (rest := []) ⟨hx, hb, hml, hown, hts⟩ (c_X1_denials l dC dI cI sf H.size N (a 1) (a 2) (a 3) (a 4) (a 5) (a 6) tW.1 x2 x5 r65 hG) ⟨va_cnB 2 hts gX2_mostPairs_X1_denials_n178 rfl rfl rfl (hNN.at 29 rfl) (hts (.initialized RX1) (List.mem_of_getElem? (i := 13) rfl)) (by decide +kernel) ⟨Nat.le_of_ble_eq_true rfl, Nat.le_of_ble_eq_true rfl⟩, hts (.instanceMethod yX1_denials) (List.mem_of_getElem? (i := 12) rfl), hts (.selects RX1 yX1_denials yX1_denials) (List.mem_of_getElem? (i := 14) rfl)⟩ ⟨fun a U g mk q => ⟨q.1, q.2.call⟩, va_recv hK hP (ci := 1) (q0 := 1) rfl rfl, fun U hU hW => ⟨rfl, PB.of hU hW hPc hK hDc hNN hSF hS hFc⟩⟩ rfl rfl hl.1 rfl (lv_room (Nat.le_of_ble_eq_true rfl)) dX2_mostPairs_65 ⟨Nat.le_of_ble_eq_true rfl, Nat.le_of_ble_eq_true rfl⟩) hS (fun q _ h => hFc q h) hFc (fun z_ u_ t H locs ht hvm hw hB hz1 hk1 hS => ?_)
                subst z_
                obtain ⟨hP1, hD1⟩ := hB
                rw [ht] at hP1
                have hJ := vb_join (ws' := (cwX cI a tW)) hP hD [1, 2, 3, 4, 5, 6] [0, 7, 8, 9, 10, 11, 12, 13, 14, 15, 16, 17, 18, 19, 20, 21, 22, 23] [0, 18, 19, 20, 21, 22, 23, 1, 2, 3, 4, 5, 6, 7, 8, 9, 10, 11, 12, 13, 14, 15, 16, 17] rfl rfl (by decide) (by decide) hk1 hFc hP1 hD1 rfl (by decide) rfl
                clear hP hD hPc hDc hFc hP1 hD1 hk1 hz1 ht hvm hG
                obtain ⟨hP, hD⟩ := hJ
                refine lv_if_ne (tgt := 74) hx hb dX2_mostPairs_68 (by decide) (fun hc => ?_) (fun hc => ?_)
                · have hF := ift hc hF
                  refine lv_iload hx hb dX2_mostPairs_74 (lv_at hl 4 rfl) ?_
                  refine lv_iconst (v := nI 1) hx hb dX2_mostPairs_76 (by decide) ?_
                  refine lv_aload_n hx hb dX2_mostPairs_77 rfl (lv_at hl 0 rfl) ?_
                  refine va_get (D := (dC, dI)) (ci := 2) (v := .ref (a 23)) (C := RX2) (T := TX2) (N := 9) hx hb hts inw_X2_mostPairs_X2 hown hK hP 0 rfl rfl 8 (by decide) (hts (.fieldLink RX2 44 "DeniedOfEachOther" "pairsOf" "[I") (List.mem_of_getElem? (i := 1) rfl)) (fun _ h9 => h9) rfl dX2_mostPairs_78 ?_
                  refine lv_iload_n hx hb dX2_mostPairs_81 rfl (lv_at hl 3 rfl) ?_
                  refine lv_iconst (v := nI 1) hx hb dX2_mostPairs_82 (by decide) ?_
                  refine lv_iload hx hb dX2_mostPairs_83 (lv_at hl 5 rfl) ?_
                  refine lv_ishl hx hb dX2_mostPairs_85 ?_
                  refine lv_iconst (v := (-1)) hx hb dX2_mostPairs_86 (by decide) ?_
                  refine lv_ixor hx hb dX2_mostPairs_87 ?_
                  refine lv_iand hx hb dX2_mostPairs_88 ?_
                  refine cki hF (fun hi hF => ?_)
                  refine va_iald (D := (dC, dI)) hx hb hK hP 23 0 rfl rfl hi dX2_mostPairs_89 ?_
                  refine lv_iadd hx hb dX2_mostPairs_90 ?_
                  refine va_mmax hx hb (hml.trans hl.1.symm) hown (hts (.methodLink RX2 222 Lib.Math.max.name) (List.mem_of_getElem? (i := 3) rfl)) (hts (.static Lib.Math.max.name) (List.mem_of_getElem? (i := 4) rfl)) (hts (.initialized "java/lang/Math") (List.mem_of_getElem? (i := 5) rfl)) (hts (.code Lib.Math.max.name Lib.Math.max.code 2 (some .int)) (List.mem_of_getElem? (i := 6) rfl)) (Nat.le_of_ble_eq_true rfl) (Nat.le_of_ble_eq_true rfl) (Nat.le_of_ble_eq_true rfl) (Nat.le_of_ble_eq_true rfl) dX2_mostPairs_91 ?_
                  refine lv_istore (lv' := [(4, .int (if x4 < ((nI 1) + (tW.2.2.2.2.2.2.2.2 (x3 &&& (((nI 1) <<< (x5 &&& 31)) ^^^ (-1))).toNatClampNeg)) then ((nI 1) + (tW.2.2.2.2.2.2.2.2 (x3 &&& (((nI 1) <<< (x5 &&& 31)) ^^^ (-1))).toNatClampNeg)) else x4)), (0, .ref (a 0)), (1, .int x1), (2, .int x2), (3, .int x3), (5, .int x5)]) hx hb dX2_mostPairs_94 hl (by decide) rfl (fun ls hl => ?_)
                  exact kJ96 tW x1 x2 x3 (if x4 < ((nI 1) + (tW.2.2.2.2.2.2.2.2 (x3 &&& (((nI 1) <<< (x5 &&& 31)) ^^^ (-1))).toNatClampNeg)) then ((nI 1) + (tW.2.2.2.2.2.2.2.2 (x3 &&& (((nI 1) <<< (x5 &&& 31)) ^^^ (-1))).toNatClampNeg)) else x4) x5 _ _ _ hF hP hD hS (lv_sub hl [1, 2, 3, 4, 0, 5] rfl)
                · have hF := iff_ (fun h => h hc) hF
                  refine lv_goto (tgt := 96) hx hb dX2_mostPairs_71 (by decide) ?_
                  exact kJ96 tW x1 x2 x3 x4 x5 _ _ _ hF hP hD hS (lv_sub hl [0, 1, 2, 3, 4, 5] rfl)
        refine lv_istore (lv' := [(5, .int (r19 + (nI 1))), (4, .int (tW.2.2.2.2.2.2.2.2 (x1 &&& (x1 - (nI 1))).toNatClampNeg)), (3, .int (x1 &&& (x1 - (nI 1)))), (2, .int r19), (0, .ref (a 0)), (1, .int x1)]) hx hb dX2_mostPairs_40 hl (by decide) rfl (fun ls hl => ?_)
        exact kJ42 N tW x1 r19 (x1 &&& (x1 - (nI 1))) (tW.2.2.2.2.2.2.2.2 (x1 &&& (x1 - (nI 1))).toNatClampNeg) (r19 + (nI 1)) _ _ _ hF hP hD hS (lv_sub hl [4, 5, 3, 2, 1, 0] rfl)
  refine lv_istore_n (lv' := [(1, .int (nI 1)), (0, .ref (a 0))]) hx hb dX2_mostPairs_8 rfl hl (by decide) rfl (fun ls hl => ?_)
  exact kJ9 N (tW.1, tW.2.1, tW.2.2.1, tW.2.2.2.1, tW.2.2.2.2.1, tW.2.2.2.2.2.1, tW.2.2.2.2.2.2.1, tW.2.2.2.2.2.2.2.1, (upd tW.2.2.2.2.2.2.2.2 (nI 0).toNatClampNeg (nI 0))) (nI 1) _ _ _ hF hP hD hS (lv_sub hl [1, 0] rfl)
theorem inw_X2_differ_X2 : ∀ w ∈ u_ws RX2 TX2 9, w ∈ wsX2_differ := fun _ h => List.mem_cons_of_mem _ (List.mem_append_left _ (List.mem_append_right _ h))
theorem inw_X2_differ_X1 : ∀ w ∈ u_ws RX1 TX1 8, w ∈ wsX2_differ := fun _ h => List.mem_cons_of_mem _ (List.mem_append_right _ h)
set_option maxHeartbeats 4000000 in
set_option maxRecDepth 100000 in
theorem c_X2_differ (l : Launch) (dC : Nat → ClassId) (dI : Nat → Nat → Nat) (cI : ClassId) (sf : SFP) (sz : Nat) (N : Nat) (a : Nat → Nat) (tW : XS) (p1 : Int32) (r : (Int32 × XS)) (hF : F_X2_differ N tW p1 = some r) : Met l yX2_differ wsX2_differ ({ frames := 3, cells := 0, slots := 0, locals := 71 }) (va_Pc [.ref (a 0), .int p1] (PB (dC, dI) cI (cwX cI a tW) sz sf)) (va_Qi (fun (z : Int32) (_ : Unit) => z = r.1) (fun _ t => QB (dC, dI) (cwX cI a r.2) (va_A (cwX cI a tW) sz) t) (va_A (cwX cI a tW) sz)) 0 0 (va_A (cwX cI a tW) sz) := by
  refine Met.ofW (cc := cX2_differ) (maxL := 7) (ret := (some .int)) (by decide) rfl ?_
  intro p e s m args below meth c s₁ B hml hv
  obtain ⟨rfl, hsz, hP, hK, hD0, hNN, hSF⟩ := hv
  have hx := B.exec
  have hb := B.bytes
  have hr := B.returns
  have hts := atoms_spec (ws := wsX2_differ) B.pre
  have hown : s.vm.findClass RX2 = some m.cls := findClass_of_methodNamed B.named
  have hlocks := B.notSynchronized
  subst hsz
  have hD := hD0.self (sz := s.heap.size)
  generalize hAe : va_A (cwX cI a tW) s.heap.size = A at hD hSF ⊢
  have hA : ∀ q : Nat, s.heap.size ≤ q → A q := fun q h => by rw [← hAe]; exact Or.inr h
  clear hAe hD0
  have hS : va_S A s.heap s.heap [] := va_S.rf
  have hl := lv_entry ([.ref (a 0), .int p1]) (n := 7) (Nat.le_of_ble_eq_true rfl)
  rw [lg_entry_eq]
  generalize (lg_sl ([.ref (a 0), .int p1]) ++ List.replicate (7 - (lg_sl ([.ref (a 0), .int p1])).length) Slot.unset).toArray = ls at hl ⊢
  have hl : lv_has ls 7 [(0, .ref (a 0)), (1, .int p1)] := hl
  rw [F_X2_differ] at hF
  refine lv_iload_n hx hb dX2_differ_0 rfl (lv_at hl 1 rfl) ?_
  refine vW_have (fun R av Q => ∀ (tW : XS) (H : Heap) (locs : List Loc) (ls : Array Slot), F_X2_differ_9 N tW = some r → va_P (dC, dI) vwCl (cwX cI a tW) H → va_D A (cwX cI a tW) → va_S A s.heap H locs → lv_has ls 7 [(0, .ref (a 0))] → W p l e R s m av below meth c H locs 0 0 Q (F0 m 9 ls [])) ?_ (fun kJ9 => ?_)
  · 
    intro tW H locs ls hF hP hD hS hl
    rw [F_X2_differ_9] at hF
    refine lv_aload_n hx hb dX2_differ_9 rfl (lv_at hl 0 rfl) ?_
    refine lv_bipush (v := (-2)) hx hb dX2_differ_10 (by decide) ?_
    have hPc := hP.sub (ws' := (cwX cI a tW)) [0, 1, 2, 3, 4, 5, 6, 7, 8, 9, 10, 11, 12, 13, 14, 15, 16, 17, 18, 19, 20, 21, 22, 23] rfl
    have hDc := hD.sub (ws' := (cwX cI a tW)) [0, 1, 2, 3, 4, 5, 6, 7, 8, 9, 10, 11, 12, 13, 14, 15, 16, 17, 18, 19, 20, 21, 22, 23] (by decide) rfl
    have hFc := va_free (wc := (cwX cI a tW)) hD hS hA [0, 1, 2, 3, 4, 5, 6, 7, 8, 9, 10, 11, 12, 13, 14, 15, 16, 17, 18, 19, 20, 21, 22, 23] rfl
    refine bd hF (fun r12 hG hF => ?_)
    refine va_calli (va_runV (As := [.int (-2)]) (rest := []) ⟨hx, hb, hml, hown, hts⟩ (c_X2_refuse l dC dI cI sf H.size N a tW (-2) r12 hG) (cwV 1 hts gX2_differ_X2_refuse rfl rfl rfl (by decide +kernel) ⟨Nat.le_of_ble_eq_true rfl, Nat.le_of_ble_eq_true rfl⟩) ⟨fun a U g mk q => ⟨q.1, q.2.call⟩, va_recv hK hP (ci := 2) (q0 := 0) rfl rfl, fun U hU hW => ⟨rfl, PB.of hU hW hPc hK hDc hNN hSF hS hFc⟩⟩ rfl rfl hl.1 rfl (lv_room (Nat.le_of_ble_eq_true rfl)) dX2_differ_12 ⟨Nat.le_of_ble_eq_true rfl, Nat.le_of_ble_eq_true rfl⟩) hS (fun q _ h => hFc q h) hFc (fun z_ u_ t H locs ht hvm hw hB hz1 hk1 hS => ?_)
    subst z_
    obtain ⟨hP1, hD1⟩ := hB
    rw [ht] at hP1
    have hJ := vb_join (ws' := (cwX cI a r12.2)) hP hD [0, 1, 2, 3, 4, 5, 6, 7, 8, 9, 10, 11, 12, 13, 14, 15, 16, 17, 18, 19, 20, 21, 22, 23] [] [0, 1, 2, 3, 4, 5, 6, 7, 8, 9, 10, 11, 12, 13, 14, 15, 16, 17, 18, 19, 20, 21, 22, 23] rfl rfl (by decide) (by decide) hk1 hFc hP1 hD1 rfl (by decide) rfl
    clear hP hD hPc hDc hFc hP1 hD1 hk1 hz1 ht hvm hG
    obtain ⟨hP, hD⟩ := hJ
    obtain rfl := Option.some.inj hF
    exact W.iret (v := r12.1) hx hb hr (fun t ht hW => ⟨⟨r12.1, (), rfl, rfl, QB.of ht hP hD⟩, hS.F ht⟩) hS.2.2 dX2_differ_15
  refine lv_if_lt (tgt := 9) hx hb dX2_differ_1 (by decide) (fun hc => ?_) (fun hc => ?_)
  · have hF := ift hc hF
    exact kJ9 tW _ _ _ hF hP hD hS (lv_sub hl [0] rfl)
  · have hF := iff_ hc hF
    refine lv_iload_n hx hb dX2_differ_4 rfl (lv_at hl 1 rfl) ?_
    refine lv_iconst (v := nI 2) hx hb dX2_differ_5 (by decide) ?_
    refine lv_icmp_le (tgt := 16) hx hb dX2_differ_6 (by decide) (fun hc => ?_) (fun hc => ?_)
    · have hF := ift hc hF
      refine lv_iload_n hx hb dX2_differ_16 rfl (lv_at hl 1 rfl) ?_
      refine lv_iconst (v := nI 2) hx hb dX2_differ_17 (by decide) ?_
      refine lv_icmp_ne (tgt := 26) hx hb dX2_differ_18 (by decide) (fun hc => ?_) (fun hc => ?_)
      · have hF := ift hc hF
        refine lv_bipush (v := (-9)) hx hb dX2_differ_26 (by decide) ?_
        refine lv_istore_n (lv' := [(2, .int (-9)), (0, .ref (a 0)), (1, .int p1)]) hx hb dX2_differ_28 rfl hl (by decide) rfl (fun ls hl => ?_)
        refine lv_bipush (v := (-9)) hx hb dX2_differ_29 (by decide) ?_
        refine lv_istore_n (lv' := [(3, .int (-9)), (2, .int (-9)), (0, .ref (a 0)), (1, .int p1)]) hx hb dX2_differ_31 rfl hl (by decide) rfl (fun ls hl => ?_)
        refine lv_iconst (v := nI 0) hx hb dX2_differ_32 (by decide) ?_
        refine vW_have (fun R av Q => ∀ (n35 : Nat) (tW : XS) (x1 : Int32) (x2 : Int32) (x3 : Int32) (x4 : Int32) (H : Heap) (locs : List Loc) (ls : Array Slot), F_X2_differ_35 N n35 tW x1 x2 x3 x4 = some r → va_P (dC, dI) vwCl (cwX cI a tW) H → va_D A (cwX cI a tW) → va_S A s.heap H locs → lv_has ls 7 [(0, .ref (a 0)), (1, .int x1), (2, .int x2), (3, .int x3), (4, .int x4)] → W p l e R s m av below meth c H locs 0 0 Q (F0 m 35 ls [])) ?_ (fun kJ35 => ?_)
        · intro n35
          induction n35 with
          | zero => intro tW x1 x2 x3 x4 H locs ls hF; exact nn hF
          | succ n35 ih35 =>
            intro tW x1 x2 x3 x4 H locs ls hF hP hD hS hl
            rw [F_X2_differ_35] at hF
            refine lv_iload hx hb dX2_differ_35 (lv_at hl 4 rfl) ?_
            refine lv_aload_n hx hb dX2_differ_37 rfl (lv_at hl 0 rfl) ?_
            refine va_get (D := (dC, dI)) (ci := 2) (v := .ref (a 1)) (C := RX2) (T := TX2) (N := 9) hx hb hts inw_X2_differ_X2 hown hK hP 0 rfl rfl 0 (by decide) (hts (.fieldLink RX2 10 "DeniedOfEachOther" "now" "LDeniedOfEachOther$Town;") (List.mem_of_getElem? (i := 1) rfl)) (fun _ h9 => h9) rfl dX2_differ_38 ?_
            refine va_getN (D := (dC, dI)) (ci := 1) (v := .int tW.1.2.2.2.2.2.1) (C := RX1) (T := TX1) (N := 8) hx hb hts inw_X2_differ_X1 hown hK hP 1 rfl rfl 5 (by decide) (hNN.use 37 rfl) (fun _ h9 => h9) rfl dX2_differ_41 ?_
            refine vW_have (fun R av Q => ∀ (tW : XS) (x1 : Int32) (x2 : Int32) (x3 : Int32) (H : Heap) (locs : List Loc) (ls : Array Slot), F_X2_differ_135 N tW x1 x2 x3 = some r → va_P (dC, dI) vwCl (cwX cI a tW) H → va_D A (cwX cI a tW) → va_S A s.heap H locs → lv_has ls 7 [(1, .int x1), (2, .int x2), (3, .int x3)] → W p l e R s m av below meth c H locs 0 0 Q (F0 m 135 ls [])) ?_ (fun kJ135 => ?_)
            · 
              intro tW x1 x2 x3 H locs ls hF hP hD hS hl
              rw [F_X2_differ_135] at hF
              refine lv_iload_n hx hb dX2_differ_135 rfl (lv_at hl 0 rfl) ?_
              refine lv_if_ne (tgt := 143) hx hb dX2_differ_136 (by decide) (fun hc => ?_) (fun hc => ?_)
              · have hF := ift hc hF
                refine lv_iload_n hx hb dX2_differ_143 rfl (lv_at hl 2 rfl) ?_
                obtain rfl := Option.some.inj hF
                exact W.iret (v := x3) hx hb hr (fun t ht hW => ⟨⟨x3, (), rfl, rfl, QB.of ht hP hD⟩, hS.F ht⟩) hS.2.2 dX2_differ_144
              · have hF := iff_ (fun h => h hc) hF
                refine lv_iload_n hx hb dX2_differ_139 rfl (lv_at hl 1 rfl) ?_
                refine lv_goto (tgt := 144) hx hb dX2_differ_140 (by decide) ?_
                obtain rfl := Option.some.inj hF
                exact W.iret (v := x2) hx hb hr (fun t ht hW => ⟨⟨x2, (), rfl, rfl, QB.of ht hP hD⟩, hS.F ht⟩) hS.2.2 dX2_differ_144
            refine lv_icmp_ge (tgt := 135) hx hb dX2_differ_44 (by decide) (fun hc => ?_) (fun hc => ?_)
            · have hF := ift hc hF
              exact kJ135 tW x1 x2 x3 _ _ _ hF hP hD hS (lv_sub hl [1, 2, 3] rfl)
            · have hF := iff_ hc hF
              refine lv_iload hx hb dX2_differ_47 (lv_at hl 4 rfl) ?_
              refine lv_iconst (v := nI 1) hx hb dX2_differ_49 (by decide) ?_
              refine lv_iadd hx hb dX2_differ_50 ?_
              refine vW_have (fun R av Q => ∀ (n53 : Nat) (tW : XS) (x1 : Int32) (x2 : Int32) (x3 : Int32) (x4 : Int32) (x5 : Int32) (H : Heap) (locs : List Loc) (ls : Array Slot), F_X2_differ_53 N (fun ctW cx1 cx2 cx3 cx4 => F_X2_differ_35 N n35 ctW cx1 cx2 cx3 cx4) n53 tW x1 x2 x3 x4 x5 = some r → va_P (dC, dI) vwCl (cwX cI a tW) H → va_D A (cwX cI a tW) → va_S A s.heap H locs → lv_has ls 7 [(0, .ref (a 0)), (1, .int x1), (2, .int x2), (3, .int x3), (4, .int x4), (5, .int x5)] → W p l e R s m av below meth c H locs 0 0 Q (F0 m 53 ls [])) ?_ (fun kJ53 => ?_)
              · intro n53
                induction n53 with
                | zero => intro tW x1 x2 x3 x4 x5 H locs ls hF; exact nn hF
                | succ n53 ih53 =>
                  intro tW x1 x2 x3 x4 x5 H locs ls hF hP hD hS hl
                  rw [F_X2_differ_53] at hF
                  refine lv_iload hx hb dX2_differ_53 (lv_at hl 5 rfl) ?_
                  refine lv_aload_n hx hb dX2_differ_55 rfl (lv_at hl 0 rfl) ?_
                  refine va_get (D := (dC, dI)) (ci := 2) (v := .ref (a 1)) (C := RX2) (T := TX2) (N := 9) hx hb hts inw_X2_differ_X2 hown hK hP 0 rfl rfl 0 (by decide) (hts (.fieldLink RX2 10 "DeniedOfEachOther" "now" "LDeniedOfEachOther$Town;") (List.mem_of_getElem? (i := 1) rfl)) (fun _ h9 => h9) rfl dX2_differ_56 ?_
                  refine va_getN (D := (dC, dI)) (ci := 1) (v := .int tW.1.2.2.2.2.2.1) (C := RX1) (T := TX1) (N := 8) hx hb hts inw_X2_differ_X1 hown hK hP 1 rfl rfl 5 (by decide) (hNN.use 37 rfl) (fun _ h9 => h9) rfl dX2_differ_59 ?_
                  refine vW_have (fun R av Q => ∀ (tW : XS) (x1 : Int32) (x2 : Int32) (x3 : Int32) (x4 : Int32) (H : Heap) (locs : List Loc) (ls : Array Slot), F_X2_differ_129 N (fun ctW cx1 cx2 cx3 cx4 => F_X2_differ_35 N n35 ctW cx1 cx2 cx3 cx4) tW x1 x2 x3 x4 = some r → va_P (dC, dI) vwCl (cwX cI a tW) H → va_D A (cwX cI a tW) → va_S A s.heap H locs → lv_has ls 7 [(0, .ref (a 0)), (1, .int x1), (2, .int x2), (3, .int x3), (4, .int x4)] → W p l e R s m av below meth c H locs 0 0 Q (F0 m 129 ls [])) ?_ (fun kJ129 => ?_)
                  · 
                    intro tW x1 x2 x3 x4 H locs ls hF hP hD hS hl
                    rw [F_X2_differ_129] at hF
                    refine lv_iinc (v := x4 + (nI 1)) (lv' := [(4, .int (x4 + (nI 1))), (0, .ref (a 0)), (1, .int x1), (2, .int x2), (3, .int x3)]) hx hb dX2_differ_129 hl (k := 4) rfl (by rfl) (by decide) rfl (fun ls hl => ?_)
                    refine lv_goto (tgt := 35) hx hb dX2_differ_132 (by decide) ?_
                    exact ih35 tW x1 x2 x3 (x4 + (nI 1)) _ _ _ hF hP hD hS (lv_sub hl [1, 2, 3, 4, 0] rfl)
                  refine lv_icmp_ge (tgt := 129) hx hb dX2_differ_62 (by decide) (fun hc => ?_) (fun hc => ?_)
                  · have hF := ift hc hF
                    exact kJ129 tW x1 x2 x3 x4 _ _ _ hF hP hD hS (lv_sub hl [0, 1, 2, 3, 4] rfl)
                  · have hF := iff_ hc hF
                    refine lv_aload_n hx hb dX2_differ_65 rfl (lv_at hl 0 rfl) ?_
                    refine va_get (D := (dC, dI)) (ci := 2) (v := .ref (a 1)) (C := RX2) (T := TX2) (N := 9) hx hb hts inw_X2_differ_X2 hown hK hP 0 rfl rfl 0 (by decide) (hts (.fieldLink RX2 10 "DeniedOfEachOther" "now" "LDeniedOfEachOther$Town;") (List.mem_of_getElem? (i := 1) rfl)) (fun _ h9 => h9) rfl dX2_differ_66 ?_
                    refine lv_iload hx hb dX2_differ_69 (lv_at hl 4 rfl) ?_
                    have hPc := hP.sub (ws' := (cwT cI (a 1) (a 2) (a 3) (a 4) (a 5) (a 6) tW.1)) [1, 2, 3, 4, 5, 6] rfl
                    have hDc := hD.sub (ws' := (cwT cI (a 1) (a 2) (a 3) (a 4) (a 5) (a 6) tW.1)) [1, 2, 3, 4, 5, 6] (by decide) rfl
                    have hFc := va_free (wc := (cwT cI (a 1) (a 2) (a 3) (a 4) (a 5) (a 6) tW.1)) hD hS hA [1, 2, 3, 4, 5, 6] rfl
                    refine bd hF (fun r71 hG hF => ?_)
                    refine va_calli (va_runVN (As := [.int x4]) (rest := []) ⟨hx, hb, hml, hown, hts⟩ (c_X1_isLiving l dC dI cI sf H.size N (a 1) (a 2) (a 3) (a 4) (a 5) (a 6) tW.1 x4 r71 hG) ⟨va_cnB 1 hts gX2_differ_X1_isLiving_n85 rfl rfl rfl (hNN.at 10 rfl) (hts (.initialized RX1) (List.mem_of_getElem? (i := 23) rfl)) (by decide +kernel) ⟨Nat.le_of_ble_eq_true rfl, Nat.le_of_ble_eq_true rfl⟩, hts (.instanceMethod yX1_isLiving) (List.mem_of_getElem? (i := 32) rfl), hts (.selects RX1 yX1_isLiving yX1_isLiving) (List.mem_of_getElem? (i := 33) rfl)⟩ ⟨fun a U g mk q => ⟨q.1, q.2.call⟩, va_recv hK hP (ci := 1) (q0 := 1) rfl rfl, fun U hU hW => ⟨rfl, PB.of hU hW hPc hK hDc hNN hSF hS hFc⟩⟩ rfl rfl hl.1 rfl (lv_room (Nat.le_of_ble_eq_true rfl)) dX2_differ_71 ⟨Nat.le_of_ble_eq_true rfl, Nat.le_of_ble_eq_true rfl⟩) hS (fun q _ h => hFc q h) hFc (fun z_ u_ t H locs ht hvm hw hB hz1 hk1 hS => ?_)
                    subst z_
                    obtain ⟨hP1, hD1⟩ := hB
                    rw [ht] at hP1
                    have hJ := vb_join (ws' := (cwX cI a tW)) hP hD [1, 2, 3, 4, 5, 6] [0, 7, 8, 9, 10, 11, 12, 13, 14, 15, 16, 17, 18, 19, 20, 21, 22, 23] [0, 18, 19, 20, 21, 22, 23, 1, 2, 3, 4, 5, 6, 7, 8, 9, 10, 11, 12, 13, 14, 15, 16, 17] rfl rfl (by decide) (by decide) hk1 hFc hP1 hD1 rfl (by decide) rfl
                    clear hP hD hPc hDc hFc hP1 hD1 hk1 hz1 ht hvm hG
                    obtain ⟨hP, hD⟩ := hJ
                    refine vW_have (fun R av Q => ∀ (tW : XS) (x1 : Int32) (x2 : Int32) (x3 : Int32) (x4 : Int32) (x5 : Int32) (H : Heap) (locs : List Loc) (ls : Array Slot), F_X2_differ_123 N (fun ctW cx1 cx2 cx3 cx4 => F_X2_differ_35 N n35 ctW cx1 cx2 cx3 cx4) (fun ctW cx1 cx2 cx3 cx4 cx5 => F_X2_differ_53 N (fun ctW cx1 cx2 cx3 cx4 => F_X2_differ_35 N n35 ctW cx1 cx2 cx3 cx4) n53 ctW cx1 cx2 cx3 cx4 cx5) tW x1 x2 x3 x4 x5 = some r → va_P (dC, dI) vwCl (cwX cI a tW) H → va_D A (cwX cI a tW) → va_S A s.heap H locs → lv_has ls 7 [(0, .ref (a 0)), (1, .int x1), (2, .int x2), (3, .int x3), (4, .int x4), (5, .int x5)] → W p l e R s m av below meth c H locs 0 0 Q (F0 m 123 ls [])) ?_ (fun kJ123 => ?_)
                    · 
                      intro tW x1 x2 x3 x4 x5 H locs ls hF hP hD hS hl
                      rw [F_X2_differ_123] at hF
                      refine lv_iinc (v := x5 + (nI 1)) (lv' := [(5, .int (x5 + (nI 1))), (0, .ref (a 0)), (1, .int x1), (2, .int x2), (3, .int x3), (4, .int x4)]) hx hb dX2_differ_123 hl (k := 5) rfl (by rfl) (by decide) rfl (fun ls hl => ?_)
                      refine lv_goto (tgt := 53) hx hb dX2_differ_126 (by decide) ?_
                      exact ih53 tW x1 x2 x3 x4 (x5 + (nI 1)) _ _ _ hF hP hD hS (lv_sub hl [1, 2, 3, 4, 5, 0] rfl)
                    refine lv_if_eq (tgt := 123) hx hb dX2_differ_74 (by decide) (fun hc => ?_) (fun hc => ?_)
                    · have hF := ift hc hF
                      exact kJ123 tW x1 x2 x3 x4 x5 _ _ _ hF hP hD hS (lv_sub hl [0, 1, 2, 3, 4, 5] rfl)
                    · have hF := iff_ hc hF
                      refine lv_aload_n hx hb dX2_differ_77 rfl (lv_at hl 0 rfl) ?_
                      refine va_get (D := (dC, dI)) (ci := 2) (v := .ref (a 1)) (C := RX2) (T := TX2) (N := 9) hx hb hts inw_X2_differ_X2 hown hK hP 0 rfl rfl 0 (by decide) (hts (.fieldLink RX2 10 "DeniedOfEachOther" "now" "LDeniedOfEachOther$Town;") (List.mem_of_getElem? (i := 1) rfl)) (fun _ h9 => h9) rfl dX2_differ_78 ?_
                      refine lv_iload hx hb dX2_differ_81 (lv_at hl 5 rfl) ?_
                      have hPc := hP.sub (ws' := (cwT cI (a 1) (a 2) (a 3) (a 4) (a 5) (a 6) tW.1)) [1, 2, 3, 4, 5, 6] rfl
                      have hDc := hD.sub (ws' := (cwT cI (a 1) (a 2) (a 3) (a 4) (a 5) (a 6) tW.1)) [1, 2, 3, 4, 5, 6] (by decide) rfl
                      have hFc := va_free (wc := (cwT cI (a 1) (a 2) (a 3) (a 4) (a 5) (a 6) tW.1)) hD hS hA [1, 2, 3, 4, 5, 6] rfl
                      refine bd hF (fun r83 hG hF => ?_)
                      refine va_calli (va_runVN (As := [.int x5]) (rest := []) ⟨hx, hb, hml, hown, hts⟩ (c_X1_isLiving l dC dI cI sf H.size N (a 1) (a 2) (a 3) (a 4) (a 5) (a 6) tW.1 x5 r83 hG) ⟨va_cnB 1 hts gX2_differ_X1_isLiving_n85 rfl rfl rfl (hNN.at 10 rfl) (hts (.initialized RX1) (List.mem_of_getElem? (i := 23) rfl)) (by decide +kernel) ⟨Nat.le_of_ble_eq_true rfl, Nat.le_of_ble_eq_true rfl⟩, hts (.instanceMethod yX1_isLiving) (List.mem_of_getElem? (i := 32) rfl), hts (.selects RX1 yX1_isLiving yX1_isLiving) (List.mem_of_getElem? (i := 33) rfl)⟩ ⟨fun a U g mk q => ⟨q.1, q.2.call⟩, va_recv hK hP (ci := 1) (q0 := 1) rfl rfl, fun U hU hW => ⟨rfl, PB.of hU hW hPc hK hDc hNN hSF hS hFc⟩⟩ rfl rfl hl.1 rfl (lv_room (Nat.le_of_ble_eq_true rfl)) dX2_differ_83 ⟨Nat.le_of_ble_eq_true rfl, Nat.le_of_ble_eq_true rfl⟩) hS (fun q _ h => hFc q h) hFc (fun z_ u_ t H locs ht hvm hw hB hz1 hk1 hS => ?_)
                      subst z_
                      obtain ⟨hP1, hD1⟩ := hB
                      rw [ht] at hP1
                      have hJ := vb_join (ws' := (cwX cI a tW)) hP hD [1, 2, 3, 4, 5, 6] [0, 7, 8, 9, 10, 11, 12, 13, 14, 15, 16, 17, 18, 19, 20, 21, 22, 23] [0, 18, 19, 20, 21, 22, 23, 1, 2, 3, 4, 5, 6, 7, 8, 9, 10, 11, 12, 13, 14, 15, 16, 17] rfl rfl (by decide) (by decide) hk1 hFc hP1 hD1 rfl (by decide) rfl
                      clear hP hD hPc hDc hFc hP1 hD1 hk1 hz1 ht hvm hG
                      obtain ⟨hP, hD⟩ := hJ
                      refine lv_if_ne (tgt := 92) hx hb dX2_differ_86 (by decide) (fun hc => ?_) (fun hc => ?_)
                      · have hF := ift hc hF
                        refine lv_aload_n hx hb dX2_differ_92 rfl (lv_at hl 0 rfl) ?_
                        refine va_get (D := (dC, dI)) (ci := 2) (v := .ref (a 1)) (C := RX2) (T := TX2) (N := 9) hx hb hts inw_X2_differ_X2 hown hK hP 0 rfl rfl 0 (by decide) (hts (.fieldLink RX2 10 "DeniedOfEachOther" "now" "LDeniedOfEachOther$Town;") (List.mem_of_getElem? (i := 1) rfl)) (fun _ h9 => h9) rfl dX2_differ_93 ?_
                        refine lv_iload hx hb dX2_differ_96 (lv_at hl 4 rfl) ?_
                        refine lv_iload hx hb dX2_differ_98 (lv_at hl 5 rfl) ?_
                        have hPc := hP.sub (ws' := (cwT cI (a 1) (a 2) (a 3) (a 4) (a 5) (a 6) tW.1)) [1, 2, 3, 4, 5, 6] rfl
                        have hDc := hD.sub (ws' := (cwT cI (a 1) (a 2) (a 3) (a 4) (a 5) (a 6) tW.1)) [1, 2, 3, 4, 5, 6] (by decide) rfl
                        have hFc := va_free (wc := (cwT cI (a 1) (a 2) (a 3) (a 4) (a 5) (a 6) tW.1)) hD hS hA [1, 2, 3, 4, 5, 6] rfl
                        refine bd hF (fun r100 hG hF => ?_)
                        refine va_calli (va_runVN (As := [.int x4, .int x5]) (rest := []) ⟨hx, hb, hml, hown, hts⟩ (c_X1_denials l dC dI cI sf H.size N (a 1) (a 2) (a 3) (a 4) (a 5) (a 6) tW.1 x4 x5 r100 hG) ⟨va_cnB 2 hts gX2_differ_X1_denials_n178 rfl rfl rfl (hNN.at 29 rfl) (hts (.initialized RX1) (List.mem_of_getElem? (i := 23) rfl)) (by decide +kernel) ⟨Nat.le_of_ble_eq_true rfl, Nat.le_of_ble_eq_true rfl⟩, hts (.instanceMethod yX1_denials) (List.mem_of_getElem? (i := 22) rfl), hts (.selects RX1 yX1_denials yX1_denials) (List.mem_of_getElem? (i := 24) rfl)⟩ ⟨fun a U g mk q => ⟨q.1, q.2.call⟩, va_recv hK hP (ci := 1) (q0 := 1) rfl rfl, fun U hU hW => ⟨rfl, PB.of hU hW hPc hK hDc hNN hSF hS hFc⟩⟩ rfl rfl hl.1 rfl (lv_room (Nat.le_of_ble_eq_true rfl)) dX2_differ_100 ⟨Nat.le_of_ble_eq_true rfl, Nat.le_of_ble_eq_true rfl⟩) hS (fun q _ h => hFc q h) hFc (fun z_ u_ t H locs ht hvm hw hB hz1 hk1 hS => ?_)
                        subst z_
                        obtain ⟨hP1, hD1⟩ := hB
                        rw [ht] at hP1
                        have hJ := vb_join (ws' := (cwX cI a tW)) hP hD [1, 2, 3, 4, 5, 6] [0, 7, 8, 9, 10, 11, 12, 13, 14, 15, 16, 17, 18, 19, 20, 21, 22, 23] [0, 18, 19, 20, 21, 22, 23, 1, 2, 3, 4, 5, 6, 7, 8, 9, 10, 11, 12, 13, 14, 15, 16, 17] rfl rfl (by decide) (by decide) hk1 hFc hP1 hD1 rfl (by decide) rfl
                        clear hP hD hPc hDc hFc hP1 hD1 hk1 hz1 ht hvm hG
                        obtain ⟨hP, hD⟩ := hJ
                        refine lv_istore (lv' := [(6, .int r100), (0, .ref (a 0)), (1, .int x1), (2, .int x2), (3, .int x3), (4, .int x4), (5, .int x5)]) hx hb dX2_differ_103 hl (by decide) rfl (fun ls hl => ?_)
                        refine lv_iload hx hb dX2_differ_105 (lv_at hl 0 rfl) ?_
                        refine lv_iload_n hx hb dX2_differ_107 rfl (lv_at hl 4 rfl) ?_
                        refine lv_icmp_le (tgt := 123) hx hb dX2_differ_108 (by decide) (fun hc => ?_) (fun hc => ?_)
                        · have hF := ift hc hF
                          exact kJ123 tW x1 x2 x3 x4 x5 _ _ _ hF hP hD hS (lv_sub hl [1, 2, 3, 4, 5, 6] rfl)
                        · have hF := iff_ hc hF
                          refine lv_iload hx hb dX2_differ_111 (lv_at hl 0 rfl) ?_
                          refine lv_istore_n (lv' := [(3, .int r100), (6, .int r100), (0, .ref (a 0)), (1, .int x1), (2, .int x2), (4, .int x4), (5, .int x5)]) hx hb dX2_differ_113 rfl hl (by decide) rfl (fun ls hl => ?_)
                          refine lv_bipush (v := nI 10) hx hb dX2_differ_114 (by decide) ?_
                          refine lv_iload hx hb dX2_differ_116 (lv_at hl 5 rfl) ?_
                          refine lv_imul hx hb dX2_differ_118 ?_
                          refine lv_iload hx hb dX2_differ_119 (lv_at hl 6 rfl) ?_
                          refine lv_iadd hx hb dX2_differ_121 ?_
                          refine lv_istore_n (lv' := [(2, .int (((nI 10) * x4) + x5)), (3, .int r100), (6, .int r100), (0, .ref (a 0)), (1, .int x1), (4, .int x4), (5, .int x5)]) hx hb dX2_differ_122 rfl hl (by decide) rfl (fun ls hl => ?_)
                          exact kJ123 tW x1 (((nI 10) * x4) + x5) r100 x4 x5 _ _ _ hF hP hD hS (lv_sub hl [3, 4, 0, 1, 5, 6] rfl)
                      · have hF := iff_ (fun h => h hc) hF
                        refine lv_goto (tgt := 123) hx hb dX2_differ_89 (by decide) ?_
                        exact kJ123 tW x1 x2 x3 x4 x5 _ _ _ hF hP hD hS (lv_sub hl [0, 1, 2, 3, 4, 5] rfl)
              refine lv_istore (lv' := [(5, .int (x4 + (nI 1))), (0, .ref (a 0)), (1, .int x1), (2, .int x2), (3, .int x3), (4, .int x4)]) hx hb dX2_differ_51 hl (by decide) rfl (fun ls hl => ?_)
              exact kJ53 N tW x1 x2 x3 x4 (x4 + (nI 1)) _ _ _ hF hP hD hS (lv_sub hl [1, 2, 3, 4, 5, 0] rfl)
        refine lv_istore (lv' := [(4, .int (nI 0)), (3, .int (-9)), (2, .int (-9)), (0, .ref (a 0)), (1, .int p1)]) hx hb dX2_differ_33 hl (by decide) rfl (fun ls hl => ?_)
        exact kJ35 N tW p1 (-9) (-9) (nI 0) _ _ _ hF hP hD hS (lv_sub hl [3, 4, 2, 1, 0] rfl)
      · have hF := iff_ (fun h => h hc) hF
        refine lv_aload_n hx hb dX2_differ_21 rfl (lv_at hl 0 rfl) ?_
        have hPc := hP.sub (ws' := (cwX cI a tW)) [0, 1, 2, 3, 4, 5, 6, 7, 8, 9, 10, 11, 12, 13, 14, 15, 16, 17, 18, 19, 20, 21, 22, 23] rfl
        have hDc := hD.sub (ws' := (cwX cI a tW)) [0, 1, 2, 3, 4, 5, 6, 7, 8, 9, 10, 11, 12, 13, 14, 15, 16, 17, 18, 19, 20, 21, 22, 23] (by decide) rfl
        have hFc := va_free (wc := (cwX cI a tW)) hD hS hA [0, 1, 2, 3, 4, 5, 6, 7, 8, 9, 10, 11, 12, 13, 14, 15, 16, 17, 18, 19, 20, 21, 22, 23] rfl
        refine bd hF (fun r22 hG hF => ?_)
        refine va_calli (va_runV (As := []) (rest := []) ⟨hx, hb, hml, hown, hts⟩ (c_X2_mostPairs l dC dI cI sf s.heap.size N a tW r22 hG) (cwV 0 hts gX2_differ_X2_mostPairs rfl rfl rfl (by decide +kernel) ⟨Nat.le_of_ble_eq_true rfl, Nat.le_of_ble_eq_true rfl⟩) ⟨fun a U g mk q => ⟨q.1, q.2.call⟩, va_recv hK hP (ci := 2) (q0 := 0) rfl rfl, fun U hU hW => ⟨rfl, PB.of hU hW hPc hK hDc hNN hSF hS hFc⟩⟩ rfl rfl hl.1 rfl (lv_room (Nat.le_of_ble_eq_true rfl)) dX2_differ_22 ⟨Nat.le_of_ble_eq_true rfl, Nat.le_of_ble_eq_true rfl⟩) hS (fun q _ h => hFc q h) hFc (fun z_ u_ t H locs ht hvm hw hB hz1 hk1 hS => ?_)
        subst z_
        obtain ⟨hP1, hD1⟩ := hB
        rw [ht] at hP1
        have hJ := vb_join (ws' := (cwX cI a r22.2)) hP hD [0, 1, 2, 3, 4, 5, 6, 7, 8, 9, 10, 11, 12, 13, 14, 15, 16, 17, 18, 19, 20, 21, 22, 23] [] [0, 1, 2, 3, 4, 5, 6, 7, 8, 9, 10, 11, 12, 13, 14, 15, 16, 17, 18, 19, 20, 21, 22, 23] rfl rfl (by decide) (by decide) hk1 hFc hP1 hD1 rfl (by decide) rfl
        clear hP hD hPc hDc hFc hP1 hD1 hk1 hz1 ht hvm hG
        obtain ⟨hP, hD⟩ := hJ
        obtain rfl := Option.some.inj hF
        exact W.iret (v := r22.1) hx hb hr (fun t ht hW => ⟨⟨r22.1, (), rfl, rfl, QB.of ht hP hD⟩, hS.F ht⟩) hS.2.2 dX2_differ_25
    · have hF := iff_ hc hF
      exact kJ9 tW _ _ _ hF hP hD hS (lv_sub hl [0] rfl)
theorem inw_X2_endOfQuarrel_X2 : ∀ w ∈ u_ws RX2 TX2 9, w ∈ wsX2_endOfQuarrel := fun _ h => List.mem_cons_of_mem _ (List.mem_append_left _ (List.mem_append_right _ h))
theorem inw_X2_endOfQuarrel_X1 : ∀ w ∈ u_ws RX1 TX1 8, w ∈ wsX2_endOfQuarrel := fun _ h => List.mem_cons_of_mem _ (List.mem_append_right _ h)
set_option maxHeartbeats 4000000 in
set_option maxRecDepth 100000 in
theorem c_X2_endOfQuarrel (l : Launch) (dC : Nat → ClassId) (dI : Nat → Nat → Nat) (cI : ClassId) (sf : SFP) (sz : Nat) (N : Nat) (a : Nat → Nat) (tW : XS) (p1 : Int32) (p2 : Int32) (p3 : Int32) (r : (Int32 × XS)) (hF : F_X2_endOfQuarrel N tW p1 p2 p3 = some r) : Met l yX2_endOfQuarrel wsX2_endOfQuarrel ({ frames := 5, cells := 0, slots := 0, locals := 121 }) (va_Pc [.ref (a 0), .int p1, .int p2, .int p3] (PB (dC, dI) cI (cwX cI a tW) sz sf)) (va_Qi (fun (z : Int32) (_ : Unit) => z = r.1) (fun _ t => QB (dC, dI) (cwX cI a r.2) (va_A (cwX cI a tW) sz) t) (va_A (cwX cI a tW) sz)) 0 0 (va_A (cwX cI a tW) sz) := by
  refine Met.ofW (cc := cX2_endOfQuarrel) (maxL := 4) (ret := (some .int)) (by decide) rfl ?_
  intro p e s m args below meth c s₁ B hml hv
  obtain ⟨rfl, hsz, hP, hK, hD0, hNN, hSF⟩ := hv
  have hx := B.exec
  have hb := B.bytes
  have hr := B.returns
  have hts := atoms_spec (ws := wsX2_endOfQuarrel) B.pre
  have hown : s.vm.findClass RX2 = some m.cls := findClass_of_methodNamed B.named
  have hlocks := B.notSynchronized
  subst hsz
  have hD := hD0.self (sz := s.heap.size)
  generalize hAe : va_A (cwX cI a tW) s.heap.size = A at hD hSF ⊢
  have hA : ∀ q : Nat, s.heap.size ≤ q → A q := fun q h => by rw [← hAe]; exact Or.inr h
  clear hAe hD0
  have hS : va_S A s.heap s.heap [] := va_S.rf
  have hl := lv_entry ([.ref (a 0), .int p1, .int p2, .int p3]) (n := 4) (Nat.le_of_ble_eq_true rfl)
  rw [lg_entry_eq]
  generalize (lg_sl ([.ref (a 0), .int p1, .int p2, .int p3]) ++ List.replicate (4 - (lg_sl ([.ref (a 0), .int p1, .int p2, .int p3])).length) Slot.unset).toArray = ls at hl ⊢
  have hl : lv_has ls 4 [(0, .ref (a 0)), (1, .int p1), (2, .int p2), (3, .int p3)] := hl
  rw [F_X2_endOfQuarrel] at hF
  refine lv_aload_n hx hb dX2_endOfQuarrel_0 rfl (lv_at hl 0 rfl) ?_
  refine va_get (D := (dC, dI)) (ci := 2) (v := .ref (a 7)) (C := RX2) (T := TX2) (N := 9) hx hb hts inw_X2_endOfQuarrel_X2 hown hK hP 0 rfl rfl 1 (by decide) (hts (.fieldLink RX2 16 "DeniedOfEachOther" "mind" "LDeniedOfEachOther$Town;") (List.mem_of_getElem? (i := 1) rfl)) (fun _ h9 => h9) rfl dX2_endOfQuarrel_1 ?_
  refine lv_aload_n hx hb dX2_endOfQuarrel_4 rfl (lv_at hl 0 rfl) ?_
  refine va_get (D := (dC, dI)) (ci := 2) (v := .ref (a 1)) (C := RX2) (T := TX2) (N := 9) hx hb hts inw_X2_endOfQuarrel_X2 hown hK hP 0 rfl rfl 0 (by decide) (hts (.fieldLink RX2 10 "DeniedOfEachOther" "now" "LDeniedOfEachOther$Town;") (List.mem_of_getElem? (i := 2) rfl)) (fun _ h9 => h9) rfl dX2_endOfQuarrel_5 ?_
  have hPc := hP.sub (ws' := (cwT cI (a 7) (a 8) (a 9) (a 10) (a 11) (a 12) tW.2.1 ++ cwT cI (a 1) (a 2) (a 3) (a 4) (a 5) (a 6) tW.1)) [7, 8, 9, 10, 11, 12, 1, 2, 3, 4, 5, 6] rfl
  have hDc := hD.sub (ws' := (cwT cI (a 7) (a 8) (a 9) (a 10) (a 11) (a 12) tW.2.1 ++ cwT cI (a 1) (a 2) (a 3) (a 4) (a 5) (a 6) tW.1)) [7, 8, 9, 10, 11, 12, 1, 2, 3, 4, 5, 6] (by decide) rfl
  have hFc := va_free (wc := (cwT cI (a 7) (a 8) (a 9) (a 10) (a 11) (a 12) tW.2.1 ++ cwT cI (a 1) (a 2) (a 3) (a 4) (a 5) (a 6) tW.1)) hD hS hA [7, 8, 9, 10, 11, 12, 1, 2, 3, 4, 5, 6] rfl
  refine bd hF (fun r8 hG hF => ?_)
  refine va_callv (va_runVN (As := [.ref (a 1)]) (rest := []) ⟨hx, hb, hml, hown, hts⟩ (c_X1_become l dC dI cI sf s.heap.size N (a 7) (a 8) (a 9) (a 10) (a 11) (a 12) (a 1) (a 2) (a 3) (a 4) (a 5) (a 6) tW.2.1 tW.1 r8 hG) ⟨va_cnB 1 hts gX2_endOfQuarrel_X1_become_n61 rfl rfl rfl (hNN.at 2 rfl) (hts (.initialized RX1) (List.mem_of_getElem? (i := 4) rfl)) (by decide +kernel) ⟨Nat.le_of_ble_eq_true rfl, Nat.le_of_ble_eq_true rfl⟩, hts (.instanceMethod yX1_become) (List.mem_of_getElem? (i := 3) rfl), hts (.selects RX1 yX1_become yX1_become) (List.mem_of_getElem? (i := 5) rfl)⟩ ⟨fun a U g mk q => ⟨q.1, q.2.call⟩, va_recv hK hP (ci := 1) (q0 := 7) rfl rfl, fun U hU hW => ⟨rfl, PB.of hU hW hPc hK hDc hNN hSF hS hFc⟩⟩ rfl rfl hl.1 rfl (lv_room (Nat.le_of_ble_eq_true rfl)) dX2_endOfQuarrel_8 ⟨Nat.le_of_ble_eq_true rfl, Nat.le_of_ble_eq_true rfl⟩) hS (fun q _ h => hFc q h) hFc (fun u_ t H locs ht hvm hw hB hz1 hk1 hS => ?_)
  obtain ⟨hP1, hD1⟩ := hB
  rw [ht] at hP1
  have hJ := vb_join (ws' := (cwX cI a (tW.1, r8, tW.2.2.1, tW.2.2.2.1, tW.2.2.2.2.1, tW.2.2.2.2.2.1, tW.2.2.2.2.2.2.1, tW.2.2.2.2.2.2.2.1, tW.2.2.2.2.2.2.2.2))) hP hD [7, 8, 9, 10, 11, 12, 1, 2, 3, 4, 5, 6] [0, 13, 14, 15, 16, 17, 18, 19, 20, 21, 22, 23] [0, 18, 19, 20, 21, 22, 23, 12, 13, 14, 15, 16, 17, 1, 2, 3, 4, 5, 6, 7, 8, 9, 10, 11] rfl rfl (by decide) (by decide) hk1 hFc hP1 hD1 rfl (by decide) rfl
  clear hP hD hPc hDc hFc hP1 hD1 hk1 hz1 ht hvm hG
  obtain ⟨hP, hD⟩ := hJ
  refine lv_aload_n hx hb dX2_endOfQuarrel_11 rfl (lv_at hl 0 rfl) ?_
  refine va_get (D := (dC, dI)) (ci := 2) (v := .ref (a 7)) (C := RX2) (T := TX2) (N := 9) hx hb hts inw_X2_endOfQuarrel_X2 hown hK hP 0 rfl rfl 1 (by decide) (hts (.fieldLink RX2 16 "DeniedOfEachOther" "mind" "LDeniedOfEachOther$Town;") (List.mem_of_getElem? (i := 1) rfl)) (fun _ h9 => h9) rfl dX2_endOfQuarrel_12 ?_
  refine lv_iload_n hx hb dX2_endOfQuarrel_15 rfl (lv_at hl 1 rfl) ?_
  refine lv_iload_n hx hb dX2_endOfQuarrel_16 rfl (lv_at hl 3 rfl) ?_
  refine lv_iconst (v := nI 1) hx hb dX2_endOfQuarrel_17 (by decide) ?_
  have hPc := hP.sub (ws' := (cwT cI (a 7) (a 8) (a 9) (a 10) (a 11) (a 12) r8)) [7, 8, 9, 10, 11, 12] rfl
  have hDc := hD.sub (ws' := (cwT cI (a 7) (a 8) (a 9) (a 10) (a 11) (a 12) r8)) [7, 8, 9, 10, 11, 12] (by decide) rfl
  have hFc := va_free (wc := (cwT cI (a 7) (a 8) (a 9) (a 10) (a 11) (a 12) r8)) hD hS hA [7, 8, 9, 10, 11, 12] rfl
  refine bd hF (fun r18 hG hF => ?_)
  refine va_callv (va_runVN (As := [.int p1, .int p3, .int (nI 1)]) (rest := []) ⟨hx, hb, hml, hown, hts⟩ (c_X1_put l dC dI cI sf H.size N (a 7) (a 8) (a 9) (a 10) (a 11) (a 12) r8 p1 p3 (nI 1) r18 hG) ⟨va_cnB 3 hts gX2_endOfQuarrel_X1_put_n104 rfl rfl rfl (hNN.at 15 rfl) (hts (.initialized RX1) (List.mem_of_getElem? (i := 4) rfl)) (by decide +kernel) ⟨Nat.le_of_ble_eq_true rfl, Nat.le_of_ble_eq_true rfl⟩, hts (.instanceMethod yX1_put) (List.mem_of_getElem? (i := 19) rfl), hts (.selects RX1 yX1_put yX1_put) (List.mem_of_getElem? (i := 20) rfl)⟩ ⟨fun a U g mk q => ⟨q.1, q.2.call⟩, va_recv hK hP (ci := 1) (q0 := 7) rfl rfl, fun U hU hW => ⟨rfl, PB.of hU hW hPc hK hDc hNN hSF hS hFc⟩⟩ rfl rfl hl.1 rfl (lv_room (Nat.le_of_ble_eq_true rfl)) dX2_endOfQuarrel_18 ⟨Nat.le_of_ble_eq_true rfl, Nat.le_of_ble_eq_true rfl⟩) hS (fun q _ h => hFc q h) hFc (fun u_ t H locs ht hvm hw hB hz1 hk1 hS => ?_)
  obtain ⟨hP1, hD1⟩ := hB
  rw [ht] at hP1
  have hJ := vb_join (ws' := (cwX cI a (tW.1, r18, tW.2.2.1, tW.2.2.2.1, tW.2.2.2.2.1, tW.2.2.2.2.2.1, tW.2.2.2.2.2.2.1, tW.2.2.2.2.2.2.2.1, tW.2.2.2.2.2.2.2.2))) hP hD [7, 8, 9, 10, 11, 12] [0, 1, 2, 3, 4, 5, 6, 13, 14, 15, 16, 17, 18, 19, 20, 21, 22, 23] [0, 1, 2, 3, 4, 5, 6, 18, 19, 20, 21, 22, 23, 7, 8, 9, 10, 11, 12, 13, 14, 15, 16, 17] rfl rfl (by decide) (by decide) hk1 hFc hP1 hD1 rfl (by decide) rfl
  clear hP hD hPc hDc hFc hP1 hD1 hk1 hz1 ht hvm hG
  obtain ⟨hP, hD⟩ := hJ
  refine lv_aload_n hx hb dX2_endOfQuarrel_21 rfl (lv_at hl 0 rfl) ?_
  refine va_get (D := (dC, dI)) (ci := 2) (v := .ref (a 7)) (C := RX2) (T := TX2) (N := 9) hx hb hts inw_X2_endOfQuarrel_X2 hown hK hP 0 rfl rfl 1 (by decide) (hts (.fieldLink RX2 16 "DeniedOfEachOther" "mind" "LDeniedOfEachOther$Town;") (List.mem_of_getElem? (i := 1) rfl)) (fun _ h9 => h9) rfl dX2_endOfQuarrel_22 ?_
  refine lv_iload_n hx hb dX2_endOfQuarrel_25 rfl (lv_at hl 2 rfl) ?_
  refine lv_iload_n hx hb dX2_endOfQuarrel_26 rfl (lv_at hl 3 rfl) ?_
  refine lv_iconst (v := nI 2) hx hb dX2_endOfQuarrel_27 (by decide) ?_
  have hPc := hP.sub (ws' := (cwT cI (a 7) (a 8) (a 9) (a 10) (a 11) (a 12) r18)) [7, 8, 9, 10, 11, 12] rfl
  have hDc := hD.sub (ws' := (cwT cI (a 7) (a 8) (a 9) (a 10) (a 11) (a 12) r18)) [7, 8, 9, 10, 11, 12] (by decide) rfl
  have hFc := va_free (wc := (cwT cI (a 7) (a 8) (a 9) (a 10) (a 11) (a 12) r18)) hD hS hA [7, 8, 9, 10, 11, 12] rfl
  refine bd hF (fun r28 hG hF => ?_)
  refine va_callv (va_runVN (As := [.int p2, .int p3, .int (nI 2)]) (rest := []) ⟨hx, hb, hml, hown, hts⟩ (c_X1_put l dC dI cI sf H.size N (a 7) (a 8) (a 9) (a 10) (a 11) (a 12) r18 p2 p3 (nI 2) r28 hG) ⟨va_cnB 3 hts gX2_endOfQuarrel_X1_put_n104 rfl rfl rfl (hNN.at 15 rfl) (hts (.initialized RX1) (List.mem_of_getElem? (i := 4) rfl)) (by decide +kernel) ⟨Nat.le_of_ble_eq_true rfl, Nat.le_of_ble_eq_true rfl⟩, hts (.instanceMethod yX1_put) (List.mem_of_getElem? (i := 19) rfl), hts (.selects RX1 yX1_put yX1_put) (List.mem_of_getElem? (i := 20) rfl)⟩ ⟨fun a U g mk q => ⟨q.1, q.2.call⟩, va_recv hK hP (ci := 1) (q0 := 7) rfl rfl, fun U hU hW => ⟨rfl, PB.of hU hW hPc hK hDc hNN hSF hS hFc⟩⟩ rfl rfl hl.1 rfl (lv_room (Nat.le_of_ble_eq_true rfl)) dX2_endOfQuarrel_28 ⟨Nat.le_of_ble_eq_true rfl, Nat.le_of_ble_eq_true rfl⟩) hS (fun q _ h => hFc q h) hFc (fun u_ t H locs ht hvm hw hB hz1 hk1 hS => ?_)
  obtain ⟨hP1, hD1⟩ := hB
  rw [ht] at hP1
  have hJ := vb_join (ws' := (cwX cI a (tW.1, r28, tW.2.2.1, tW.2.2.2.1, tW.2.2.2.2.1, tW.2.2.2.2.2.1, tW.2.2.2.2.2.2.1, tW.2.2.2.2.2.2.2.1, tW.2.2.2.2.2.2.2.2))) hP hD [7, 8, 9, 10, 11, 12] [0, 1, 2, 3, 4, 5, 6, 13, 14, 15, 16, 17, 18, 19, 20, 21, 22, 23] [0, 1, 2, 3, 4, 5, 6, 18, 19, 20, 21, 22, 23, 7, 8, 9, 10, 11, 12, 13, 14, 15, 16, 17] rfl rfl (by decide) (by decide) hk1 hFc hP1 hD1 rfl (by decide) rfl
  clear hP hD hPc hDc hFc hP1 hD1 hk1 hz1 ht hvm hG
  obtain ⟨hP, hD⟩ := hJ
  refine lv_aload_n hx hb dX2_endOfQuarrel_31 rfl (lv_at hl 0 rfl) ?_
  refine va_get (D := (dC, dI)) (ci := 2) (v := .ref (a 7)) (C := RX2) (T := TX2) (N := 9) hx hb hts inw_X2_endOfQuarrel_X2 hown hK hP 0 rfl rfl 1 (by decide) (hts (.fieldLink RX2 16 "DeniedOfEachOther" "mind" "LDeniedOfEachOther$Town;") (List.mem_of_getElem? (i := 1) rfl)) (fun _ h9 => h9) rfl dX2_endOfQuarrel_32 ?_
  refine lv_iload_n hx hb dX2_endOfQuarrel_35 rfl (lv_at hl 3 rfl) ?_
  have hPc := hP.sub (ws' := (cwT cI (a 7) (a 8) (a 9) (a 10) (a 11) (a 12) r28)) [7, 8, 9, 10, 11, 12] rfl
  have hDc := hD.sub (ws' := (cwT cI (a 7) (a 8) (a 9) (a 10) (a 11) (a 12) r28)) [7, 8, 9, 10, 11, 12] (by decide) rfl
  have hFc := va_free (wc := (cwT cI (a 7) (a 8) (a 9) (a 10) (a 11) (a 12) r28)) hD hS hA [7, 8, 9, 10, 11, 12] rfl
  refine bd hF (fun r36 hG hF => ?_)
  refine va_calli (va_runVN (As := [.int p3]) (rest := []) ⟨hx, hb, hml, hown, hts⟩ (c_X1_endOf l dC dI cI sf H.size N (a 7) (a 8) (a 9) (a 10) (a 11) (a 12) r28 p3 r36 hG) ⟨va_cnB 1 hts gX2_endOfQuarrel_X1_endOf_n134 rfl rfl rfl (hNN.at 23 rfl) (hts (.initialized RX1) (List.mem_of_getElem? (i := 4) rfl)) (by decide +kernel) ⟨Nat.le_of_ble_eq_true rfl, Nat.le_of_ble_eq_true rfl⟩, hts (.instanceMethod yX1_endOf) (List.mem_of_getElem? (i := 22) rfl), hts (.selects RX1 yX1_endOf yX1_endOf) (List.mem_of_getElem? (i := 23) rfl)⟩ ⟨fun a U g mk q => ⟨q.1, q.2.call⟩, va_recv hK hP (ci := 1) (q0 := 7) rfl rfl, fun U hU hW => ⟨rfl, PB.of hU hW hPc hK hDc hNN hSF hS hFc⟩⟩ rfl rfl hl.1 rfl (lv_room (Nat.le_of_ble_eq_true rfl)) dX2_endOfQuarrel_36 ⟨Nat.le_of_ble_eq_true rfl, Nat.le_of_ble_eq_true rfl⟩) hS (fun q _ h => hFc q h) hFc (fun z_ u_ t H locs ht hvm hw hB hz1 hk1 hS => ?_)
  subst z_
  obtain ⟨hP1, hD1⟩ := hB
  rw [ht] at hP1
  have hJ := vb_join (ws' := (cwX cI a (tW.1, r36.2, tW.2.2.1, tW.2.2.2.1, tW.2.2.2.2.1, tW.2.2.2.2.2.1, tW.2.2.2.2.2.2.1, tW.2.2.2.2.2.2.2.1, tW.2.2.2.2.2.2.2.2))) hP hD [7, 8, 9, 10, 11, 12] [0, 1, 2, 3, 4, 5, 6, 13, 14, 15, 16, 17, 18, 19, 20, 21, 22, 23] [0, 1, 2, 3, 4, 5, 6, 18, 19, 20, 21, 22, 23, 7, 8, 9, 10, 11, 12, 13, 14, 15, 16, 17] rfl rfl (by decide) (by decide) hk1 hFc hP1 hD1 rfl (by decide) rfl
  clear hP hD hPc hDc hFc hP1 hD1 hk1 hz1 ht hvm hG
  obtain ⟨hP, hD⟩ := hJ
  obtain rfl := Option.some.inj hF
  exact W.iret (v := r36.1) hx hb hr (fun t ht hW => ⟨⟨r36.1, (), rfl, rfl, QB.of ht hP hD⟩, hS.F ht⟩) hS.2.2 dX2_endOfQuarrel_39
theorem inw_X2_fewestAgainstMost_X2 : ∀ w ∈ u_ws RX2 TX2 9, w ∈ wsX2_fewestAgainstMost := fun _ h => List.mem_cons_of_mem _ (List.mem_append_left _ (List.mem_append_right _ h))
theorem inw_X2_fewestAgainstMost_X1 : ∀ w ∈ u_ws RX1 TX1 8, w ∈ wsX2_fewestAgainstMost := fun _ h => List.mem_cons_of_mem _ (List.mem_append_right _ h)
set_option maxHeartbeats 4000000 in
set_option maxRecDepth 100000 in
theorem c_X2_fewestAgainstMost (l : Launch) (dC : Nat → ClassId) (dI : Nat → Nat → Nat) (cI : ClassId) (sf : SFP) (sz : Nat) (N : Nat) (a : Nat → Nat) (tW : XS) (r : Int32) (hF : F_X2_fewestAgainstMost N tW = some r) : Met l yX2_fewestAgainstMost wsX2_fewestAgainstMost ({ frames := 1, cells := 0, slots := 0, locals := 40 }) (va_Pc [.ref (a 0)] (PB (dC, dI) cI (cwX cI a tW) sz sf)) (va_Qi (fun (z : Int32) (_ : Unit) => z = r) (fun _ t => QB (dC, dI) (cwX cI a tW) (va_A (cwX cI a tW) sz) t) (va_A (cwX cI a tW) sz)) 0 0 (va_A (cwX cI a tW) sz) := by
  refine Met.ofW (cc := cX2_fewestAgainstMost) (maxL := 3) (ret := (some .int)) (by decide) rfl ?_
  intro p e s m args below meth c s₁ B hml hv
  obtain ⟨rfl, hsz, hP, hK, hD0, hNN, hSF⟩ := hv
  have hx := B.exec
  have hb := B.bytes
  have hr := B.returns
  have hts := atoms_spec (ws := wsX2_fewestAgainstMost) B.pre
  have hown : s.vm.findClass RX2 = some m.cls := findClass_of_methodNamed B.named
  have hlocks := B.notSynchronized
  subst hsz
  have hD := hD0.self (sz := s.heap.size)
  generalize hAe : va_A (cwX cI a tW) s.heap.size = A at hD hSF ⊢
  have hA : ∀ q : Nat, s.heap.size ≤ q → A q := fun q h => by rw [← hAe]; exact Or.inr h
  clear hAe hD0
  have hS : va_S A s.heap s.heap [] := va_S.rf
  have hl := lv_entry ([.ref (a 0)]) (n := 3) (Nat.le_of_ble_eq_true rfl)
  rw [lg_entry_eq]
  generalize (lg_sl ([.ref (a 0)]) ++ List.replicate (3 - (lg_sl ([.ref (a 0)])).length) Slot.unset).toArray = ls at hl ⊢
  have hl : lv_has ls 3 [(0, .ref (a 0))] := hl
  rw [F_X2_fewestAgainstMost] at hF
  refine lv_iconst (v := nI 0) hx hb dX2_fewestAgainstMost_0 (by decide) ?_
  refine lv_istore_n (lv' := [(1, .int (nI 0)), (0, .ref (a 0))]) hx hb dX2_fewestAgainstMost_1 rfl hl (by decide) rfl (fun ls hl => ?_)
  refine lv_iconst (v := nI 0) hx hb dX2_fewestAgainstMost_2 (by decide) ?_
  refine vW_have (fun R av Q => ∀ (n4 : Nat) (x1 : Int32) (x2 : Int32) (H : Heap) (locs : List Loc) (ls : Array Slot), F_X2_fewestAgainstMost_4 N tW n4 x1 x2 = some r → va_P (dC, dI) vwCl (cwX cI a tW) H → va_D A (cwX cI a tW) → va_S A s.heap H locs → lv_has ls 3 [(0, .ref (a 0)), (1, .int x1), (2, .int x2)] → W p l e R s m av below meth c H locs 0 0 Q (F0 m 4 ls [])) ?_ (fun kJ4 => ?_)
  · intro n4
    induction n4 with
    | zero => intro x1 x2 H locs ls hF; exact nn hF
    | succ n4 ih4 =>
      intro x1 x2 H locs ls hF hP hD hS hl
      rw [F_X2_fewestAgainstMost_4] at hF
      refine lv_iload_n hx hb dX2_fewestAgainstMost_4 rfl (lv_at hl 2 rfl) ?_
      refine lv_bipush (v := nI 8) hx hb dX2_fewestAgainstMost_5 (by decide) ?_
      refine lv_icmp_ge (tgt := 44) hx hb dX2_fewestAgainstMost_7 (by decide) (fun hc => ?_) (fun hc => ?_)
      · have hF := ift hc hF
        refine lv_iload_n hx hb dX2_fewestAgainstMost_44 rfl (lv_at hl 1 rfl) ?_
        obtain rfl := Option.some.inj hF
        exact W.iret (v := x1) hx hb hr (fun t ht hW => ⟨⟨x1, (), rfl, rfl, QB.of ht hP hD⟩, hS.F ht⟩) hS.2.2 dX2_fewestAgainstMost_45
      · have hF := iff_ hc hF
        refine lv_iload_n hx hb dX2_fewestAgainstMost_10 rfl (lv_at hl 1 rfl) ?_
        refine lv_aload_n hx hb dX2_fewestAgainstMost_11 rfl (lv_at hl 0 rfl) ?_
        refine va_get (D := (dC, dI)) (ci := 2) (v := .ref (a 1)) (C := RX2) (T := TX2) (N := 9) hx hb hts inw_X2_fewestAgainstMost_X2 hown hK hP 0 rfl rfl 0 (by decide) (hts (.fieldLink RX2 10 "DeniedOfEachOther" "now" "LDeniedOfEachOther$Town;") (List.mem_of_getElem? (i := 1) rfl)) (fun _ h9 => h9) rfl dX2_fewestAgainstMost_12 ?_
        refine lv_iload_n hx hb dX2_fewestAgainstMost_15 rfl (lv_at hl 2 rfl) ?_
        have hPc := hP.sub (ws' := (cwT cI (a 1) (a 2) (a 3) (a 4) (a 5) (a 6) tW.1)) [1, 2, 3, 4, 5, 6] rfl
        have hDc := hD.sub (ws' := (cwT cI (a 1) (a 2) (a 3) (a 4) (a 5) (a 6) tW.1)) [1, 2, 3, 4, 5, 6] (by decide) rfl
        have hFc := va_free (wc := (cwT cI (a 1) (a 2) (a 3) (a 4) (a 5) (a 6) tW.1)) hD hS hA [1, 2, 3, 4, 5, 6] rfl
        refine bd hF (fun r16 hG hF => ?_)
        refine va_calli (va_runVN (As := [.int x2]) (rest := [.int x1]) ⟨hx, hb, hml, hown, hts⟩ (c_X1_livingYes l dC dI cI sf H.size N (a 1) (a 2) (a 3) (a 4) (a 5) (a 6) tW.1 x2 r16 hG) ⟨va_cnB 1 hts gX2_fewestAgainstMost_X1_livingYes_n157 rfl rfl rfl (hNN.at 26 rfl) (hts (.initialized RX1) (List.mem_of_getElem? (i := 7) rfl)) (by decide +kernel) ⟨Nat.le_of_ble_eq_true rfl, Nat.le_of_ble_eq_true rfl⟩, hts (.instanceMethod yX1_livingYes) (List.mem_of_getElem? (i := 6) rfl), hts (.selects RX1 yX1_livingYes yX1_livingYes) (List.mem_of_getElem? (i := 8) rfl)⟩ ⟨fun a U g mk q => ⟨q.1, q.2.call⟩, va_recv hK hP (ci := 1) (q0 := 1) rfl rfl, fun U hU hW => ⟨rfl, PB.of hU hW hPc hK hDc hNN hSF hS hFc⟩⟩ rfl rfl hl.1 rfl (lv_room (Nat.le_of_ble_eq_true rfl)) dX2_fewestAgainstMost_16 ⟨Nat.le_of_ble_eq_true rfl, Nat.le_of_ble_eq_true rfl⟩) hS (fun q _ h => hFc q h) hFc (fun z_ u_ t H locs ht hvm hw hB hz1 hk1 hS => ?_)
        subst z_
        obtain ⟨hP1, hD1⟩ := hB
        rw [ht] at hP1
        have hJ := vb_join (ws' := (cwX cI a tW)) hP hD [1, 2, 3, 4, 5, 6] [0, 7, 8, 9, 10, 11, 12, 13, 14, 15, 16, 17, 18, 19, 20, 21, 22, 23] [0, 18, 19, 20, 21, 22, 23, 1, 2, 3, 4, 5, 6, 7, 8, 9, 10, 11, 12, 13, 14, 15, 16, 17] rfl rfl (by decide) (by decide) hk1 hFc hP1 hD1 rfl (by decide) rfl
        clear hP hD hPc hDc hFc hP1 hD1 hk1 hz1 ht hvm hG
        obtain ⟨hP, hD⟩ := hJ
        have hPc := hP.sub (ws' := ([] : va_W)) [] rfl
        have hDc := hD.sub (ws' := ([] : va_W)) [] (by decide) rfl
        have hFc := va_free (wc := ([] : va_W)) hD hS hA [] rfl
        refine bd hF (fun r19 hG hF => ?_)
        refine va_calli (va_runS (As := [.int r16]) (rest := [.int x1]) ⟨hx, hb, hml, hown, hts⟩ (c_J6_bitCount_0f7a4 l dC dI cI sf H.size N  r16 r19 hG) (va_cwS 1 hts gX2_fewestAgainstMost_J6_bitCount_0f7a4 rfl rfl rfl (by decide +kernel) ⟨Nat.le_of_ble_eq_true rfl, Nat.le_of_ble_eq_true rfl⟩) ⟨fun a U g mk q => ⟨q.1, q.2.call⟩, fun U hU hW => ⟨rfl, PB.of hU hW hPc hK hDc hNN hSF hS hFc⟩⟩ rfl rfl hl.1 rfl (lv_room (Nat.le_of_ble_eq_true rfl)) dX2_fewestAgainstMost_19 ⟨Nat.le_of_ble_eq_true rfl, Nat.le_of_ble_eq_true rfl⟩) hS (fun q _ h => hFc q h) hFc (fun z_ u_ t H locs ht hvm hw hB hz1 hk1 hS => ?_)
        subst z_
        obtain ⟨hP1, hD1⟩ := hB
        rw [ht] at hP1
        have hJ := vb_join (ws' := (cwX cI a tW)) hP hD [] [0, 1, 2, 3, 4, 5, 6, 7, 8, 9, 10, 11, 12, 13, 14, 15, 16, 17, 18, 19, 20, 21, 22, 23] [0, 1, 2, 3, 4, 5, 6, 7, 8, 9, 10, 11, 12, 13, 14, 15, 16, 17, 18, 19, 20, 21, 22, 23] rfl rfl (by decide) (by decide) hk1 hFc hP1 hD1 rfl (by decide) rfl
        clear hP hD hPc hDc hFc hP1 hD1 hk1 hz1 ht hvm hG
        obtain ⟨hP, hD⟩ := hJ
        refine lv_aload_n hx hb dX2_fewestAgainstMost_22 rfl (lv_at hl 0 rfl) ?_
        refine va_get (D := (dC, dI)) (ci := 2) (v := .ref (a 1)) (C := RX2) (T := TX2) (N := 9) hx hb hts inw_X2_fewestAgainstMost_X2 hown hK hP 0 rfl rfl 0 (by decide) (hts (.fieldLink RX2 10 "DeniedOfEachOther" "now" "LDeniedOfEachOther$Town;") (List.mem_of_getElem? (i := 1) rfl)) (fun _ h9 => h9) rfl dX2_fewestAgainstMost_23 ?_
        refine lv_iload_n hx hb dX2_fewestAgainstMost_26 rfl (lv_at hl 2 rfl) ?_
        have hPc := hP.sub (ws' := (cwT cI (a 1) (a 2) (a 3) (a 4) (a 5) (a 6) tW.1)) [1, 2, 3, 4, 5, 6] rfl
        have hDc := hD.sub (ws' := (cwT cI (a 1) (a 2) (a 3) (a 4) (a 5) (a 6) tW.1)) [1, 2, 3, 4, 5, 6] (by decide) rfl
        have hFc := va_free (wc := (cwT cI (a 1) (a 2) (a 3) (a 4) (a 5) (a 6) tW.1)) hD hS hA [1, 2, 3, 4, 5, 6] rfl
        refine bd hF (fun r27 hG hF => ?_)
        refine va_calli (va_runVN (As := [.int x2]) (rest := [.int r19, .int x1]) ⟨hx, hb, hml, hown, hts⟩ (c_X1_livingNo l dC dI cI sf H.size N (a 1) (a 2) (a 3) (a 4) (a 5) (a 6) tW.1 x2 r27 hG) ⟨va_cnB 1 hts gX2_fewestAgainstMost_X1_livingNo_n160 rfl rfl rfl (hNN.at 27 rfl) (hts (.initialized RX1) (List.mem_of_getElem? (i := 7) rfl)) (by decide +kernel) ⟨Nat.le_of_ble_eq_true rfl, Nat.le_of_ble_eq_true rfl⟩, hts (.instanceMethod yX1_livingNo) (List.mem_of_getElem? (i := 19) rfl), hts (.selects RX1 yX1_livingNo yX1_livingNo) (List.mem_of_getElem? (i := 20) rfl)⟩ ⟨fun a U g mk q => ⟨q.1, q.2.call⟩, va_recv hK hP (ci := 1) (q0 := 1) rfl rfl, fun U hU hW => ⟨rfl, PB.of hU hW hPc hK hDc hNN hSF hS hFc⟩⟩ rfl rfl hl.1 rfl (lv_room (Nat.le_of_ble_eq_true rfl)) dX2_fewestAgainstMost_27 ⟨Nat.le_of_ble_eq_true rfl, Nat.le_of_ble_eq_true rfl⟩) hS (fun q _ h => hFc q h) hFc (fun z_ u_ t H locs ht hvm hw hB hz1 hk1 hS => ?_)
        subst z_
        obtain ⟨hP1, hD1⟩ := hB
        rw [ht] at hP1
        have hJ := vb_join (ws' := (cwX cI a tW)) hP hD [1, 2, 3, 4, 5, 6] [0, 7, 8, 9, 10, 11, 12, 13, 14, 15, 16, 17, 18, 19, 20, 21, 22, 23] [0, 18, 19, 20, 21, 22, 23, 1, 2, 3, 4, 5, 6, 7, 8, 9, 10, 11, 12, 13, 14, 15, 16, 17] rfl rfl (by decide) (by decide) hk1 hFc hP1 hD1 rfl (by decide) rfl
        clear hP hD hPc hDc hFc hP1 hD1 hk1 hz1 ht hvm hG
        obtain ⟨hP, hD⟩ := hJ
        have hPc := hP.sub (ws' := ([] : va_W)) [] rfl
        have hDc := hD.sub (ws' := ([] : va_W)) [] (by decide) rfl
        have hFc := va_free (wc := ([] : va_W)) hD hS hA [] rfl
        refine bd hF (fun r30 hG hF => ?_)
        refine va_calli (va_runS (As := [.int r27]) (rest := [.int r19, .int x1]) ⟨hx, hb, hml, hown, hts⟩ (c_J6_bitCount_0f7a4 l dC dI cI sf H.size N  r27 r30 hG) (va_cwS 1 hts gX2_fewestAgainstMost_J6_bitCount_0f7a4 rfl rfl rfl (by decide +kernel) ⟨Nat.le_of_ble_eq_true rfl, Nat.le_of_ble_eq_true rfl⟩) ⟨fun a U g mk q => ⟨q.1, q.2.call⟩, fun U hU hW => ⟨rfl, PB.of hU hW hPc hK hDc hNN hSF hS hFc⟩⟩ rfl rfl hl.1 rfl (lv_room (Nat.le_of_ble_eq_true rfl)) dX2_fewestAgainstMost_30 ⟨Nat.le_of_ble_eq_true rfl, Nat.le_of_ble_eq_true rfl⟩) hS (fun q _ h => hFc q h) hFc (fun z_ u_ t H locs ht hvm hw hB hz1 hk1 hS => ?_)
        subst z_
        obtain ⟨hP1, hD1⟩ := hB
        rw [ht] at hP1
        have hJ := vb_join (ws' := (cwX cI a tW)) hP hD [] [0, 1, 2, 3, 4, 5, 6, 7, 8, 9, 10, 11, 12, 13, 14, 15, 16, 17, 18, 19, 20, 21, 22, 23] [0, 1, 2, 3, 4, 5, 6, 7, 8, 9, 10, 11, 12, 13, 14, 15, 16, 17, 18, 19, 20, 21, 22, 23] rfl rfl (by decide) (by decide) hk1 hFc hP1 hD1 rfl (by decide) rfl
        clear hP hD hPc hDc hFc hP1 hD1 hk1 hz1 ht hvm hG
        obtain ⟨hP, hD⟩ := hJ
        refine va_mmin hx hb (hml.trans hl.1.symm) hown (hts (.methodLink RX2 217 Lib.Math.min.name) (List.mem_of_getElem? (i := 2) rfl)) (hts (.static Lib.Math.min.name) (List.mem_of_getElem? (i := 3) rfl)) (hts (.initialized "java/lang/Math") (List.mem_of_getElem? (i := 4) rfl)) (hts (.code Lib.Math.min.name Lib.Math.min.code 2 (some .int)) (List.mem_of_getElem? (i := 5) rfl)) (Nat.le_of_ble_eq_true rfl) (Nat.le_of_ble_eq_true rfl) (Nat.le_of_ble_eq_true rfl) (Nat.le_of_ble_eq_true rfl) dX2_fewestAgainstMost_33 ?_
        refine lv_iadd hx hb dX2_fewestAgainstMost_36 ?_
        refine lv_istore_n (lv' := [(1, .int (x1 + (if r30 < r19 then r30 else r19))), (0, .ref (a 0)), (2, .int x2)]) hx hb dX2_fewestAgainstMost_37 rfl hl (by decide) rfl (fun ls hl => ?_)
        refine lv_iinc (v := x2 + (nI 1)) (lv' := [(2, .int (x2 + (nI 1))), (1, .int (x1 + (if r30 < r19 then r30 else r19))), (0, .ref (a 0))]) hx hb dX2_fewestAgainstMost_38 hl (k := 2) rfl (by rfl) (by decide) rfl (fun ls hl => ?_)
        refine lv_goto (tgt := 4) hx hb dX2_fewestAgainstMost_41 (by decide) ?_
        exact ih4 (x1 + (if r30 < r19 then r30 else r19)) (x2 + (nI 1)) _ _ _ hF hP hD hS (lv_sub hl [2, 1, 0] rfl)
  refine lv_istore_n (lv' := [(2, .int (nI 0)), (1, .int (nI 0)), (0, .ref (a 0))]) hx hb dX2_fewestAgainstMost_3 rfl hl (by decide) rfl (fun ls hl => ?_)
  exact kJ4 N (nI 0) (nI 0) _ _ _ hF hP hD hS (lv_sub hl [2, 1, 0] rfl)
theorem inw_X2_friends_X2 : ∀ w ∈ u_ws RX2 TX2 9, w ∈ wsX2_friends := fun _ h => List.mem_cons_of_mem _ (List.mem_append_left _ (List.mem_append_right _ h))
theorem inw_X2_friends_X1 : ∀ w ∈ u_ws RX1 TX1 8, w ∈ wsX2_friends := fun _ h => List.mem_cons_of_mem _ (List.mem_append_right _ h)
set_option maxHeartbeats 4000000 in
set_option maxRecDepth 100000 in
theorem c_X2_friends (l : Launch) (dC : Nat → ClassId) (dI : Nat → Nat → Nat) (cI : ClassId) (sf : SFP) (sz : Nat) (N : Nat) (a : Nat → Nat) (tW : XS) (p1 : Int32) (r : (Int32 × XS)) (hF : F_X2_friends N tW p1 = some r) : Met l yX2_friends wsX2_friends ({ frames := 2, cells := 0, slots := 0, locals := 46 }) (va_Pc [.ref (a 0), .int p1] (PB (dC, dI) cI (cwX cI a tW) sz sf)) (va_Qi (fun (z : Int32) (_ : Unit) => z = r.1) (fun _ t => QB (dC, dI) (cwX cI a r.2) (va_A (cwX cI a tW) sz) t) (va_A (cwX cI a tW) sz)) 0 0 (va_A (cwX cI a tW) sz) := by
  refine Met.ofW (cc := cX2_friends) (maxL := 4) (ret := (some .int)) (by decide) rfl ?_
  intro p e s m args below meth c s₁ B hml hv
  obtain ⟨rfl, hsz, hP, hK, hD0, hNN, hSF⟩ := hv
  have hx := B.exec
  have hb := B.bytes
  have hr := B.returns
  have hts := atoms_spec (ws := wsX2_friends) B.pre
  have hown : s.vm.findClass RX2 = some m.cls := findClass_of_methodNamed B.named
  have hlocks := B.notSynchronized
  subst hsz
  have hD := hD0.self (sz := s.heap.size)
  generalize hAe : va_A (cwX cI a tW) s.heap.size = A at hD hSF ⊢
  have hA : ∀ q : Nat, s.heap.size ≤ q → A q := fun q h => by rw [← hAe]; exact Or.inr h
  clear hAe hD0
  have hS : va_S A s.heap s.heap [] := va_S.rf
  have hl := lv_entry ([.ref (a 0), .int p1]) (n := 4) (Nat.le_of_ble_eq_true rfl)
  rw [lg_entry_eq]
  generalize (lg_sl ([.ref (a 0), .int p1]) ++ List.replicate (4 - (lg_sl ([.ref (a 0), .int p1])).length) Slot.unset).toArray = ls at hl ⊢
  have hl : lv_has ls 4 [(0, .ref (a 0)), (1, .int p1)] := hl
  rw [F_X2_friends] at hF
  refine lv_aload_n hx hb dX2_friends_0 rfl (lv_at hl 0 rfl) ?_
  refine lv_iload_n hx hb dX2_friends_1 rfl (lv_at hl 1 rfl) ?_
  have hPc := hP.sub (ws' := (cwX cI a tW)) [0, 1, 2, 3, 4, 5, 6, 7, 8, 9, 10, 11, 12, 13, 14, 15, 16, 17, 18, 19, 20, 21, 22, 23] rfl
  have hDc := hD.sub (ws' := (cwX cI a tW)) [0, 1, 2, 3, 4, 5, 6, 7, 8, 9, 10, 11, 12, 13, 14, 15, 16, 17, 18, 19, 20, 21, 22, 23] (by decide) rfl
  have hFc := va_free (wc := (cwX cI a tW)) hD hS hA [0, 1, 2, 3, 4, 5, 6, 7, 8, 9, 10, 11, 12, 13, 14, 15, 16, 17, 18, 19, 20, 21, 22, 23] rfl
  refine bd hF (fun r2 hG hF => ?_)
  refine va_calli (va_runV (As := [.int p1]) (rest := []) ⟨hx, hb, hml, hown, hts⟩ (c_X2_noCitizen l dC dI cI sf s.heap.size N a tW p1 r2 hG) (cwV 1 hts gX2_friends_X2_noCitizen rfl rfl rfl (by decide +kernel) ⟨Nat.le_of_ble_eq_true rfl, Nat.le_of_ble_eq_true rfl⟩) ⟨fun a U g mk q => ⟨q.1, q.2.call⟩, va_recv hK hP (ci := 2) (q0 := 0) rfl rfl, fun U hU hW => ⟨rfl, PB.of hU hW hPc hK hDc hNN hSF hS hFc⟩⟩ rfl rfl hl.1 rfl (lv_room (Nat.le_of_ble_eq_true rfl)) dX2_friends_2 ⟨Nat.le_of_ble_eq_true rfl, Nat.le_of_ble_eq_true rfl⟩) hS (fun q _ h => hFc q h) hFc (fun z_ u_ t H locs ht hvm hw hB hz1 hk1 hS => ?_)
  subst z_
  obtain ⟨hP1, hD1⟩ := hB
  rw [ht] at hP1
  have hJ := vb_join (ws' := (cwX cI a tW)) hP hD [0, 1, 2, 3, 4, 5, 6, 7, 8, 9, 10, 11, 12, 13, 14, 15, 16, 17, 18, 19, 20, 21, 22, 23] [] [0, 1, 2, 3, 4, 5, 6, 7, 8, 9, 10, 11, 12, 13, 14, 15, 16, 17, 18, 19, 20, 21, 22, 23] rfl rfl (by decide) (by decide) hk1 hFc hP1 hD1 rfl (by decide) rfl
  clear hP hD hPc hDc hFc hP1 hD1 hk1 hz1 ht hvm hG
  obtain ⟨hP, hD⟩ := hJ
  refine lv_if_eq (tgt := 14) hx hb dX2_friends_5 (by decide) (fun hc => ?_) (fun hc => ?_)
  · have hF := ift hc hF
    refine lv_aload_n hx hb dX2_friends_14 rfl (lv_at hl 0 rfl) ?_
    refine va_get (D := (dC, dI)) (ci := 2) (v := .ref (a 1)) (C := RX2) (T := TX2) (N := 9) hx hb hts inw_X2_friends_X2 hown hK hP 0 rfl rfl 0 (by decide) (hts (.fieldLink RX2 10 "DeniedOfEachOther" "now" "LDeniedOfEachOther$Town;") (List.mem_of_getElem? (i := 1) rfl)) (fun _ h9 => h9) rfl dX2_friends_15 ?_
    refine lv_iload_n hx hb dX2_friends_18 rfl (lv_at hl 1 rfl) ?_
    have hPc := hP.sub (ws' := (cwT cI (a 1) (a 2) (a 3) (a 4) (a 5) (a 6) tW.1)) [1, 2, 3, 4, 5, 6] rfl
    have hDc := hD.sub (ws' := (cwT cI (a 1) (a 2) (a 3) (a 4) (a 5) (a 6) tW.1)) [1, 2, 3, 4, 5, 6] (by decide) rfl
    have hFc := va_free (wc := (cwT cI (a 1) (a 2) (a 3) (a 4) (a 5) (a 6) tW.1)) hD hS hA [1, 2, 3, 4, 5, 6] rfl
    refine bd hF (fun r19 hG hF => ?_)
    refine va_calli (va_runVN (As := [.int p1]) (rest := []) ⟨hx, hb, hml, hown, hts⟩ (c_X1_isLiving l dC dI cI sf H.size N (a 1) (a 2) (a 3) (a 4) (a 5) (a 6) tW.1 p1 r19 hG) ⟨va_cnB 1 hts gX2_friends_X1_isLiving_n85 rfl rfl rfl (hNN.at 10 rfl) (hts (.initialized RX1) (List.mem_of_getElem? (i := 13) rfl)) (by decide +kernel) ⟨Nat.le_of_ble_eq_true rfl, Nat.le_of_ble_eq_true rfl⟩, hts (.instanceMethod yX1_isLiving) (List.mem_of_getElem? (i := 12) rfl), hts (.selects RX1 yX1_isLiving yX1_isLiving) (List.mem_of_getElem? (i := 14) rfl)⟩ ⟨fun a U g mk q => ⟨q.1, q.2.call⟩, va_recv hK hP (ci := 1) (q0 := 1) rfl rfl, fun U hU hW => ⟨rfl, PB.of hU hW hPc hK hDc hNN hSF hS hFc⟩⟩ rfl rfl hl.1 rfl (lv_room (Nat.le_of_ble_eq_true rfl)) dX2_friends_19 ⟨Nat.le_of_ble_eq_true rfl, Nat.le_of_ble_eq_true rfl⟩) hS (fun q _ h => hFc q h) hFc (fun z_ u_ t H locs ht hvm hw hB hz1 hk1 hS => ?_)
    subst z_
    obtain ⟨hP1, hD1⟩ := hB
    rw [ht] at hP1
    have hJ := vb_join (ws' := (cwX cI a tW)) hP hD [1, 2, 3, 4, 5, 6] [0, 7, 8, 9, 10, 11, 12, 13, 14, 15, 16, 17, 18, 19, 20, 21, 22, 23] [0, 18, 19, 20, 21, 22, 23, 1, 2, 3, 4, 5, 6, 7, 8, 9, 10, 11, 12, 13, 14, 15, 16, 17] rfl rfl (by decide) (by decide) hk1 hFc hP1 hD1 rfl (by decide) rfl
    clear hP hD hPc hDc hFc hP1 hD1 hk1 hz1 ht hvm hG
    obtain ⟨hP, hD⟩ := hJ
    refine lv_if_ne (tgt := 32) hx hb dX2_friends_22 (by decide) (fun hc => ?_) (fun hc => ?_)
    · have hF := ift hc hF
      refine lv_iconst (v := nI 0) hx hb dX2_friends_32 (by decide) ?_
      refine lv_istore_n (lv' := [(2, .int (nI 0)), (0, .ref (a 0)), (1, .int p1)]) hx hb dX2_friends_33 rfl hl (by decide) rfl (fun ls hl => ?_)
      refine lv_iconst (v := nI 0) hx hb dX2_friends_34 (by decide) ?_
      refine vW_have (fun R av Q => ∀ (n36 : Nat) (tW : XS) (x1 : Int32) (x2 : Int32) (x3 : Int32) (H : Heap) (locs : List Loc) (ls : Array Slot), F_X2_friends_36 N n36 tW x1 x2 x3 = some r → va_P (dC, dI) vwCl (cwX cI a tW) H → va_D A (cwX cI a tW) → va_S A s.heap H locs → lv_has ls 4 [(0, .ref (a 0)), (1, .int x1), (2, .int x2), (3, .int x3)] → W p l e R s m av below meth c H locs 0 0 Q (F0 m 36 ls [])) ?_ (fun kJ36 => ?_)
      · intro n36
        induction n36 with
        | zero => intro tW x1 x2 x3 H locs ls hF; exact nn hF
        | succ n36 ih36 =>
          intro tW x1 x2 x3 H locs ls hF hP hD hS hl
          rw [F_X2_friends_36] at hF
          refine lv_iload_n hx hb dX2_friends_36 rfl (lv_at hl 3 rfl) ?_
          refine lv_aload_n hx hb dX2_friends_37 rfl (lv_at hl 0 rfl) ?_
          refine va_get (D := (dC, dI)) (ci := 2) (v := .ref (a 1)) (C := RX2) (T := TX2) (N := 9) hx hb hts inw_X2_friends_X2 hown hK hP 0 rfl rfl 0 (by decide) (hts (.fieldLink RX2 10 "DeniedOfEachOther" "now" "LDeniedOfEachOther$Town;") (List.mem_of_getElem? (i := 1) rfl)) (fun _ h9 => h9) rfl dX2_friends_38 ?_
          refine va_getN (D := (dC, dI)) (ci := 1) (v := .int tW.1.2.2.2.2.2.1) (C := RX1) (T := TX1) (N := 8) hx hb hts inw_X2_friends_X1 hown hK hP 1 rfl rfl 5 (by decide) (hNN.use 37 rfl) (fun _ h9 => h9) rfl dX2_friends_41 ?_
          refine lv_icmp_ge (tgt := 87) hx hb dX2_friends_44 (by decide) (fun hc => ?_) (fun hc => ?_)
          · have hF := ift hc hF
            refine lv_iload_n hx hb dX2_friends_87 rfl (lv_at hl 2 rfl) ?_
            obtain rfl := Option.some.inj hF
            exact W.iret (v := x2) hx hb hr (fun t ht hW => ⟨⟨x2, (), rfl, rfl, QB.of ht hP hD⟩, hS.F ht⟩) hS.2.2 dX2_friends_88
          · have hF := iff_ hc hF
            refine lv_iload_n hx hb dX2_friends_47 rfl (lv_at hl 3 rfl) ?_
            refine lv_iload_n hx hb dX2_friends_48 rfl (lv_at hl 1 rfl) ?_
            refine vW_have (fun R av Q => ∀ (tW : XS) (x1 : Int32) (x2 : Int32) (x3 : Int32) (H : Heap) (locs : List Loc) (ls : Array Slot), F_X2_friends_81 N (fun ctW cx1 cx2 cx3 => F_X2_friends_36 N n36 ctW cx1 cx2 cx3) tW x1 x2 x3 = some r → va_P (dC, dI) vwCl (cwX cI a tW) H → va_D A (cwX cI a tW) → va_S A s.heap H locs → lv_has ls 4 [(0, .ref (a 0)), (1, .int x1), (2, .int x2), (3, .int x3)] → W p l e R s m av below meth c H locs 0 0 Q (F0 m 81 ls [])) ?_ (fun kJ81 => ?_)
            · 
              intro tW x1 x2 x3 H locs ls hF hP hD hS hl
              rw [F_X2_friends_81] at hF
              refine lv_iinc (v := x3 + (nI 1)) (lv' := [(3, .int (x3 + (nI 1))), (0, .ref (a 0)), (1, .int x1), (2, .int x2)]) hx hb dX2_friends_81 hl (k := 3) rfl (by rfl) (by decide) rfl (fun ls hl => ?_)
              refine lv_goto (tgt := 36) hx hb dX2_friends_84 (by decide) ?_
              exact ih36 tW x1 x2 (x3 + (nI 1)) _ _ _ hF hP hD hS (lv_sub hl [1, 2, 3, 0] rfl)
            refine lv_icmp_eq (tgt := 81) hx hb dX2_friends_49 (by decide) (fun hc => ?_) (fun hc => ?_)
            · have hF := ift hc hF
              exact kJ81 tW x1 x2 x3 _ _ _ hF hP hD hS (lv_sub hl [0, 1, 2, 3] rfl)
            · have hF := iff_ hc hF
              refine lv_aload_n hx hb dX2_friends_52 rfl (lv_at hl 0 rfl) ?_
              refine va_get (D := (dC, dI)) (ci := 2) (v := .ref (a 1)) (C := RX2) (T := TX2) (N := 9) hx hb hts inw_X2_friends_X2 hown hK hP 0 rfl rfl 0 (by decide) (hts (.fieldLink RX2 10 "DeniedOfEachOther" "now" "LDeniedOfEachOther$Town;") (List.mem_of_getElem? (i := 1) rfl)) (fun _ h9 => h9) rfl dX2_friends_53 ?_
              refine lv_iload_n hx hb dX2_friends_56 rfl (lv_at hl 3 rfl) ?_
              have hPc := hP.sub (ws' := (cwT cI (a 1) (a 2) (a 3) (a 4) (a 5) (a 6) tW.1)) [1, 2, 3, 4, 5, 6] rfl
              have hDc := hD.sub (ws' := (cwT cI (a 1) (a 2) (a 3) (a 4) (a 5) (a 6) tW.1)) [1, 2, 3, 4, 5, 6] (by decide) rfl
              have hFc := va_free (wc := (cwT cI (a 1) (a 2) (a 3) (a 4) (a 5) (a 6) tW.1)) hD hS hA [1, 2, 3, 4, 5, 6] rfl
              refine bd hF (fun r57 hG hF => ?_)
              refine va_calli (va_runVN (As := [.int x3]) (rest := []) ⟨hx, hb, hml, hown, hts⟩ (c_X1_isLiving l dC dI cI sf H.size N (a 1) (a 2) (a 3) (a 4) (a 5) (a 6) tW.1 x3 r57 hG) ⟨va_cnB 1 hts gX2_friends_X1_isLiving_n85 rfl rfl rfl (hNN.at 10 rfl) (hts (.initialized RX1) (List.mem_of_getElem? (i := 13) rfl)) (by decide +kernel) ⟨Nat.le_of_ble_eq_true rfl, Nat.le_of_ble_eq_true rfl⟩, hts (.instanceMethod yX1_isLiving) (List.mem_of_getElem? (i := 12) rfl), hts (.selects RX1 yX1_isLiving yX1_isLiving) (List.mem_of_getElem? (i := 14) rfl)⟩ ⟨fun a U g mk q => ⟨q.1, q.2.call⟩, va_recv hK hP (ci := 1) (q0 := 1) rfl rfl, fun U hU hW => ⟨rfl, PB.of hU hW hPc hK hDc hNN hSF hS hFc⟩⟩ rfl rfl hl.1 rfl (lv_room (Nat.le_of_ble_eq_true rfl)) dX2_friends_57 ⟨Nat.le_of_ble_eq_true rfl, Nat.le_of_ble_eq_true rfl⟩) hS (fun q _ h => hFc q h) hFc (fun z_ u_ t H locs ht hvm hw hB hz1 hk1 hS => ?_)
              subst z_
              obtain ⟨hP1, hD1⟩ := hB
              rw [ht] at hP1
              have hJ := vb_join (ws' := (cwX cI a tW)) hP hD [1, 2, 3, 4, 5, 6] [0, 7, 8, 9, 10, 11, 12, 13, 14, 15, 16, 17, 18, 19, 20, 21, 22, 23] [0, 18, 19, 20, 21, 22, 23, 1, 2, 3, 4, 5, 6, 7, 8, 9, 10, 11, 12, 13, 14, 15, 16, 17] rfl rfl (by decide) (by decide) hk1 hFc hP1 hD1 rfl (by decide) rfl
              clear hP hD hPc hDc hFc hP1 hD1 hk1 hz1 ht hvm hG
              obtain ⟨hP, hD⟩ := hJ
              refine lv_if_eq (tgt := 81) hx hb dX2_friends_60 (by decide) (fun hc => ?_) (fun hc => ?_)
              · have hF := ift hc hF
                exact kJ81 tW x1 x2 x3 _ _ _ hF hP hD hS (lv_sub hl [0, 1, 2, 3] rfl)
              · have hF := iff_ hc hF
                refine lv_aload_n hx hb dX2_friends_63 rfl (lv_at hl 0 rfl) ?_
                refine va_get (D := (dC, dI)) (ci := 2) (v := .ref (a 1)) (C := RX2) (T := TX2) (N := 9) hx hb hts inw_X2_friends_X2 hown hK hP 0 rfl rfl 0 (by decide) (hts (.fieldLink RX2 10 "DeniedOfEachOther" "now" "LDeniedOfEachOther$Town;") (List.mem_of_getElem? (i := 1) rfl)) (fun _ h9 => h9) rfl dX2_friends_64 ?_
                refine lv_iload_n hx hb dX2_friends_67 rfl (lv_at hl 1 rfl) ?_
                refine lv_iload_n hx hb dX2_friends_68 rfl (lv_at hl 3 rfl) ?_
                have hPc := hP.sub (ws' := (cwT cI (a 1) (a 2) (a 3) (a 4) (a 5) (a 6) tW.1)) [1, 2, 3, 4, 5, 6] rfl
                have hDc := hD.sub (ws' := (cwT cI (a 1) (a 2) (a 3) (a 4) (a 5) (a 6) tW.1)) [1, 2, 3, 4, 5, 6] (by decide) rfl
                have hFc := va_free (wc := (cwT cI (a 1) (a 2) (a 3) (a 4) (a 5) (a 6) tW.1)) hD hS hA [1, 2, 3, 4, 5, 6] rfl
                refine bd hF (fun r69 hG hF => ?_)
                refine va_calli (va_runVN (As := [.int x1, .int x3]) (rest := []) ⟨hx, hb, hml, hown, hts⟩ (c_X1_denials l dC dI cI sf H.size N (a 1) (a 2) (a 3) (a 4) (a 5) (a 6) tW.1 x1 x3 r69 hG) ⟨va_cnB 2 hts gX2_friends_X1_denials_n178 rfl rfl rfl (hNN.at 29 rfl) (hts (.initialized RX1) (List.mem_of_getElem? (i := 13) rfl)) (by decide +kernel) ⟨Nat.le_of_ble_eq_true rfl, Nat.le_of_ble_eq_true rfl⟩, hts (.instanceMethod yX1_denials) (List.mem_of_getElem? (i := 18) rfl), hts (.selects RX1 yX1_denials yX1_denials) (List.mem_of_getElem? (i := 19) rfl)⟩ ⟨fun a U g mk q => ⟨q.1, q.2.call⟩, va_recv hK hP (ci := 1) (q0 := 1) rfl rfl, fun U hU hW => ⟨rfl, PB.of hU hW hPc hK hDc hNN hSF hS hFc⟩⟩ rfl rfl hl.1 rfl (lv_room (Nat.le_of_ble_eq_true rfl)) dX2_friends_69 ⟨Nat.le_of_ble_eq_true rfl, Nat.le_of_ble_eq_true rfl⟩) hS (fun q _ h => hFc q h) hFc (fun z_ u_ t H locs ht hvm hw hB hz1 hk1 hS => ?_)
                subst z_
                obtain ⟨hP1, hD1⟩ := hB
                rw [ht] at hP1
                have hJ := vb_join (ws' := (cwX cI a tW)) hP hD [1, 2, 3, 4, 5, 6] [0, 7, 8, 9, 10, 11, 12, 13, 14, 15, 16, 17, 18, 19, 20, 21, 22, 23] [0, 18, 19, 20, 21, 22, 23, 1, 2, 3, 4, 5, 6, 7, 8, 9, 10, 11, 12, 13, 14, 15, 16, 17] rfl rfl (by decide) (by decide) hk1 hFc hP1 hD1 rfl (by decide) rfl
                clear hP hD hPc hDc hFc hP1 hD1 hk1 hz1 ht hvm hG
                obtain ⟨hP, hD⟩ := hJ
                refine lv_if_ne (tgt := 81) hx hb dX2_friends_72 (by decide) (fun hc => ?_) (fun hc => ?_)
                · have hF := ift hc hF
                  exact kJ81 tW x1 x2 x3 _ _ _ hF hP hD hS (lv_sub hl [0, 1, 2, 3] rfl)
                · have hF := iff_ (fun h => h hc) hF
                  refine lv_iload_n hx hb dX2_friends_75 rfl (lv_at hl 2 rfl) ?_
                  refine lv_iconst (v := nI 1) hx hb dX2_friends_76 (by decide) ?_
                  refine lv_iload_n hx hb dX2_friends_77 rfl (lv_at hl 3 rfl) ?_
                  refine lv_ishl hx hb dX2_friends_78 ?_
                  refine lv_ior hx hb dX2_friends_79 ?_
                  refine lv_istore_n (lv' := [(2, .int (x2 ||| ((nI 1) <<< (x3 &&& 31)))), (0, .ref (a 0)), (1, .int x1), (3, .int x3)]) hx hb dX2_friends_80 rfl hl (by decide) rfl (fun ls hl => ?_)
                  exact kJ81 tW x1 (x2 ||| ((nI 1) <<< (x3 &&& 31))) x3 _ _ _ hF hP hD hS (lv_sub hl [1, 2, 0, 3] rfl)
      refine lv_istore_n (lv' := [(3, .int (nI 0)), (2, .int (nI 0)), (0, .ref (a 0)), (1, .int p1)]) hx hb dX2_friends_35 rfl hl (by decide) rfl (fun ls hl => ?_)
      exact kJ36 N tW p1 (nI 0) (nI 0) _ _ _ hF hP hD hS (lv_sub hl [2, 3, 1, 0] rfl)
    · have hF := iff_ (fun h => h hc) hF
      refine lv_aload_n hx hb dX2_friends_25 rfl (lv_at hl 0 rfl) ?_
      refine lv_bipush (v := (-3)) hx hb dX2_friends_26 (by decide) ?_
      have hPc := hP.sub (ws' := (cwX cI a tW)) [0, 1, 2, 3, 4, 5, 6, 7, 8, 9, 10, 11, 12, 13, 14, 15, 16, 17, 18, 19, 20, 21, 22, 23] rfl
      have hDc := hD.sub (ws' := (cwX cI a tW)) [0, 1, 2, 3, 4, 5, 6, 7, 8, 9, 10, 11, 12, 13, 14, 15, 16, 17, 18, 19, 20, 21, 22, 23] (by decide) rfl
      have hFc := va_free (wc := (cwX cI a tW)) hD hS hA [0, 1, 2, 3, 4, 5, 6, 7, 8, 9, 10, 11, 12, 13, 14, 15, 16, 17, 18, 19, 20, 21, 22, 23] rfl
      refine bd hF (fun r28 hG hF => ?_)
      refine va_calli (va_runV (As := [.int (-3)]) (rest := []) ⟨hx, hb, hml, hown, hts⟩ (c_X2_refuse l dC dI cI sf H.size N a tW (-3) r28 hG) (cwV 1 hts gX2_friends_X2_refuse rfl rfl rfl (by decide +kernel) ⟨Nat.le_of_ble_eq_true rfl, Nat.le_of_ble_eq_true rfl⟩) ⟨fun a U g mk q => ⟨q.1, q.2.call⟩, va_recv hK hP (ci := 2) (q0 := 0) rfl rfl, fun U hU hW => ⟨rfl, PB.of hU hW hPc hK hDc hNN hSF hS hFc⟩⟩ rfl rfl hl.1 rfl (lv_room (Nat.le_of_ble_eq_true rfl)) dX2_friends_28 ⟨Nat.le_of_ble_eq_true rfl, Nat.le_of_ble_eq_true rfl⟩) hS (fun q _ h => hFc q h) hFc (fun z_ u_ t H locs ht hvm hw hB hz1 hk1 hS => ?_)
      subst z_
      obtain ⟨hP1, hD1⟩ := hB
      rw [ht] at hP1
      have hJ := vb_join (ws' := (cwX cI a r28.2)) hP hD [0, 1, 2, 3, 4, 5, 6, 7, 8, 9, 10, 11, 12, 13, 14, 15, 16, 17, 18, 19, 20, 21, 22, 23] [] [0, 1, 2, 3, 4, 5, 6, 7, 8, 9, 10, 11, 12, 13, 14, 15, 16, 17, 18, 19, 20, 21, 22, 23] rfl rfl (by decide) (by decide) hk1 hFc hP1 hD1 rfl (by decide) rfl
      clear hP hD hPc hDc hFc hP1 hD1 hk1 hz1 ht hvm hG
      obtain ⟨hP, hD⟩ := hJ
      obtain rfl := Option.some.inj hF
      exact W.iret (v := r28.1) hx hb hr (fun t ht hW => ⟨⟨r28.1, (), rfl, rfl, QB.of ht hP hD⟩, hS.F ht⟩) hS.2.2 dX2_friends_31
  · have hF := iff_ hc hF
    refine lv_aload_n hx hb dX2_friends_8 rfl (lv_at hl 0 rfl) ?_
    refine lv_iconst (v := (-1)) hx hb dX2_friends_9 (by decide) ?_
    have hPc := hP.sub (ws' := (cwX cI a tW)) [0, 1, 2, 3, 4, 5, 6, 7, 8, 9, 10, 11, 12, 13, 14, 15, 16, 17, 18, 19, 20, 21, 22, 23] rfl
    have hDc := hD.sub (ws' := (cwX cI a tW)) [0, 1, 2, 3, 4, 5, 6, 7, 8, 9, 10, 11, 12, 13, 14, 15, 16, 17, 18, 19, 20, 21, 22, 23] (by decide) rfl
    have hFc := va_free (wc := (cwX cI a tW)) hD hS hA [0, 1, 2, 3, 4, 5, 6, 7, 8, 9, 10, 11, 12, 13, 14, 15, 16, 17, 18, 19, 20, 21, 22, 23] rfl
    refine bd hF (fun r10 hG hF => ?_)
    refine va_calli (va_runV (As := [.int (-1)]) (rest := []) ⟨hx, hb, hml, hown, hts⟩ (c_X2_refuse l dC dI cI sf H.size N a tW (-1) r10 hG) (cwV 1 hts gX2_friends_X2_refuse rfl rfl rfl (by decide +kernel) ⟨Nat.le_of_ble_eq_true rfl, Nat.le_of_ble_eq_true rfl⟩) ⟨fun a U g mk q => ⟨q.1, q.2.call⟩, va_recv hK hP (ci := 2) (q0 := 0) rfl rfl, fun U hU hW => ⟨rfl, PB.of hU hW hPc hK hDc hNN hSF hS hFc⟩⟩ rfl rfl hl.1 rfl (lv_room (Nat.le_of_ble_eq_true rfl)) dX2_friends_10 ⟨Nat.le_of_ble_eq_true rfl, Nat.le_of_ble_eq_true rfl⟩) hS (fun q _ h => hFc q h) hFc (fun z_ u_ t H locs ht hvm hw hB hz1 hk1 hS => ?_)
    subst z_
    obtain ⟨hP1, hD1⟩ := hB
    rw [ht] at hP1
    have hJ := vb_join (ws' := (cwX cI a r10.2)) hP hD [0, 1, 2, 3, 4, 5, 6, 7, 8, 9, 10, 11, 12, 13, 14, 15, 16, 17, 18, 19, 20, 21, 22, 23] [] [0, 1, 2, 3, 4, 5, 6, 7, 8, 9, 10, 11, 12, 13, 14, 15, 16, 17, 18, 19, 20, 21, 22, 23] rfl rfl (by decide) (by decide) hk1 hFc hP1 hD1 rfl (by decide) rfl
    clear hP hD hPc hDc hFc hP1 hD1 hk1 hz1 ht hvm hG
    obtain ⟨hP, hD⟩ := hJ
    obtain rfl := Option.some.inj hF
    exact W.iret (v := r10.1) hx hb hr (fun t ht hW => ⟨⟨r10.1, (), rfl, rfl, QB.of ht hP hD⟩, hS.F ht⟩) hS.2.2 dX2_friends_13
theorem inw_X2_gives_X2 : ∀ w ∈ u_ws RX2 TX2 9, w ∈ wsX2_gives := fun _ h => List.mem_cons_of_mem _ (List.mem_append_left _ (List.mem_append_right _ h))
theorem inw_X2_gives_X1 : ∀ w ∈ u_ws RX1 TX1 8, w ∈ wsX2_gives := fun _ h => List.mem_cons_of_mem _ (List.mem_append_right _ h)
set_option maxHeartbeats 4000000 in
set_option maxRecDepth 100000 in
theorem c_X2_gives (l : Launch) (dC : Nat → ClassId) (dI : Nat → Nat → Nat) (cI : ClassId) (sf : SFP) (sz : Nat) (N : Nat) (a : Nat → Nat) (tW : XS) (r : Int32) (hF : F_X2_gives N tW = some r) : Met l yX2_gives wsX2_gives ({ frames := 2, cells := 0, slots := 0, locals := 62 }) (va_Pc [.ref (a 0)] (PB (dC, dI) cI (cwX cI a tW) sz sf)) (va_Qi (fun (z : Int32) (_ : Unit) => z = r) (fun _ t => QB (dC, dI) (cwX cI a tW) (va_A (cwX cI a tW) sz) t) (va_A (cwX cI a tW) sz)) 0 0 (va_A (cwX cI a tW) sz) := by
  refine Met.ofW (cc := cX2_gives) (maxL := 1) (ret := (some .int)) (by decide) rfl ?_
  intro p e s m args below meth c s₁ B hml hv
  obtain ⟨rfl, hsz, hP, hK, hD0, hNN, hSF⟩ := hv
  have hx := B.exec
  have hb := B.bytes
  have hr := B.returns
  have hts := atoms_spec (ws := wsX2_gives) B.pre
  have hown : s.vm.findClass RX2 = some m.cls := findClass_of_methodNamed B.named
  have hlocks := B.notSynchronized
  subst hsz
  have hD := hD0.self (sz := s.heap.size)
  generalize hAe : va_A (cwX cI a tW) s.heap.size = A at hD hSF ⊢
  have hA : ∀ q : Nat, s.heap.size ≤ q → A q := fun q h => by rw [← hAe]; exact Or.inr h
  clear hAe hD0
  have hS : va_S A s.heap s.heap [] := va_S.rf
  have hl := lv_entry ([.ref (a 0)]) (n := 1) (Nat.le_of_ble_eq_true rfl)
  rw [lg_entry_eq]
  generalize (lg_sl ([.ref (a 0)]) ++ List.replicate (1 - (lg_sl ([.ref (a 0)])).length) Slot.unset).toArray = ls at hl ⊢
  have hl : lv_has ls 1 [(0, .ref (a 0))] := hl
  rw [F_X2_gives] at hF
  refine lv_aload_n hx hb dX2_gives_0 rfl (lv_at hl 0 rfl) ?_
  have hPc := hP.sub (ws' := (cwX cI a tW)) [0, 1, 2, 3, 4, 5, 6, 7, 8, 9, 10, 11, 12, 13, 14, 15, 16, 17, 18, 19, 20, 21, 22, 23] rfl
  have hDc := hD.sub (ws' := (cwX cI a tW)) [0, 1, 2, 3, 4, 5, 6, 7, 8, 9, 10, 11, 12, 13, 14, 15, 16, 17, 18, 19, 20, 21, 22, 23] (by decide) rfl
  have hFc := va_free (wc := (cwX cI a tW)) hD hS hA [0, 1, 2, 3, 4, 5, 6, 7, 8, 9, 10, 11, 12, 13, 14, 15, 16, 17, 18, 19, 20, 21, 22, 23] rfl
  refine bd hF (fun r1 hG hF => ?_)
  refine va_calli (va_runV (As := []) (rest := []) ⟨hx, hb, hml, hown, hts⟩ (c_X2_fewestAgainstMost l dC dI cI sf s.heap.size N a tW r1 hG) (cwV 0 hts gX2_gives_X2_fewestAgainstMost rfl rfl rfl (by decide +kernel) ⟨Nat.le_of_ble_eq_true rfl, Nat.le_of_ble_eq_true rfl⟩) ⟨fun a U g mk q => ⟨q.1, q.2.call⟩, va_recv hK hP (ci := 2) (q0 := 0) rfl rfl, fun U hU hW => ⟨rfl, PB.of hU hW hPc hK hDc hNN hSF hS hFc⟩⟩ rfl rfl hl.1 rfl (lv_room (Nat.le_of_ble_eq_true rfl)) dX2_gives_1 ⟨Nat.le_of_ble_eq_true rfl, Nat.le_of_ble_eq_true rfl⟩) hS (fun q _ h => hFc q h) hFc (fun z_ u_ t H locs ht hvm hw hB hz1 hk1 hS => ?_)
  subst z_
  obtain ⟨hP1, hD1⟩ := hB
  rw [ht] at hP1
  have hJ := vb_join (ws' := (cwX cI a tW)) hP hD [0, 1, 2, 3, 4, 5, 6, 7, 8, 9, 10, 11, 12, 13, 14, 15, 16, 17, 18, 19, 20, 21, 22, 23] [] [0, 1, 2, 3, 4, 5, 6, 7, 8, 9, 10, 11, 12, 13, 14, 15, 16, 17, 18, 19, 20, 21, 22, 23] rfl rfl (by decide) (by decide) hk1 hFc hP1 hD1 rfl (by decide) rfl
  clear hP hD hPc hDc hFc hP1 hD1 hk1 hz1 ht hvm hG
  obtain ⟨hP, hD⟩ := hJ
  obtain rfl := Option.some.inj hF
  exact W.iret (v := r1) hx hb hr (fun t ht hW => ⟨⟨r1, (), rfl, rfl, QB.of ht hP hD⟩, hS.F ht⟩) hS.2.2 dX2_gives_4
