theorem inw_X2_so_X2 : ∀ w ∈ u_ws RX2 TX2 9, w ∈ wsX2_so := fun _ h => List.mem_cons_of_mem _ (List.mem_append_left _ (List.mem_append_right _ h))
theorem inw_X2_so_X1 : ∀ w ∈ u_ws RX1 TX1 8, w ∈ wsX2_so := fun _ h => List.mem_cons_of_mem _ (List.mem_append_right _ h)
set_option maxHeartbeats 4000000 in
set_option maxRecDepth 100000 in
theorem c_X2_so (l : Launch) (dC : Nat → ClassId) (dI : Nat → Nat → Nat) (cI : ClassId) (sf : SFP) (sz : Nat) (N : Nat) (a : Nat → Nat) (tW : XS) (p1 : Int32) (r : (Int32 × XS)) (hF : F_X2_so N tW p1 = some r) : Met l yX2_so wsX2_so ({ frames := 2, cells := 0, slots := 0, locals := 62 }) (va_Pc [.ref (a 0), .int p1] (PB (dC, dI) cI (cwX cI a tW) sz sf)) (va_Qi (fun (z : Int32) (_ : Unit) => z = r.1) (fun _ t => QB (dC, dI) (cwX cI a r.2) (va_A (cwX cI a tW) sz) t) (va_A (cwX cI a tW) sz)) 0 0 (va_A (cwX cI a tW) sz) := by
  refine Met.ofW (cc := cX2_so) (maxL := 4) (ret := (some .int)) (by decide) rfl ?_
  intro p e s m args below meth c s₁ B hml hv
  obtain ⟨rfl, hsz, hP, hK, hD0, hNN, hSF⟩ := hv
  have hx := B.exec
  have hb := B.bytes
  have hr := B.returns
  have hts := atoms_spec (ws := wsX2_so) B.pre
  have hown : s.vm.findClass RX2 = some m.cls := findClass_of_methodNamed B.named
  have hlocks := B.notSynchronized
  subst hsz
  have hD := hD0.self (sz := s.heap.size)
  generalize hAe : va_A (cwX cI a tW) s.heap.size = A at hD hSF ⊢
  have hA : ∀ q : Nat, s.heap.size ≤ q → A q := fun q h => by rw [← hAe]; exact Or.inr h
  clear hAe hD0
  have hS : va_S A s.heap s.heap [] := va_S.rf
  have hl := lv_entry ([.ref (a 0), .int p1]) (n := 4) (Nat.le_of_ble_eq_true rfl)
  rw [lg_entry_eq]
  generalize (lg_sl ([.ref (a 0), .int p1]) ++ List.replicate (4 - (lg_sl ([.ref (a 0), .int p1])).length) Slot.unset).toArray = ls at hl ⊢
  have hl : lv_has ls 4 [(0, .ref (a 0)), (1, .int p1)] := hl
  rw [F_X2_so] at hF
  refine lv_iload_n hx hb dX2_so_0 rfl (lv_at hl 1 rfl) ?_
  refine lv_iconst (v := (-1)) hx hb dX2_so_1 (by decide) ?_
  refine lv_icmp_ne (tgt := 10) hx hb dX2_so_2 (by decide) (fun hc => ?_) (fun hc => ?_)
  · have hF := ift hc hF
    refine lv_iload_n hx hb dX2_so_10 rfl (lv_at hl 1 rfl) ?_
    have hPc := hP.sub (ws' := ([] : va_W)) [] rfl
    have hDc := hD.sub (ws' := ([] : va_W)) [] (by decide) rfl
    have hFc := va_free (wc := ([] : va_W)) hD hS hA [] rfl
    refine bd hF (fun r11 hG hF => ?_)
    refine va_calli (va_runS (As := [.int p1]) (rest := []) ⟨hx, hb, hml, hown, hts⟩ (c_X2_noTopic l dC dI cI sf s.heap.size N  p1 r11 hG) (va_cwS 1 hts gX2_so_X2_noTopic rfl rfl rfl (by decide +kernel) ⟨Nat.le_of_ble_eq_true rfl, Nat.le_of_ble_eq_true rfl⟩) ⟨fun a U g mk q => ⟨q.1, q.2.call⟩, fun U hU hW => ⟨rfl, PB.of hU hW hPc hK hDc hNN hSF hS hFc⟩⟩ rfl rfl hl.1 rfl (lv_room (Nat.le_of_ble_eq_true rfl)) dX2_so_11 ⟨Nat.le_of_ble_eq_true rfl, Nat.le_of_ble_eq_true rfl⟩) hS (fun q _ h => hFc q h) hFc (fun z_ u_ t H locs ht hvm hw hB hz1 hk1 hS => ?_)
    subst z_
    obtain ⟨hP1, hD1⟩ := hB
    rw [ht] at hP1
    have hJ := vb_join (ws' := (cwX cI a tW)) hP hD [] [0, 1, 2, 3, 4, 5, 6, 7, 8, 9, 10, 11, 12, 13, 14, 15, 16, 17, 18, 19, 20, 21, 22, 23] [0, 1, 2, 3, 4, 5, 6, 7, 8, 9, 10, 11, 12, 13, 14, 15, 16, 17, 18, 19, 20, 21, 22, 23] rfl rfl (by decide) (by decide) hk1 hFc hP1 hD1 rfl (by decide) rfl
    clear hP hD hPc hDc hFc hP1 hD1 hk1 hz1 ht hvm hG
    obtain ⟨hP, hD⟩ := hJ
    refine lv_if_eq (tgt := 23) hx hb dX2_so_14 (by decide) (fun hc => ?_) (fun hc => ?_)
    · have hF := ift hc hF
      refine lv_aload_n hx hb dX2_so_23 rfl (lv_at hl 0 rfl) ?_
      refine va_get (D := (dC, dI)) (ci := 2) (v := .ref (a 1)) (C := RX2) (T := TX2) (N := 9) hx hb hts inw_X2_so_X2 hown hK hP 0 rfl rfl 0 (by decide) (hts (.fieldLink RX2 10 "DeniedOfEachOther" "now" "LDeniedOfEachOther$Town;") (List.mem_of_getElem? (i := 1) rfl)) (fun _ h9 => h9) rfl dX2_so_24 ?_
      refine lv_iload_n hx hb dX2_so_27 rfl (lv_at hl 1 rfl) ?_
      have hPc := hP.sub (ws' := (cwT cI (a 1) (a 2) (a 3) (a 4) (a 5) (a 6) tW.1)) [1, 2, 3, 4, 5, 6] rfl
      have hDc := hD.sub (ws' := (cwT cI (a 1) (a 2) (a 3) (a 4) (a 5) (a 6) tW.1)) [1, 2, 3, 4, 5, 6] (by decide) rfl
      have hFc := va_free (wc := (cwT cI (a 1) (a 2) (a 3) (a 4) (a 5) (a 6) tW.1)) hD hS hA [1, 2, 3, 4, 5, 6] rfl
      refine bd hF (fun r28 hG hF => ?_)
      refine va_calli (va_runVN (As := [.int p1]) (rest := []) ⟨hx, hb, hml, hown, hts⟩ (c_X1_livingYes l dC dI cI sf H.size N (a 1) (a 2) (a 3) (a 4) (a 5) (a 6) tW.1 p1 r28 hG) ⟨va_cnB 1 hts gX2_so_X1_livingYes_n157 rfl rfl rfl (hNN.at 26 rfl) (hts (.initialized RX1) (List.mem_of_getElem? (i := 12) rfl)) (by decide +kernel) ⟨Nat.le_of_ble_eq_true rfl, Nat.le_of_ble_eq_true rfl⟩, hts (.instanceMethod yX1_livingYes) (List.mem_of_getElem? (i := 11) rfl), hts (.selects RX1 yX1_livingYes yX1_livingYes) (List.mem_of_getElem? (i := 13) rfl)⟩ ⟨fun a U g mk q => ⟨q.1, q.2.call⟩, va_recv hK hP (ci := 1) (q0 := 1) rfl rfl, fun U hU hW => ⟨rfl, PB.of hU hW hPc hK hDc hNN hSF hS hFc⟩⟩ rfl rfl hl.1 rfl (lv_room (Nat.le_of_ble_eq_true rfl)) dX2_so_28 ⟨Nat.le_of_ble_eq_true rfl, Nat.le_of_ble_eq_true rfl⟩) hS (fun q _ h => hFc q h) hFc (fun z_ u_ t H locs ht hvm hw hB hz1 hk1 hS => ?_)
      subst z_
      obtain ⟨hP1, hD1⟩ := hB
      rw [ht] at hP1
      have hJ := vb_join (ws' := (cwX cI a tW)) hP hD [1, 2, 3, 4, 5, 6] [0, 7, 8, 9, 10, 11, 12, 13, 14, 15, 16, 17, 18, 19, 20, 21, 22, 23] [0, 18, 19, 20, 21, 22, 23, 1, 2, 3, 4, 5, 6, 7, 8, 9, 10, 11, 12, 13, 14, 15, 16, 17] rfl rfl (by decide) (by decide) hk1 hFc hP1 hD1 rfl (by decide) rfl
      clear hP hD hPc hDc hFc hP1 hD1 hk1 hz1 ht hvm hG
      obtain ⟨hP, hD⟩ := hJ
      have hPc := hP.sub (ws' := ([] : va_W)) [] rfl
      have hDc := hD.sub (ws' := ([] : va_W)) [] (by decide) rfl
      have hFc := va_free (wc := ([] : va_W)) hD hS hA [] rfl
      refine bd hF (fun r31 hG hF => ?_)
      refine va_calli (va_runS (As := [.int r28]) (rest := []) ⟨hx, hb, hml, hown, hts⟩ (c_J6_bitCount_0f7a4 l dC dI cI sf H.size N  r28 r31 hG) (va_cwS 1 hts gX2_so_J6_bitCount_0f7a4 rfl rfl rfl (by decide +kernel) ⟨Nat.le_of_ble_eq_true rfl, Nat.le_of_ble_eq_true rfl⟩) ⟨fun a U g mk q => ⟨q.1, q.2.call⟩, fun U hU hW => ⟨rfl, PB.of hU hW hPc hK hDc hNN hSF hS hFc⟩⟩ rfl rfl hl.1 rfl (lv_room (Nat.le_of_ble_eq_true rfl)) dX2_so_31 ⟨Nat.le_of_ble_eq_true rfl, Nat.le_of_ble_eq_true rfl⟩) hS (fun q _ h => hFc q h) hFc (fun z_ u_ t H locs ht hvm hw hB hz1 hk1 hS => ?_)
      subst z_
      obtain ⟨hP1, hD1⟩ := hB
      rw [ht] at hP1
      have hJ := vb_join (ws' := (cwX cI a tW)) hP hD [] [0, 1, 2, 3, 4, 5, 6, 7, 8, 9, 10, 11, 12, 13, 14, 15, 16, 17, 18, 19, 20, 21, 22, 23] [0, 1, 2, 3, 4, 5, 6, 7, 8, 9, 10, 11, 12, 13, 14, 15, 16, 17, 18, 19, 20, 21, 22, 23] rfl rfl (by decide) (by decide) hk1 hFc hP1 hD1 rfl (by decide) rfl
      clear hP hD hPc hDc hFc hP1 hD1 hk1 hz1 ht hvm hG
      obtain ⟨hP, hD⟩ := hJ
      refine lv_istore_n (lv' := [(2, .int r31), (0, .ref (a 0)), (1, .int p1)]) hx hb dX2_so_34 rfl hl (by decide) rfl (fun ls hl => ?_)
      refine lv_aload_n hx hb dX2_so_35 rfl (lv_at hl 1 rfl) ?_
      refine va_get (D := (dC, dI)) (ci := 2) (v := .ref (a 1)) (C := RX2) (T := TX2) (N := 9) hx hb hts inw_X2_so_X2 hown hK hP 0 rfl rfl 0 (by decide) (hts (.fieldLink RX2 10 "DeniedOfEachOther" "now" "LDeniedOfEachOther$Town;") (List.mem_of_getElem? (i := 1) rfl)) (fun _ h9 => h9) rfl dX2_so_36 ?_
      refine lv_iload_n hx hb dX2_so_39 rfl (lv_at hl 2 rfl) ?_
      have hPc := hP.sub (ws' := (cwT cI (a 1) (a 2) (a 3) (a 4) (a 5) (a 6) tW.1)) [1, 2, 3, 4, 5, 6] rfl
      have hDc := hD.sub (ws' := (cwT cI (a 1) (a 2) (a 3) (a 4) (a 5) (a 6) tW.1)) [1, 2, 3, 4, 5, 6] (by decide) rfl
      have hFc := va_free (wc := (cwT cI (a 1) (a 2) (a 3) (a 4) (a 5) (a 6) tW.1)) hD hS hA [1, 2, 3, 4, 5, 6] rfl
      refine bd hF (fun r40 hG hF => ?_)
      refine va_calli (va_runVN (As := [.int p1]) (rest := []) ⟨hx, hb, hml, hown, hts⟩ (c_X1_livingNo l dC dI cI sf H.size N (a 1) (a 2) (a 3) (a 4) (a 5) (a 6) tW.1 p1 r40 hG) ⟨va_cnB 1 hts gX2_so_X1_livingNo_n160 rfl rfl rfl (hNN.at 27 rfl) (hts (.initialized RX1) (List.mem_of_getElem? (i := 12) rfl)) (by decide +kernel) ⟨Nat.le_of_ble_eq_true rfl, Nat.le_of_ble_eq_true rfl⟩, hts (.instanceMethod yX1_livingNo) (List.mem_of_getElem? (i := 24) rfl), hts (.selects RX1 yX1_livingNo yX1_livingNo) (List.mem_of_getElem? (i := 25) rfl)⟩ ⟨fun a U g mk q => ⟨q.1, q.2.call⟩, va_recv hK hP (ci := 1) (q0 := 1) rfl rfl, fun U hU hW => ⟨rfl, PB.of hU hW hPc hK hDc hNN hSF hS hFc⟩⟩ rfl rfl hl.1 rfl (lv_room (Nat.le_of_ble_eq_true rfl)) dX2_so_40 ⟨Nat.le_of_ble_eq_true rfl, Nat.le_of_ble_eq_true rfl⟩) hS (fun q _ h => hFc q h) hFc (fun z_ u_ t H locs ht hvm hw hB hz1 hk1 hS => ?_)
      subst z_
      obtain ⟨hP1, hD1⟩ := hB
      rw [ht] at hP1
      have hJ := vb_join (ws' := (cwX cI a tW)) hP hD [1, 2, 3, 4, 5, 6] [0, 7, 8, 9, 10, 11, 12, 13, 14, 15, 16, 17, 18, 19, 20, 21, 22, 23] [0, 18, 19, 20, 21, 22, 23, 1, 2, 3, 4, 5, 6, 7, 8, 9, 10, 11, 12, 13, 14, 15, 16, 17] rfl rfl (by decide) (by decide) hk1 hFc hP1 hD1 rfl (by decide) rfl
      clear hP hD hPc hDc hFc hP1 hD1 hk1 hz1 ht hvm hG
      obtain ⟨hP, hD⟩ := hJ
      have hPc := hP.sub (ws' := ([] : va_W)) [] rfl
      have hDc := hD.sub (ws' := ([] : va_W)) [] (by decide) rfl
      have hFc := va_free (wc := ([] : va_W)) hD hS hA [] rfl
      refine bd hF (fun r43 hG hF => ?_)
      refine va_calli (va_runS (As := [.int r40]) (rest := []) ⟨hx, hb, hml, hown, hts⟩ (c_J6_bitCount_0f7a4 l dC dI cI sf H.size N  r40 r43 hG) (va_cwS 1 hts gX2_so_J6_bitCount_0f7a4 rfl rfl rfl (by decide +kernel) ⟨Nat.le_of_ble_eq_true rfl, Nat.le_of_ble_eq_true rfl⟩) ⟨fun a U g mk q => ⟨q.1, q.2.call⟩, fun U hU hW => ⟨rfl, PB.of hU hW hPc hK hDc hNN hSF hS hFc⟩⟩ rfl rfl hl.1 rfl (lv_room (Nat.le_of_ble_eq_true rfl)) dX2_so_43 ⟨Nat.le_of_ble_eq_true rfl, Nat.le_of_ble_eq_true rfl⟩) hS (fun q _ h => hFc q h) hFc (fun z_ u_ t H locs ht hvm hw hB hz1 hk1 hS => ?_)
      subst z_
      obtain ⟨hP1, hD1⟩ := hB
      rw [ht] at hP1
      have hJ := vb_join (ws' := (cwX cI a tW)) hP hD [] [0, 1, 2, 3, 4, 5, 6, 7, 8, 9, 10, 11, 12, 13, 14, 15, 16, 17, 18, 19, 20, 21, 22, 23] [0, 1, 2, 3, 4, 5, 6, 7, 8, 9, 10, 11, 12, 13, 14, 15, 16, 17, 18, 19, 20, 21, 22, 23] rfl rfl (by decide) (by decide) hk1 hFc hP1 hD1 rfl (by decide) rfl
      clear hP hD hPc hDc hFc hP1 hD1 hk1 hz1 ht hvm hG
      obtain ⟨hP, hD⟩ := hJ
      refine lv_istore_n (lv' := [(3, .int r43), (2, .int r31), (0, .ref (a 0)), (1, .int p1)]) hx hb dX2_so_46 rfl hl (by decide) rfl (fun ls hl => ?_)
      refine lv_iload_n hx hb dX2_so_47 rfl (lv_at hl 1 rfl) ?_
      refine lv_iload_n hx hb dX2_so_48 rfl (lv_at hl 0 rfl) ?_
      refine lv_iadd hx hb dX2_so_49 ?_
      refine lv_if_ne (tgt := 55) hx hb dX2_so_50 (by decide) (fun hc => ?_) (fun hc => ?_)
      · have hF := ift hc hF
        refine lv_iload_n hx hb dX2_so_55 rfl (lv_at hl 1 rfl) ?_
        refine lv_iload_n hx hb dX2_so_56 rfl (lv_at hl 0 rfl) ?_
        refine lv_icmp_lt (tgt := 64) hx hb dX2_so_57 (by decide) (fun hc => ?_) (fun hc => ?_)
        · have hF := ift hc hF
          refine lv_iconst (v := nI 2) hx hb dX2_so_64 (by decide) ?_
          obtain rfl := Option.some.inj hF
          exact W.iret (v := (nI 2)) hx hb hr (fun t ht hW => ⟨⟨(nI 2), (), rfl, rfl, QB.of ht hP hD⟩, hS.F ht⟩) hS.2.2 dX2_so_65
        · have hF := iff_ hc hF
          refine lv_iconst (v := nI 1) hx hb dX2_so_60 (by decide) ?_
          refine lv_goto (tgt := 65) hx hb dX2_so_61 (by decide) ?_
          obtain rfl := Option.some.inj hF
          exact W.iret (v := (nI 1)) hx hb hr (fun t ht hW => ⟨⟨(nI 1), (), rfl, rfl, QB.of ht hP hD⟩, hS.F ht⟩) hS.2.2 dX2_so_65
      · have hF := iff_ (fun h => h hc) hF
        refine lv_iconst (v := nI 0) hx hb dX2_so_53 (by decide) ?_
        obtain rfl := Option.some.inj hF
        exact W.iret (v := (nI 0)) hx hb hr (fun t ht hW => ⟨⟨(nI 0), (), rfl, rfl, QB.of ht hP hD⟩, hS.F ht⟩) hS.2.2 dX2_so_54
    · have hF := iff_ hc hF
      refine lv_aload_n hx hb dX2_so_17 rfl (lv_at hl 0 rfl) ?_
      refine lv_iconst (v := (-1)) hx hb dX2_so_18 (by decide) ?_
      have hPc := hP.sub (ws' := (cwX cI a tW)) [0, 1, 2, 3, 4, 5, 6, 7, 8, 9, 10, 11, 12, 13, 14, 15, 16, 17, 18, 19, 20, 21, 22, 23] rfl
      have hDc := hD.sub (ws' := (cwX cI a tW)) [0, 1, 2, 3, 4, 5, 6, 7, 8, 9, 10, 11, 12, 13, 14, 15, 16, 17, 18, 19, 20, 21, 22, 23] (by decide) rfl
      have hFc := va_free (wc := (cwX cI a tW)) hD hS hA [0, 1, 2, 3, 4, 5, 6, 7, 8, 9, 10, 11, 12, 13, 14, 15, 16, 17, 18, 19, 20, 21, 22, 23] rfl
      refine bd hF (fun r19 hG hF => ?_)
      refine va_calli (va_runV (As := [.int (-1)]) (rest := []) ⟨hx, hb, hml, hown, hts⟩ (c_X2_refuse l dC dI cI sf H.size N a tW (-1) r19 hG) (cwV 1 hts gX2_so_X2_refuse rfl rfl rfl (by decide +kernel) ⟨Nat.le_of_ble_eq_true rfl, Nat.le_of_ble_eq_true rfl⟩) ⟨fun a U g mk q => ⟨q.1, q.2.call⟩, va_recv hK hP (ci := 2) (q0 := 0) rfl rfl, fun U hU hW => ⟨rfl, PB.of hU hW hPc hK hDc hNN hSF hS hFc⟩⟩ rfl rfl hl.1 rfl (lv_room (Nat.le_of_ble_eq_true rfl)) dX2_so_19 ⟨Nat.le_of_ble_eq_true rfl, Nat.le_of_ble_eq_true rfl⟩) hS (fun q _ h => hFc q h) hFc (fun z_ u_ t H locs ht hvm hw hB hz1 hk1 hS => ?_)
      subst z_
      obtain ⟨hP1, hD1⟩ := hB
      rw [ht] at hP1
      have hJ := vb_join (ws' := (cwX cI a r19.2)) hP hD [0, 1, 2, 3, 4, 5, 6, 7, 8, 9, 10, 11, 12, 13, 14, 15, 16, 17, 18, 19, 20, 21, 22, 23] [] [0, 1, 2, 3, 4, 5, 6, 7, 8, 9, 10, 11, 12, 13, 14, 15, 16, 17, 18, 19, 20, 21, 22, 23] rfl rfl (by decide) (by decide) hk1 hFc hP1 hD1 rfl (by decide) rfl
      clear hP hD hPc hDc hFc hP1 hD1 hk1 hz1 ht hvm hG
      obtain ⟨hP, hD⟩ := hJ
      obtain rfl := Option.some.inj hF
      exact W.iret (v := r19.1) hx hb hr (fun t ht hW => ⟨⟨r19.1, (), rfl, rfl, QB.of ht hP hD⟩, hS.F ht⟩) hS.2.2 dX2_so_22
  · have hF := iff_ (fun h => h hc) hF
    refine lv_aload_n hx hb dX2_so_5 rfl (lv_at hl 0 rfl) ?_
    have hPc := hP.sub (ws' := (cwX cI a tW)) [0, 1, 2, 3, 4, 5, 6, 7, 8, 9, 10, 11, 12, 13, 14, 15, 16, 17, 18, 19, 20, 21, 22, 23] rfl
    have hDc := hD.sub (ws' := (cwX cI a tW)) [0, 1, 2, 3, 4, 5, 6, 7, 8, 9, 10, 11, 12, 13, 14, 15, 16, 17, 18, 19, 20, 21, 22, 23] (by decide) rfl
    have hFc := va_free (wc := (cwX cI a tW)) hD hS hA [0, 1, 2, 3, 4, 5, 6, 7, 8, 9, 10, 11, 12, 13, 14, 15, 16, 17, 18, 19, 20, 21, 22, 23] rfl
    refine bd hF (fun r6 hG hF => ?_)
    refine va_calli (va_runV (As := []) (rest := []) ⟨hx, hb, hml, hown, hts⟩ (c_X2_fewestAgainstMost l dC dI cI sf s.heap.size N a tW r6 hG) (cwV 0 hts gX2_so_X2_fewestAgainstMost rfl rfl rfl (by decide +kernel) ⟨Nat.le_of_ble_eq_true rfl, Nat.le_of_ble_eq_true rfl⟩) ⟨fun a U g mk q => ⟨q.1, q.2.call⟩, va_recv hK hP (ci := 2) (q0 := 0) rfl rfl, fun U hU hW => ⟨rfl, PB.of hU hW hPc hK hDc hNN hSF hS hFc⟩⟩ rfl rfl hl.1 rfl (lv_room (Nat.le_of_ble_eq_true rfl)) dX2_so_6 ⟨Nat.le_of_ble_eq_true rfl, Nat.le_of_ble_eq_true rfl⟩) hS (fun q _ h => hFc q h) hFc (fun z_ u_ t H locs ht hvm hw hB hz1 hk1 hS => ?_)
    subst z_
    obtain ⟨hP1, hD1⟩ := hB
    rw [ht] at hP1
    have hJ := vb_join (ws' := (cwX cI a tW)) hP hD [0, 1, 2, 3, 4, 5, 6, 7, 8, 9, 10, 11, 12, 13, 14, 15, 16, 17, 18, 19, 20, 21, 22, 23] [] [0, 1, 2, 3, 4, 5, 6, 7, 8, 9, 10, 11, 12, 13, 14, 15, 16, 17, 18, 19, 20, 21, 22, 23] rfl rfl (by decide) (by decide) hk1 hFc hP1 hD1 rfl (by decide) rfl
    clear hP hD hPc hDc hFc hP1 hD1 hk1 hz1 ht hvm hG
    obtain ⟨hP, hD⟩ := hJ
    obtain rfl := Option.some.inj hF
    exact W.iret (v := r6) hx hb hr (fun t ht hW => ⟨⟨r6, (), rfl, rfl, QB.of ht hP hD⟩, hS.F ht⟩) hS.2.2 dX2_so_9
theorem inw_X2_still_X2 : ∀ w ∈ u_ws RX2 TX2 9, w ∈ wsX2_still := fun _ h => List.mem_cons_of_mem _ (List.mem_append_left _ (List.mem_append_right _ h))
theorem inw_X2_still_X1 : ∀ w ∈ u_ws RX1 TX1 8, w ∈ wsX2_still := fun _ h => List.mem_cons_of_mem _ (List.mem_append_right _ h)
set_option maxHeartbeats 4000000 in
set_option maxRecDepth 100000 in
theorem c_X2_still (l : Launch) (dC : Nat → ClassId) (dI : Nat → Nat → Nat) (cI : ClassId) (sf : SFP) (sz : Nat) (N : Nat) (a : Nat → Nat) (tW : XS) (p1 : Int32) (r : (Int32 × XS)) (hF : F_X2_still N tW p1 = some r) : Met l yX2_still wsX2_still ({ frames := 4, cells := 0, slots := 0, locals := 99 }) (va_Pc [.ref (a 0), .int p1] (PB (dC, dI) cI (cwX cI a tW) sz sf)) (va_Qi (fun (z : Int32) (_ : Unit) => z = r.1) (fun _ t => QB (dC, dI) (cwX cI a r.2) (va_A (cwX cI a tW) sz) t) (va_A (cwX cI a tW) sz)) 0 0 (va_A (cwX cI a tW) sz) := by
  refine Met.ofW (cc := cX2_still) (maxL := 4) (ret := (some .int)) (by decide) rfl ?_
  intro p e s m args below meth c s₁ B hml hv
  obtain ⟨rfl, hsz, hP, hK, hD0, hNN, hSF⟩ := hv
  have hx := B.exec
  have hb := B.bytes
  have hr := B.returns
  have hts := atoms_spec (ws := wsX2_still) B.pre
  have hown : s.vm.findClass RX2 = some m.cls := findClass_of_methodNamed B.named
  have hlocks := B.notSynchronized
  subst hsz
  have hD := hD0.self (sz := s.heap.size)
  generalize hAe : va_A (cwX cI a tW) s.heap.size = A at hD hSF ⊢
  have hA : ∀ q : Nat, s.heap.size ≤ q → A q := fun q h => by rw [← hAe]; exact Or.inr h
  clear hAe hD0
  have hS : va_S A s.heap s.heap [] := va_S.rf
  have hl := lv_entry ([.ref (a 0), .int p1]) (n := 4) (Nat.le_of_ble_eq_true rfl)
  rw [lg_entry_eq]
  generalize (lg_sl ([.ref (a 0), .int p1]) ++ List.replicate (4 - (lg_sl ([.ref (a 0), .int p1])).length) Slot.unset).toArray = ls at hl ⊢
  have hl : lv_has ls 4 [(0, .ref (a 0)), (1, .int p1)] := hl
  rw [F_X2_still] at hF
  refine lv_iload_n hx hb dX2_still_0 rfl (lv_at hl 1 rfl) ?_
  refine vW_have (fun R av Q => ∀ (tW : XS) (H : Heap) (locs : List Loc) (ls : Array Slot), F_X2_still_9 N tW = some r → va_P (dC, dI) vwCl (cwX cI a tW) H → va_D A (cwX cI a tW) → va_S A s.heap H locs → lv_has ls 4 [(0, .ref (a 0))] → W p l e R s m av below meth c H locs 0 0 Q (F0 m 9 ls [])) ?_ (fun kJ9 => ?_)
  · 
    intro tW H locs ls hF hP hD hS hl
    rw [F_X2_still_9] at hF
    refine lv_aload_n hx hb dX2_still_9 rfl (lv_at hl 0 rfl) ?_
    refine lv_bipush (v := (-2)) hx hb dX2_still_10 (by decide) ?_
    have hPc := hP.sub (ws' := (cwX cI a tW)) [0, 1, 2, 3, 4, 5, 6, 7, 8, 9, 10, 11, 12, 13, 14, 15, 16, 17, 18, 19, 20, 21, 22, 23] rfl
    have hDc := hD.sub (ws' := (cwX cI a tW)) [0, 1, 2, 3, 4, 5, 6, 7, 8, 9, 10, 11, 12, 13, 14, 15, 16, 17, 18, 19, 20, 21, 22, 23] (by decide) rfl
    have hFc := va_free (wc := (cwX cI a tW)) hD hS hA [0, 1, 2, 3, 4, 5, 6, 7, 8, 9, 10, 11, 12, 13, 14, 15, 16, 17, 18, 19, 20, 21, 22, 23] rfl
    refine bd hF (fun r12 hG hF => ?_)
    refine va_calli (va_runV (As := [.int (-2)]) (rest := []) ⟨hx, hb, hml, hown, hts⟩ (c_X2_refuse l dC dI cI sf H.size N a tW (-2) r12 hG) (cwV 1 hts gX2_still_X2_refuse rfl rfl rfl (by decide +kernel) ⟨Nat.le_of_ble_eq_true rfl, Nat.le_of_ble_eq_true rfl⟩) ⟨fun a U g mk q => ⟨q.1, q.2.call⟩, va_recv hK hP (ci := 2) (q0 := 0) rfl rfl, fun U hU hW => ⟨rfl, PB.of hU hW hPc hK hDc hNN hSF hS hFc⟩⟩ rfl rfl hl.1 rfl (lv_room (Nat.le_of_ble_eq_true rfl)) dX2_still_12 ⟨Nat.le_of_ble_eq_true rfl, Nat.le_of_ble_eq_true rfl⟩) hS (fun q _ h => hFc q h) hFc (fun z_ u_ t H locs ht hvm hw hB hz1 hk1 hS => ?_)
    subst z_
    obtain ⟨hP1, hD1⟩ := hB
    rw [ht] at hP1
    have hJ := vb_join (ws' := (cwX cI a r12.2)) hP hD [0, 1, 2, 3, 4, 5, 6, 7, 8, 9, 10, 11, 12, 13, 14, 15, 16, 17, 18, 19, 20, 21, 22, 23] [] [0, 1, 2, 3, 4, 5, 6, 7, 8, 9, 10, 11, 12, 13, 14, 15, 16, 17, 18, 19, 20, 21, 22, 23] rfl rfl (by decide) (by decide) hk1 hFc hP1 hD1 rfl (by decide) rfl
    clear hP hD hPc hDc hFc hP1 hD1 hk1 hz1 ht hvm hG
    obtain ⟨hP, hD⟩ := hJ
    obtain rfl := Option.some.inj hF
    exact W.iret (v := r12.1) hx hb hr (fun t ht hW => ⟨⟨r12.1, (), rfl, rfl, QB.of ht hP hD⟩, hS.F ht⟩) hS.2.2 dX2_still_15
  refine lv_if_lt (tgt := 9) hx hb dX2_still_1 (by decide) (fun hc => ?_) (fun hc => ?_)
  · have hF := ift hc hF
    exact kJ9 tW _ _ _ hF hP hD hS (lv_sub hl [0] rfl)
  · have hF := iff_ hc hF
    refine lv_iload_n hx hb dX2_still_4 rfl (lv_at hl 1 rfl) ?_
    refine lv_iconst (v := nI 1) hx hb dX2_still_5 (by decide) ?_
    refine lv_icmp_le (tgt := 16) hx hb dX2_still_6 (by decide) (fun hc => ?_) (fun hc => ?_)
    · have hF := ift hc hF
      refine lv_aload_n hx hb dX2_still_16 rfl (lv_at hl 0 rfl) ?_
      refine va_get (D := (dC, dI)) (ci := 2) (v := .ref (a 7)) (C := RX2) (T := TX2) (N := 9) hx hb hts inw_X2_still_X2 hown hK hP 0 rfl rfl 1 (by decide) (hts (.fieldLink RX2 16 "DeniedOfEachOther" "mind" "LDeniedOfEachOther$Town;") (List.mem_of_getElem? (i := 1) rfl)) (fun _ h9 => h9) rfl dX2_still_17 ?_
      refine lv_aload_n hx hb dX2_still_20 rfl (lv_at hl 0 rfl) ?_
      refine va_get (D := (dC, dI)) (ci := 2) (v := .ref (a 1)) (C := RX2) (T := TX2) (N := 9) hx hb hts inw_X2_still_X2 hown hK hP 0 rfl rfl 0 (by decide) (hts (.fieldLink RX2 10 "DeniedOfEachOther" "now" "LDeniedOfEachOther$Town;") (List.mem_of_getElem? (i := 2) rfl)) (fun _ h9 => h9) rfl dX2_still_21 ?_
      have hPc := hP.sub (ws' := (cwT cI (a 7) (a 8) (a 9) (a 10) (a 11) (a 12) tW.2.1 ++ cwT cI (a 1) (a 2) (a 3) (a 4) (a 5) (a 6) tW.1)) [7, 8, 9, 10, 11, 12, 1, 2, 3, 4, 5, 6] rfl
      have hDc := hD.sub (ws' := (cwT cI (a 7) (a 8) (a 9) (a 10) (a 11) (a 12) tW.2.1 ++ cwT cI (a 1) (a 2) (a 3) (a 4) (a 5) (a 6) tW.1)) [7, 8, 9, 10, 11, 12, 1, 2, 3, 4, 5, 6] (by decide) rfl
      have hFc := va_free (wc := (cwT cI (a 7) (a 8) (a 9) (a 10) (a 11) (a 12) tW.2.1 ++ cwT cI (a 1) (a 2) (a 3) (a 4) (a 5) (a 6) tW.1)) hD hS hA [7, 8, 9, 10, 11, 12, 1, 2, 3, 4, 5, 6] rfl
      refine bd hF (fun r24 hG hF => ?_)
      refine va_callv (va_runVN (As := [.ref (a 1)]) (rest := []) ⟨hx, hb, hml, hown, hts⟩ (c_X1_become l dC dI cI sf s.heap.size N (a 7) (a 8) (a 9) (a 10) (a 11) (a 12) (a 1) (a 2) (a 3) (a 4) (a 5) (a 6) tW.2.1 tW.1 r24 hG) ⟨va_cnB 1 hts gX2_still_X1_become_n61 rfl rfl rfl (hNN.at 2 rfl) (hts (.initialized RX1) (List.mem_of_getElem? (i := 10) rfl)) (by decide +kernel) ⟨Nat.le_of_ble_eq_true rfl, Nat.le_of_ble_eq_true rfl⟩, hts (.instanceMethod yX1_become) (List.mem_of_getElem? (i := 9) rfl), hts (.selects RX1 yX1_become yX1_become) (List.mem_of_getElem? (i := 11) rfl)⟩ ⟨fun a U g mk q => ⟨q.1, q.2.call⟩, va_recv hK hP (ci := 1) (q0 := 7) rfl rfl, fun U hU hW => ⟨rfl, PB.of hU hW hPc hK hDc hNN hSF hS hFc⟩⟩ rfl rfl hl.1 rfl (lv_room (Nat.le_of_ble_eq_true rfl)) dX2_still_24 ⟨Nat.le_of_ble_eq_true rfl, Nat.le_of_ble_eq_true rfl⟩) hS (fun q _ h => hFc q h) hFc (fun u_ t H locs ht hvm hw hB hz1 hk1 hS => ?_)
      obtain ⟨hP1, hD1⟩ := hB
      rw [ht] at hP1
      have hJ := vb_join (ws' := (cwX cI a (tW.1, r24, tW.2.2.1, tW.2.2.2.1, tW.2.2.2.2.1, tW.2.2.2.2.2.1, tW.2.2.2.2.2.2.1, tW.2.2.2.2.2.2.2.1, tW.2.2.2.2.2.2.2.2))) hP hD [7, 8, 9, 10, 11, 12, 1, 2, 3, 4, 5, 6] [0, 13, 14, 15, 16, 17, 18, 19, 20, 21, 22, 23] [0, 18, 19, 20, 21, 22, 23, 12, 13, 14, 15, 16, 17, 1, 2, 3, 4, 5, 6, 7, 8, 9, 10, 11] rfl rfl (by decide) (by decide) hk1 hFc hP1 hD1 rfl (by decide) rfl
      clear hP hD hPc hDc hFc hP1 hD1 hk1 hz1 ht hvm hG
      obtain ⟨hP, hD⟩ := hJ
      refine lv_iconst (v := nI 0) hx hb dX2_still_27 (by decide) ?_
      refine vW_have (fun R av Q => ∀ (n29 : Nat) (tW : XS) (x1 : Int32) (x2 : Int32) (H : Heap) (locs : List Loc) (ls : Array Slot), F_X2_still_29 N n29 tW x1 x2 = some r → va_P (dC, dI) vwCl (cwX cI a tW) H → va_D A (cwX cI a tW) → va_S A s.heap H locs → lv_has ls 4 [(0, .ref (a 0)), (1, .int x1), (2, .int x2)] → W p l e R s m av below meth c H locs 0 0 Q (F0 m 29 ls [])) ?_ (fun kJ29 => ?_)
      · intro n29
        induction n29 with
        | zero => intro tW x1 x2 H locs ls hF; exact nn hF
        | succ n29 ih29 =>
          intro tW x1 x2 H locs ls hF hP hD hS hl
          rw [F_X2_still_29] at hF
          refine lv_iload_n hx hb dX2_still_29 rfl (lv_at hl 2 rfl) ?_
          refine lv_bipush (v := nI 60) hx hb dX2_still_30 (by decide) ?_
          refine lv_icmp_gt (tgt := 79) hx hb dX2_still_32 (by decide) (fun hc => ?_) (fun hc => ?_)
          · have hF := ift hc hF
            refine lv_bipush (v := (-9)) hx hb dX2_still_79 (by decide) ?_
            obtain rfl := Option.some.inj hF
            exact W.iret (v := (-9)) hx hb hr (fun t ht hW => ⟨⟨(-9), (), rfl, rfl, QB.of ht hP hD⟩, hS.F ht⟩) hS.2.2 dX2_still_81
          · have hF := iff_ hc hF
            refine lv_iload_n hx hb dX2_still_35 rfl (lv_at hl 1 rfl) ?_
            refine lv_iconst (v := nI 1) hx hb dX2_still_36 (by decide) ?_
            refine vW_have (fun R av Q => ∀ (tW : XS) (x1 : Int32) (x2 : Int32) (H : Heap) (locs : List Loc) (ls : Array Slot), F_X2_still_52 N (fun ctW cx1 cx2 => F_X2_still_29 N n29 ctW cx1 cx2) tW x1 x2 = some r → va_P (dC, dI) vwCl (cwX cI a tW) H → va_D A (cwX cI a tW) → va_S A s.heap H locs → lv_has ls 4 [(0, .ref (a 0)), (1, .int x1), (2, .int x2)] → W p l e R s m av below meth c H locs 0 0 Q (F0 m 52 ls [])) ?_ (fun kJ52 => ?_)
            · 
              intro tW x1 x2 H locs ls hF hP hD hS hl
              rw [F_X2_still_52] at hF
              refine lv_aload_n hx hb dX2_still_52 rfl (lv_at hl 0 rfl) ?_
              refine va_get (D := (dC, dI)) (ci := 2) (v := .ref (a 7)) (C := RX2) (T := TX2) (N := 9) hx hb hts inw_X2_still_X2 hown hK hP 0 rfl rfl 1 (by decide) (hts (.fieldLink RX2 16 "DeniedOfEachOther" "mind" "LDeniedOfEachOther$Town;") (List.mem_of_getElem? (i := 1) rfl)) (fun _ h9 => h9) rfl dX2_still_53 ?_
              refine lv_iconst (v := nI 0) hx hb dX2_still_56 (by decide) ?_
              refine lv_bipush (v := nI 8) hx hb dX2_still_57 (by decide) ?_
              have hPc := hP.sub (ws' := (cwT cI (a 7) (a 8) (a 9) (a 10) (a 11) (a 12) tW.2.1)) [7, 8, 9, 10, 11, 12] rfl
              have hDc := hD.sub (ws' := (cwT cI (a 7) (a 8) (a 9) (a 10) (a 11) (a 12) tW.2.1)) [7, 8, 9, 10, 11, 12] (by decide) rfl
              have hFc := va_free (wc := (cwT cI (a 7) (a 8) (a 9) (a 10) (a 11) (a 12) tW.2.1)) hD hS hA [7, 8, 9, 10, 11, 12] rfl
              refine bd hF (fun r59 hG hF => ?_)
              refine va_calli (va_runVN (As := [.int (nI 0), .int (nI 8)]) (rest := []) ⟨hx, hb, hml, hown, hts⟩ (c_X1_passOne l dC dI cI sf H.size N (a 7) (a 8) (a 9) (a 10) (a 11) (a 12) tW.2.1 (nI 0) (nI 8) r59 hG) ⟨va_cnB 2 hts gX2_still_X1_passOne_n142 rfl rfl rfl (hNN.at 24 rfl) (hts (.initialized RX1) (List.mem_of_getElem? (i := 10) rfl)) (by decide +kernel) ⟨Nat.le_of_ble_eq_true rfl, Nat.le_of_ble_eq_true rfl⟩, hts (.instanceMethod yX1_passOne) (List.mem_of_getElem? (i := 40) rfl), hts (.selects RX1 yX1_passOne yX1_passOne) (List.mem_of_getElem? (i := 41) rfl)⟩ ⟨fun a U g mk q => ⟨q.1, q.2.call⟩, va_recv hK hP (ci := 1) (q0 := 7) rfl rfl, fun U hU hW => ⟨rfl, PB.of hU hW hPc hK hDc hNN hSF hS hFc⟩⟩ rfl rfl hl.1 rfl (lv_room (Nat.le_of_ble_eq_true rfl)) dX2_still_59 ⟨Nat.le_of_ble_eq_true rfl, Nat.le_of_ble_eq_true rfl⟩) hS (fun q _ h => hFc q h) hFc (fun z_ u_ t H locs ht hvm hw hB hz1 hk1 hS => ?_)
              subst z_
              obtain ⟨hP1, hD1⟩ := hB
              rw [ht] at hP1
              have hJ := vb_join (ws' := (cwX cI a (tW.1, r59.2, tW.2.2.1, tW.2.2.2.1, tW.2.2.2.2.1, tW.2.2.2.2.2.1, tW.2.2.2.2.2.2.1, tW.2.2.2.2.2.2.2.1, tW.2.2.2.2.2.2.2.2))) hP hD [7, 8, 9, 10, 11, 12] [0, 1, 2, 3, 4, 5, 6, 13, 14, 15, 16, 17, 18, 19, 20, 21, 22, 23] [0, 1, 2, 3, 4, 5, 6, 18, 19, 20, 21, 22, 23, 7, 8, 9, 10, 11, 12, 13, 14, 15, 16, 17] rfl rfl (by decide) (by decide) hk1 hFc hP1 hD1 rfl (by decide) rfl
              clear hP hD hPc hDc hFc hP1 hD1 hk1 hz1 ht hvm hG
              obtain ⟨hP, hD⟩ := hJ
              refine lv_istore_n (lv' := [(3, .int r59.1), (0, .ref (a 0)), (1, .int x1), (2, .int x2)]) hx hb dX2_still_62 rfl hl (by decide) rfl (fun ls hl => ?_)
              refine lv_iload_n hx hb dX2_still_63 rfl (lv_at hl 2 rfl) ?_
              refine vW_have (fun R av Q => ∀ (tW : XS) (x1 : Int32) (x2 : Int32) (H : Heap) (locs : List Loc) (ls : Array Slot), F_X2_still_73 N (fun ctW cx1 cx2 => F_X2_still_29 N n29 ctW cx1 cx2) tW x1 x2 = some r → va_P (dC, dI) vwCl (cwX cI a tW) H → va_D A (cwX cI a tW) → va_S A s.heap H locs → lv_has ls 4 [(0, .ref (a 0)), (1, .int x1), (2, .int x2)] → W p l e R s m av below meth c H locs 0 0 Q (F0 m 73 ls [])) ?_ (fun kJ73 => ?_)
              · 
                intro tW x1 x2 H locs ls hF hP hD hS hl
                rw [F_X2_still_73] at hF
                refine lv_iinc (v := x2 + (nI 1)) (lv' := [(2, .int (x2 + (nI 1))), (0, .ref (a 0)), (1, .int x1)]) hx hb dX2_still_73 hl (k := 2) rfl (by rfl) (by decide) rfl (fun ls hl => ?_)
                refine lv_goto (tgt := 29) hx hb dX2_still_76 (by decide) ?_
                exact ih29 tW x1 (x2 + (nI 1)) _ _ _ hF hP hD hS (lv_sub hl [1, 2, 0] rfl)
              refine lv_if_ne (tgt := 73) hx hb dX2_still_64 (by decide) (fun hc => ?_) (fun hc => ?_)
              · have hF := ift hc hF
                exact kJ73 (tW.1, r59.2, tW.2.2.1, tW.2.2.2.1, tW.2.2.2.2.1, tW.2.2.2.2.2.1, tW.2.2.2.2.2.2.1, tW.2.2.2.2.2.2.2.1, tW.2.2.2.2.2.2.2.2) x1 x2 _ _ _ hF hP hD hS (lv_sub hl [1, 2, 3] rfl)
              · have hF := iff_ (fun h => h hc) hF
                refine lv_iload_n hx hb dX2_still_67 rfl (lv_at hl 0 rfl) ?_
                refine lv_if_ne (tgt := 73) hx hb dX2_still_68 (by decide) (fun hc => ?_) (fun hc => ?_)
                · have hF := ift hc hF
                  exact kJ73 (tW.1, r59.2, tW.2.2.1, tW.2.2.2.1, tW.2.2.2.2.1, tW.2.2.2.2.2.1, tW.2.2.2.2.2.2.1, tW.2.2.2.2.2.2.2.1, tW.2.2.2.2.2.2.2.2) x1 x2 _ _ _ hF hP hD hS (lv_sub hl [1, 2, 3] rfl)
                · have hF := iff_ (fun h => h hc) hF
                  refine lv_iload_n hx hb dX2_still_71 rfl (lv_at hl 3 rfl) ?_
                  obtain rfl := Option.some.inj hF
                  exact W.iret (v := x2) hx hb hr (fun t ht hW => ⟨⟨x2, (), rfl, rfl, QB.of ht hP hD⟩, hS.F ht⟩) hS.2.2 dX2_still_72
            refine lv_icmp_ne (tgt := 52) hx hb dX2_still_37 (by decide) (fun hc => ?_) (fun hc => ?_)
            · have hF := ift hc hF
              exact kJ52 tW x1 x2 _ _ _ hF hP hD hS (lv_sub hl [0, 1, 2] rfl)
            · have hF := iff_ (fun h => h hc) hF
              refine lv_aload_n hx hb dX2_still_40 rfl (lv_at hl 0 rfl) ?_
              refine va_get (D := (dC, dI)) (ci := 2) (v := .ref (a 7)) (C := RX2) (T := TX2) (N := 9) hx hb hts inw_X2_still_X2 hown hK hP 0 rfl rfl 1 (by decide) (hts (.fieldLink RX2 16 "DeniedOfEachOther" "mind" "LDeniedOfEachOther$Town;") (List.mem_of_getElem? (i := 1) rfl)) (fun _ h9 => h9) rfl dX2_still_41 ?_
              have hPc := hP.sub (ws' := (cwT cI (a 7) (a 8) (a 9) (a 10) (a 11) (a 12) tW.2.1)) [7, 8, 9, 10, 11, 12] rfl
              have hDc := hD.sub (ws' := (cwT cI (a 7) (a 8) (a 9) (a 10) (a 11) (a 12) tW.2.1)) [7, 8, 9, 10, 11, 12] (by decide) rfl
              have hFc := va_free (wc := (cwT cI (a 7) (a 8) (a 9) (a 10) (a 11) (a 12) tW.2.1)) hD hS hA [7, 8, 9, 10, 11, 12] rfl
              refine bd hF (fun r44 hG hF => ?_)
              refine va_calli (va_runVN (As := []) (rest := []) ⟨hx, hb, hml, hown, hts⟩ (c_X1_book l dC dI cI sf H.size N (a 7) (a 8) (a 9) (a 10) (a 11) (a 12) tW.2.1 r44 hG) ⟨va_cnB 0 hts gX2_still_X1_book_n101 rfl rfl rfl (hNN.at 14 rfl) (hts (.initialized RX1) (List.mem_of_getElem? (i := 10) rfl)) (by decide +kernel) ⟨Nat.le_of_ble_eq_true rfl, Nat.le_of_ble_eq_true rfl⟩, hts (.instanceMethod yX1_book) (List.mem_of_getElem? (i := 25) rfl), hts (.selects RX1 yX1_book yX1_book) (List.mem_of_getElem? (i := 26) rfl)⟩ ⟨fun a U g mk q => ⟨q.1, q.2.call⟩, va_recv hK hP (ci := 1) (q0 := 7) rfl rfl, fun U hU hW => ⟨rfl, PB.of hU hW hPc hK hDc hNN hSF hS hFc⟩⟩ rfl rfl hl.1 rfl (lv_room (Nat.le_of_ble_eq_true rfl)) dX2_still_44 ⟨Nat.le_of_ble_eq_true rfl, Nat.le_of_ble_eq_true rfl⟩) hS (fun q _ h => hFc q h) hFc (fun z_ u_ t H locs ht hvm hw hB hz1 hk1 hS => ?_)
              subst z_
              obtain ⟨hP1, hD1⟩ := hB
              rw [ht] at hP1
              have hJ := vb_join (ws' := (cwX cI a tW)) hP hD [7, 8, 9, 10, 11, 12] [0, 1, 2, 3, 4, 5, 6, 13, 14, 15, 16, 17, 18, 19, 20, 21, 22, 23] [0, 1, 2, 3, 4, 5, 6, 18, 19, 20, 21, 22, 23, 7, 8, 9, 10, 11, 12, 13, 14, 15, 16, 17] rfl rfl (by decide) (by decide) hk1 hFc hP1 hD1 rfl (by decide) rfl
              clear hP hD hPc hDc hFc hP1 hD1 hk1 hz1 ht hvm hG
              obtain ⟨hP, hD⟩ := hJ
              refine lv_if_ne (tgt := 52) hx hb dX2_still_47 (by decide) (fun hc => ?_) (fun hc => ?_)
              · have hF := ift hc hF
                exact kJ52 tW x1 x2 _ _ _ hF hP hD hS (lv_sub hl [0, 1, 2] rfl)
              · have hF := iff_ (fun h => h hc) hF
                refine lv_iload_n hx hb dX2_still_50 rfl (lv_at hl 2 rfl) ?_
                obtain rfl := Option.some.inj hF
                exact W.iret (v := x2) hx hb hr (fun t ht hW => ⟨⟨x2, (), rfl, rfl, QB.of ht hP hD⟩, hS.F ht⟩) hS.2.2 dX2_still_51
      refine lv_istore_n (lv' := [(2, .int (nI 0)), (0, .ref (a 0)), (1, .int p1)]) hx hb dX2_still_28 rfl hl (by decide) rfl (fun ls hl => ?_)
      exact kJ29 N (tW.1, r24, tW.2.2.1, tW.2.2.2.1, tW.2.2.2.2.1, tW.2.2.2.2.2.1, tW.2.2.2.2.2.2.1, tW.2.2.2.2.2.2.2.1, tW.2.2.2.2.2.2.2.2) p1 (nI 0) _ _ _ hF hP hD hS (lv_sub hl [1, 2, 0] rfl)
    · have hF := iff_ hc hF
      exact kJ9 tW _ _ _ hF hP hD hS (lv_sub hl [0] rfl)
theorem inw_X2_town_X2 : ∀ w ∈ u_ws RX2 TX2 9, w ∈ wsX2_town := fun _ h => List.mem_cons_of_mem _ (List.mem_append_left _ (List.mem_append_left _ (List.mem_append_right _ h)))
theorem inw_X2_town_X0 : ∀ w ∈ u_ws RX0 TX0 2, w ∈ wsX2_town := fun _ h => List.mem_cons_of_mem _ (List.mem_append_left _ (List.mem_append_right _ h))
theorem inw_X2_town_X1 : ∀ w ∈ u_ws RX1 TX1 8, w ∈ wsX2_town := fun _ h => List.mem_cons_of_mem _ (List.mem_append_right _ h)
set_option maxHeartbeats 4000000 in
set_option maxRecDepth 100000 in
theorem c_X2_town (l : Launch) (dC : Nat → ClassId) (dI : Nat → Nat → Nat) (cI : ClassId) (sf : SFP) (sz : Nat) (N : Nat) (a : Nat → Nat) (tW : XS) (r : (Int32 × XS)) (hF : F_X2_town N tW = some r) : Met l yX2_town wsX2_town ({ frames := 7, cells := 0, slots := 0, locals := 151 }) (va_Pc [.ref (a 0)] (PB (dC, dI) cI (cwX cI a tW) sz sf)) (va_Qi (fun (z : Int32) (_ : Unit) => z = r.1) (fun _ t => QB (dC, dI) (cwX cI a r.2) (va_A (cwX cI a tW) sz) t) (va_A (cwX cI a tW) sz)) 0 0 (va_A (cwX cI a tW) sz) := by
  refine Met.ofW (cc := cX2_town) (maxL := 4) (ret := (some .int)) (by decide) rfl ?_
  intro p e s m args below meth c s₁ B hml hv
  obtain ⟨rfl, hsz, hP, hK, hD0, hNN, hSF⟩ := hv
  have hx := B.exec
  have hb := B.bytes
  have hr := B.returns
  have hts := atoms_spec (ws := wsX2_town) B.pre
  have hown : s.vm.findClass RX2 = some m.cls := findClass_of_methodNamed B.named
  have hlocks := B.notSynchronized
  subst hsz
  have hD := hD0.self (sz := s.heap.size)
  generalize hAe : va_A (cwX cI a tW) s.heap.size = A at hD hSF ⊢
  have hA : ∀ q : Nat, s.heap.size ≤ q → A q := fun q h => by rw [← hAe]; exact Or.inr h
  clear hAe hD0
  have hS : va_S A s.heap s.heap [] := va_S.rf
  have hl := lv_entry ([.ref (a 0)]) (n := 4) (Nat.le_of_ble_eq_true rfl)
  rw [lg_entry_eq]
  generalize (lg_sl ([.ref (a 0)]) ++ List.replicate (4 - (lg_sl ([.ref (a 0)])).length) Slot.unset).toArray = ls at hl ⊢
  have hl : lv_has ls 4 [(0, .ref (a 0))] := hl
  rw [F_X2_town] at hF
  refine lv_aload_n hx hb dX2_town_0 rfl (lv_at hl 0 rfl) ?_
  refine va_get (D := (dC, dI)) (ci := 2) (v := .ref (a 19)) (C := RX2) (T := TX2) (N := 9) hx hb hts inw_X2_town_X2 hown hK hP 0 rfl rfl 4 (by decide) (hts (.fieldLink RX2 29 "DeniedOfEachOther" "letters" "LDeniedOfEachOther$Letters;") (List.mem_of_getElem? (i := 1) rfl)) (fun _ h9 => h9) rfl dX2_town_1 ?_
  have hPc := hP.sub (ws' := (cwL cI (a 19) (a 20) tW.2.2.2.2.1)) [19, 20] rfl
  have hDc := hD.sub (ws' := (cwL cI (a 19) (a 20) tW.2.2.2.2.1)) [19, 20] (by decide) rfl
  have hFc := va_free (wc := (cwL cI (a 19) (a 20) tW.2.2.2.2.1)) hD hS hA [19, 20] rfl
  refine bd hF (fun r4 hG hF => ?_)
  refine va_calli (va_runVN (As := []) (rest := []) ⟨hx, hb, hml, hown, hts⟩ (c_X0_spelling l dC dI cI sf s.heap.size N (a 19) (a 20) tW.2.2.2.2.1 r4 hG) ⟨va_cnB 0 hts gX2_town_X0_spelling_n57 rfl rfl rfl (hNN.at 1 rfl) (hts (.initialized RX0) (List.mem_of_getElem? (i := 5) rfl)) (by decide +kernel) ⟨Nat.le_of_ble_eq_true rfl, Nat.le_of_ble_eq_true rfl⟩, hts (.instanceMethod yX0_spelling) (List.mem_of_getElem? (i := 4) rfl), hts (.selects RX0 yX0_spelling yX0_spelling) (List.mem_of_getElem? (i := 6) rfl)⟩ ⟨fun a U g mk q => ⟨q.1, q.2.call⟩, va_recv hK hP (ci := 0) (q0 := 19) rfl rfl, fun U hU hW => ⟨rfl, PB.of hU hW hPc hK hDc hNN hSF hS hFc⟩⟩ rfl rfl hl.1 rfl (lv_room (Nat.le_of_ble_eq_true rfl)) dX2_town_4 ⟨Nat.le_of_ble_eq_true rfl, Nat.le_of_ble_eq_true rfl⟩) hS (fun q _ h => hFc q h) hFc (fun z_ u_ t H locs ht hvm hw hB hz1 hk1 hS => ?_)
  subst z_
  obtain ⟨hP1, hD1⟩ := hB
  rw [ht] at hP1
  have hJ := vb_join (ws' := (cwX cI a tW)) hP hD [19, 20] [0, 1, 2, 3, 4, 5, 6, 7, 8, 9, 10, 11, 12, 13, 14, 15, 16, 17, 18, 21, 22, 23] [0, 1, 2, 3, 4, 5, 6, 7, 8, 9, 10, 11, 12, 13, 14, 15, 16, 17, 18, 22, 23, 19, 20, 21] rfl rfl (by decide) (by decide) hk1 hFc hP1 hD1 rfl (by decide) rfl
  clear hP hD hPc hDc hFc hP1 hD1 hk1 hz1 ht hvm hG
  obtain ⟨hP, hD⟩ := hJ
  refine lv_istore_n (lv' := [(1, .int r4), (0, .ref (a 0))]) hx hb dX2_town_7 rfl hl (by decide) rfl (fun ls hl => ?_)
  refine lv_iconst (v := nI 0) hx hb dX2_town_8 (by decide) ?_
  refine lv_istore_n (lv' := [(2, .int (nI 0)), (1, .int r4), (0, .ref (a 0))]) hx hb dX2_town_9 rfl hl (by decide) rfl (fun ls hl => ?_)
  refine lv_aload_n hx hb dX2_town_10 rfl (lv_at hl 2 rfl) ?_
  refine va_get (D := (dC, dI)) (ci := 2) (v := .ref (a 7)) (C := RX2) (T := TX2) (N := 9) hx hb hts inw_X2_town_X2 hown hK hP 0 rfl rfl 1 (by decide) (hts (.fieldLink RX2 16 "DeniedOfEachOther" "mind" "LDeniedOfEachOther$Town;") (List.mem_of_getElem? (i := 2) rfl)) (fun _ h9 => h9) rfl dX2_town_11 ?_
  refine lv_aload_n hx hb dX2_town_14 rfl (lv_at hl 2 rfl) ?_
  refine va_get (D := (dC, dI)) (ci := 2) (v := .ref (a 1)) (C := RX2) (T := TX2) (N := 9) hx hb hts inw_X2_town_X2 hown hK hP 0 rfl rfl 0 (by decide) (hts (.fieldLink RX2 10 "DeniedOfEachOther" "now" "LDeniedOfEachOther$Town;") (List.mem_of_getElem? (i := 3) rfl)) (fun _ h9 => h9) rfl dX2_town_15 ?_
  have hPc := hP.sub (ws' := (cwT cI (a 7) (a 8) (a 9) (a 10) (a 11) (a 12) tW.2.1 ++ cwT cI (a 1) (a 2) (a 3) (a 4) (a 5) (a 6) tW.1)) [7, 8, 9, 10, 11, 12, 1, 2, 3, 4, 5, 6] rfl
  have hDc := hD.sub (ws' := (cwT cI (a 7) (a 8) (a 9) (a 10) (a 11) (a 12) tW.2.1 ++ cwT cI (a 1) (a 2) (a 3) (a 4) (a 5) (a 6) tW.1)) [7, 8, 9, 10, 11, 12, 1, 2, 3, 4, 5, 6] (by decide) rfl
  have hFc := va_free (wc := (cwT cI (a 7) (a 8) (a 9) (a 10) (a 11) (a 12) tW.2.1 ++ cwT cI (a 1) (a 2) (a 3) (a 4) (a 5) (a 6) tW.1)) hD hS hA [7, 8, 9, 10, 11, 12, 1, 2, 3, 4, 5, 6] rfl
  refine bd hF (fun r18 hG hF => ?_)
  refine va_callv (va_runVN (As := [.ref (a 1)]) (rest := []) ⟨hx, hb, hml, hown, hts⟩ (c_X1_become l dC dI cI sf H.size N (a 7) (a 8) (a 9) (a 10) (a 11) (a 12) (a 1) (a 2) (a 3) (a 4) (a 5) (a 6) tW.2.1 tW.1 r18 hG) ⟨va_cnB 1 hts gX2_town_X1_become_n61 rfl rfl rfl (hNN.at 2 rfl) (hts (.initialized RX1) (List.mem_of_getElem? (i := 80) rfl)) (by decide +kernel) ⟨Nat.le_of_ble_eq_true rfl, Nat.le_of_ble_eq_true rfl⟩, hts (.instanceMethod yX1_become) (List.mem_of_getElem? (i := 79) rfl), hts (.selects RX1 yX1_become yX1_become) (List.mem_of_getElem? (i := 81) rfl)⟩ ⟨fun a U g mk q => ⟨q.1, q.2.call⟩, va_recv hK hP (ci := 1) (q0 := 7) rfl rfl, fun U hU hW => ⟨rfl, PB.of hU hW hPc hK hDc hNN hSF hS hFc⟩⟩ rfl rfl hl.1 rfl (lv_room (Nat.le_of_ble_eq_true rfl)) dX2_town_18 ⟨Nat.le_of_ble_eq_true rfl, Nat.le_of_ble_eq_true rfl⟩) hS (fun q _ h => hFc q h) hFc (fun u_ t H locs ht hvm hw hB hz1 hk1 hS => ?_)
  obtain ⟨hP1, hD1⟩ := hB
  rw [ht] at hP1
  have hJ := vb_join (ws' := (cwX cI a (tW.1, r18, tW.2.2.1, tW.2.2.2.1, tW.2.2.2.2.1, tW.2.2.2.2.2.1, tW.2.2.2.2.2.2.1, tW.2.2.2.2.2.2.2.1, tW.2.2.2.2.2.2.2.2))) hP hD [7, 8, 9, 10, 11, 12, 1, 2, 3, 4, 5, 6] [0, 13, 14, 15, 16, 17, 18, 19, 20, 21, 22, 23] [0, 18, 19, 20, 21, 22, 23, 12, 13, 14, 15, 16, 17, 1, 2, 3, 4, 5, 6, 7, 8, 9, 10, 11] rfl rfl (by decide) (by decide) hk1 hFc hP1 hD1 rfl (by decide) rfl
  clear hP hD hPc hDc hFc hP1 hD1 hk1 hz1 ht hvm hG
  obtain ⟨hP, hD⟩ := hJ
  refine lv_iconst (v := nI 0) hx hb dX2_town_21 (by decide) ?_
  refine vW_have (fun R av Q => ∀ (n23 : Nat) (tW : XS) (x1 : Int32) (x2 : Int32) (x3 : Int32) (H : Heap) (locs : List Loc) (ls : Array Slot), F_X2_town_23 N n23 tW x1 x2 x3 = some r → va_P (dC, dI) vwCl (cwX cI a tW) H → va_D A (cwX cI a tW) → va_S A s.heap H locs → lv_has ls 4 [(0, .ref (a 0)), (1, .int x1), (2, .int x2), (3, .int x3)] → W p l e R s m av below meth c H locs 0 0 Q (F0 m 23 ls [])) ?_ (fun kJ23 => ?_)
  · intro n23
    induction n23 with
    | zero => intro tW x1 x2 x3 H locs ls hF; exact nn hF
    | succ n23 ih23 =>
      intro tW x1 x2 x3 H locs ls hF hP hD hS hl
      rw [F_X2_town_23] at hF
      refine lv_iload_n hx hb dX2_town_23 rfl (lv_at hl 3 rfl) ?_
      refine lv_bipush (v := nI 96) hx hb dX2_town_24 (by decide) ?_
      refine vW_have (fun R av Q => ∀ (tW : XS) (x1 : Int32) (H : Heap) (locs : List Loc) (ls : Array Slot), F_X2_town_86 N tW x1 = some r → va_P (dC, dI) vwCl (cwX cI a tW) H → va_D A (cwX cI a tW) → va_S A s.heap H locs → lv_has ls 4 [(0, .ref (a 0)), (1, .int x1)] → W p l e R s m av below meth c H locs 0 0 Q (F0 m 86 ls [])) ?_ (fun kJ86 => ?_)
      · 
        intro tW x1 H locs ls hF hP hD hS hl
        rw [F_X2_town_86] at hF
        refine lv_aload_n hx hb dX2_town_86 rfl (lv_at hl 0 rfl) ?_
        refine va_get (D := (dC, dI)) (ci := 2) (v := .ref (a 19)) (C := RX2) (T := TX2) (N := 9) hx hb hts inw_X2_town_X2 hown hK hP 0 rfl rfl 4 (by decide) (hts (.fieldLink RX2 29 "DeniedOfEachOther" "letters" "LDeniedOfEachOther$Letters;") (List.mem_of_getElem? (i := 1) rfl)) (fun _ h9 => h9) rfl dX2_town_87 ?_
        refine lv_iconst (v := nI 0) hx hb dX2_town_90 (by decide) ?_
        refine va_putN (D := (dC, dI)) (ci := 0) (v := .int (nI 0)) (ty := .int) (C := RX0) (T := TX0) (N := 2) hx hb hts inw_X2_town_X0 tyX0 tyX0_ok nmX0 hown hK hP hD hS 19 rfl rfl 1 (by decide) (hNN.use 40 rfl) (fun _ h9 => h9) rfl (by decide +kernel) rfl rfl (Nat.le_of_ble_eq_true rfl) dX2_town_91 (fun H locs hP hD hS => ?_)
        have hP : va_P (dC, dI) vwCl (cwX cI a (tW.1, tW.2.1, tW.2.2.1, tW.2.2.2.1, (tW.2.2.2.2.1.1, (nI 0)), tW.2.2.2.2.2.1, tW.2.2.2.2.2.2.1, tW.2.2.2.2.2.2.2.1, tW.2.2.2.2.2.2.2.2)) H := hP
        have hD : va_D A (cwX cI a (tW.1, tW.2.1, tW.2.2.1, tW.2.2.2.1, (tW.2.2.2.2.1.1, (nI 0)), tW.2.2.2.2.2.1, tW.2.2.2.2.2.2.1, tW.2.2.2.2.2.2.2.1, tW.2.2.2.2.2.2.2.2)) := hD
        refine lv_iload_n hx hb dX2_town_94 rfl (lv_at hl 1 rfl) ?_
        refine lv_if_le (tgt := 109) hx hb dX2_town_95 (by decide) (fun hc => ?_) (fun hc => ?_)
        · have hF := ift hc hF
          refine lv_iload_n hx hb dX2_town_109 rfl (lv_at hl 1 rfl) ?_
          obtain rfl := Option.some.inj hF
          exact W.iret (v := x1) hx hb hr (fun t ht hW => ⟨⟨x1, (), rfl, rfl, QB.of ht hP hD⟩, hS.F ht⟩) hS.2.2 dX2_town_110
        · have hF := iff_ hc hF
          refine lv_aload_n hx hb dX2_town_98 rfl (lv_at hl 0 rfl) ?_
          refine va_get (D := (dC, dI)) (ci := 2) (v := .ref (a 1)) (C := RX2) (T := TX2) (N := 9) hx hb hts inw_X2_town_X2 hown hK hP 0 rfl rfl 0 (by decide) (hts (.fieldLink RX2 10 "DeniedOfEachOther" "now" "LDeniedOfEachOther$Town;") (List.mem_of_getElem? (i := 3) rfl)) (fun _ h9 => h9) rfl dX2_town_99 ?_
          refine lv_aload_n hx hb dX2_town_102 rfl (lv_at hl 0 rfl) ?_
          refine va_get (D := (dC, dI)) (ci := 2) (v := .ref (a 7)) (C := RX2) (T := TX2) (N := 9) hx hb hts inw_X2_town_X2 hown hK hP 0 rfl rfl 1 (by decide) (hts (.fieldLink RX2 16 "DeniedOfEachOther" "mind" "LDeniedOfEachOther$Town;") (List.mem_of_getElem? (i := 2) rfl)) (fun _ h9 => h9) rfl dX2_town_103 ?_
          have hPc := hP.sub (ws' := (cwT cI (a 1) (a 2) (a 3) (a 4) (a 5) (a 6) tW.1 ++ cwT cI (a 7) (a 8) (a 9) (a 10) (a 11) (a 12) tW.2.1)) [1, 2, 3, 4, 5, 6, 7, 8, 9, 10, 11, 12] rfl
          have hDc := hD.sub (ws' := (cwT cI (a 1) (a 2) (a 3) (a 4) (a 5) (a 6) tW.1 ++ cwT cI (a 7) (a 8) (a 9) (a 10) (a 11) (a 12) tW.2.1)) [1, 2, 3, 4, 5, 6, 7, 8, 9, 10, 11, 12] (by decide) rfl
          have hFc := va_free (wc := (cwT cI (a 1) (a 2) (a 3) (a 4) (a 5) (a 6) tW.1 ++ cwT cI (a 7) (a 8) (a 9) (a 10) (a 11) (a 12) tW.2.1)) hD hS hA [1, 2, 3, 4, 5, 6, 7, 8, 9, 10, 11, 12] rfl
          refine bd hF (fun r106 hG hF => ?_)
          refine va_callv (va_runVN (As := [.ref (a 7)]) (rest := []) ⟨hx, hb, hml, hown, hts⟩ (c_X1_become l dC dI cI sf H.size N (a 1) (a 2) (a 3) (a 4) (a 5) (a 6) (a 7) (a 8) (a 9) (a 10) (a 11) (a 12) tW.1 tW.2.1 r106 hG) ⟨va_cnB 1 hts gX2_town_X1_become_n61 rfl rfl rfl (hNN.at 2 rfl) (hts (.initialized RX1) (List.mem_of_getElem? (i := 80) rfl)) (by decide +kernel) ⟨Nat.le_of_ble_eq_true rfl, Nat.le_of_ble_eq_true rfl⟩, hts (.instanceMethod yX1_become) (List.mem_of_getElem? (i := 79) rfl), hts (.selects RX1 yX1_become yX1_become) (List.mem_of_getElem? (i := 81) rfl)⟩ ⟨fun a U g mk q => ⟨q.1, q.2.call⟩, va_recv hK hP (ci := 1) (q0 := 1) rfl rfl, fun U hU hW => ⟨rfl, PB.of hU hW hPc hK hDc hNN hSF hS hFc⟩⟩ rfl rfl hl.1 rfl (lv_room (Nat.le_of_ble_eq_true rfl)) dX2_town_106 ⟨Nat.le_of_ble_eq_true rfl, Nat.le_of_ble_eq_true rfl⟩) hS (fun q _ h => hFc q h) hFc (fun u_ t H locs ht hvm hw hB hz1 hk1 hS => ?_)
          obtain ⟨hP1, hD1⟩ := hB
          rw [ht] at hP1
          have hJ := vb_join (ws' := (cwX cI a (r106, tW.2.1, tW.2.2.1, tW.2.2.2.1, (tW.2.2.2.2.1.1, (nI 0)), tW.2.2.2.2.2.1, tW.2.2.2.2.2.2.1, tW.2.2.2.2.2.2.2.1, tW.2.2.2.2.2.2.2.2))) hP hD [1, 2, 3, 4, 5, 6, 7, 8, 9, 10, 11, 12] [0, 13, 14, 15, 16, 17, 18, 19, 20, 21, 22, 23] [0, 12, 13, 14, 15, 16, 17, 18, 19, 20, 21, 22, 23, 1, 2, 3, 4, 5, 6, 7, 8, 9, 10, 11] rfl rfl (by decide) (by decide) hk1 hFc hP1 hD1 rfl (by decide) rfl
          clear hP hD hPc hDc hFc hP1 hD1 hk1 hz1 ht hvm hG
          obtain ⟨hP, hD⟩ := hJ
          refine lv_iload_n hx hb dX2_town_109 rfl (lv_at hl 1 rfl) ?_
          obtain rfl := Option.some.inj hF
          exact W.iret (v := x1) hx hb hr (fun t ht hW => ⟨⟨x1, (), rfl, rfl, QB.of ht hP hD⟩, hS.F ht⟩) hS.2.2 dX2_town_110
      refine lv_icmp_ge (tgt := 86) hx hb dX2_town_26 (by decide) (fun hc => ?_) (fun hc => ?_)
      · have hF := ift hc hF
        exact kJ86 tW x1 _ _ _ hF hP hD hS (lv_sub hl [0, 1] rfl)
      · have hF := iff_ hc hF
        refine lv_iload_n hx hb dX2_town_29 rfl (lv_at hl 1 rfl) ?_
        refine lv_if_lt (tgt := 86) hx hb dX2_town_30 (by decide) (fun hc => ?_) (fun hc => ?_)
        · have hF := ift hc hF
          exact kJ86 tW x1 _ _ _ hF hP hD hS (lv_sub hl [0, 1] rfl)
        · have hF := iff_ hc hF
          refine lv_iload_n hx hb dX2_town_33 rfl (lv_at hl 2 rfl) ?_
          refine lv_aload_n hx hb dX2_town_34 rfl (lv_at hl 0 rfl) ?_
          refine va_get (D := (dC, dI)) (ci := 2) (v := .ref (a 19)) (C := RX2) (T := TX2) (N := 9) hx hb hts inw_X2_town_X2 hown hK hP 0 rfl rfl 4 (by decide) (hts (.fieldLink RX2 29 "DeniedOfEachOther" "letters" "LDeniedOfEachOther$Letters;") (List.mem_of_getElem? (i := 1) rfl)) (fun _ h9 => h9) rfl dX2_town_35 ?_
          refine va_getN (D := (dC, dI)) (ci := 0) (v := .int tW.2.2.2.2.1.2) (C := RX0) (T := TX0) (N := 2) hx hb hts inw_X2_town_X0 hown hK hP 19 rfl rfl 1 (by decide) (hNN.use 40 rfl) (fun _ h9 => h9) rfl dX2_town_38 ?_
          refine lv_icmp_ge (tgt := 86) hx hb dX2_town_41 (by decide) (fun hc => ?_) (fun hc => ?_)
          · have hF := ift hc hF
            exact kJ86 tW x1 _ _ _ hF hP hD hS (lv_sub hl [0, 1] rfl)
          · have hF := iff_ hc hF
            refine lv_aload_n hx hb dX2_town_44 rfl (lv_at hl 0 rfl) ?_
            refine va_get (D := (dC, dI)) (ci := 2) (v := .ref (a 19)) (C := RX2) (T := TX2) (N := 9) hx hb hts inw_X2_town_X2 hown hK hP 0 rfl rfl 4 (by decide) (hts (.fieldLink RX2 29 "DeniedOfEachOther" "letters" "LDeniedOfEachOther$Letters;") (List.mem_of_getElem? (i := 1) rfl)) (fun _ h9 => h9) rfl dX2_town_45 ?_
            refine lv_iload_n hx hb dX2_town_48 rfl (lv_at hl 2 rfl) ?_
            refine lv_aload_n hx hb dX2_town_49 rfl (lv_at hl 0 rfl) ?_
            refine va_get (D := (dC, dI)) (ci := 2) (v := .ref (a 7)) (C := RX2) (T := TX2) (N := 9) hx hb hts inw_X2_town_X2 hown hK hP 0 rfl rfl 1 (by decide) (hts (.fieldLink RX2 16 "DeniedOfEachOther" "mind" "LDeniedOfEachOther$Town;") (List.mem_of_getElem? (i := 2) rfl)) (fun _ h9 => h9) rfl dX2_town_50 ?_
            have hPc := hP.sub (ws' := (cwL cI (a 19) (a 20) tW.2.2.2.2.1 ++ cwT cI (a 7) (a 8) (a 9) (a 10) (a 11) (a 12) tW.2.1)) [19, 20, 7, 8, 9, 10, 11, 12] rfl
            have hDc := hD.sub (ws' := (cwL cI (a 19) (a 20) tW.2.2.2.2.1 ++ cwT cI (a 7) (a 8) (a 9) (a 10) (a 11) (a 12) tW.2.1)) [19, 20, 7, 8, 9, 10, 11, 12] (by decide) rfl
            have hFc := va_free (wc := (cwL cI (a 19) (a 20) tW.2.2.2.2.1 ++ cwT cI (a 7) (a 8) (a 9) (a 10) (a 11) (a 12) tW.2.1)) hD hS hA [19, 20, 7, 8, 9, 10, 11, 12] rfl
            refine bd hF (fun r53 hG hF => ?_)
            refine va_calli (va_runVN (As := [.int x2, .ref (a 7)]) (rest := []) ⟨hx, hb, hml, hown, hts⟩ (c_X0_tellStatement l dC dI cI sf H.size N (a 19) (a 20) (a 7) (a 8) (a 9) (a 10) (a 11) (a 12) tW.2.2.2.2.1 tW.2.1 x2 r53 hG) ⟨va_cnB 2 hts gX2_town_X0_tellStatement_n65 rfl rfl rfl (hNN.at 3 rfl) (hts (.initialized RX0) (List.mem_of_getElem? (i := 5) rfl)) (by decide +kernel) ⟨Nat.le_of_ble_eq_true rfl, Nat.le_of_ble_eq_true rfl⟩, hts (.instanceMethod yX0_tellStatement) (List.mem_of_getElem? (i := 95) rfl), hts (.selects RX0 yX0_tellStatement yX0_tellStatement) (List.mem_of_getElem? (i := 96) rfl)⟩ ⟨fun a U g mk q => ⟨q.1, q.2.call⟩, va_recv hK hP (ci := 0) (q0 := 19) rfl rfl, fun U hU hW => ⟨rfl, PB.of hU hW hPc hK hDc hNN hSF hS hFc⟩⟩ rfl rfl hl.1 rfl (lv_room (Nat.le_of_ble_eq_true rfl)) dX2_town_53 ⟨Nat.le_of_ble_eq_true rfl, Nat.le_of_ble_eq_true rfl⟩) hS (fun q _ h => hFc q h) hFc (fun z_ u_ t H locs ht hvm hw hB hz1 hk1 hS => ?_)
            subst z_
            obtain ⟨hP1, hD1⟩ := hB
            rw [ht] at hP1
            have hJ := vb_join (ws' := (cwX cI a (tW.1, r53.2, tW.2.2.1, tW.2.2.2.1, tW.2.2.2.2.1, tW.2.2.2.2.2.1, tW.2.2.2.2.2.2.1, tW.2.2.2.2.2.2.2.1, tW.2.2.2.2.2.2.2.2))) hP hD [19, 20, 7, 8, 9, 10, 11, 12] [0, 1, 2, 3, 4, 5, 6, 13, 14, 15, 16, 17, 18, 21, 22, 23] [0, 1, 2, 3, 4, 5, 6, 18, 19, 20, 21, 22, 23, 7, 8, 9, 10, 11, 12, 16, 17, 13, 14, 15] rfl rfl (by decide) (by decide) hk1 hFc hP1 hD1 rfl (by decide) rfl
            clear hP hD hPc hDc hFc hP1 hD1 hk1 hz1 ht hvm hG
            obtain ⟨hP, hD⟩ := hJ
            refine vW_have (fun R av Q => ∀ (tW : XS) (x1 : Int32) (x2 : Int32) (x3 : Int32) (H : Heap) (locs : List Loc) (ls : Array Slot), F_X2_town_80 N (fun ctW cx1 cx2 cx3 => F_X2_town_23 N n23 ctW cx1 cx2 cx3) tW x1 x2 x3 = some r → va_P (dC, dI) vwCl (cwX cI a tW) H → va_D A (cwX cI a tW) → va_S A s.heap H locs → lv_has ls 4 [(0, .ref (a 0)), (1, .int x1), (2, .int x2), (3, .int x3)] → W p l e R s m av below meth c H locs 0 0 Q (F0 m 80 ls [])) ?_ (fun kJ80 => ?_)
            · 
              intro tW x1 x2 x3 H locs ls hF hP hD hS hl
              rw [F_X2_town_80] at hF
              refine lv_iinc (v := x3 + (nI 1)) (lv' := [(3, .int (x3 + (nI 1))), (0, .ref (a 0)), (1, .int x1), (2, .int x2)]) hx hb dX2_town_80 hl (k := 3) rfl (by rfl) (by decide) rfl (fun ls hl => ?_)
              refine lv_goto (tgt := 23) hx hb dX2_town_83 (by decide) ?_
              exact ih23 tW x1 x2 (x3 + (nI 1)) _ _ _ hF hP hD hS (lv_sub hl [1, 2, 3, 0] rfl)
            refine lv_if_eq (tgt := 74) hx hb dX2_town_56 (by decide) (fun hc => ?_) (fun hc => ?_)
            · have hF := ift hc hF
              refine lv_sipush (v := (-2000)) hx hb dX2_town_74 (by decide) ?_
              refine lv_iload_n hx hb dX2_town_77 rfl (lv_at hl 2 rfl) ?_
              refine lv_isub hx hb dX2_town_78 ?_
              refine lv_istore_n (lv' := [(1, .int ((-2000) - x2)), (0, .ref (a 0)), (2, .int x2), (3, .int x3)]) hx hb dX2_town_79 rfl hl (by decide) rfl (fun ls hl => ?_)
              exact kJ80 (tW.1, r53.2, tW.2.2.1, tW.2.2.2.1, tW.2.2.2.2.1, tW.2.2.2.2.2.1, tW.2.2.2.2.2.2.1, tW.2.2.2.2.2.2.2.1, tW.2.2.2.2.2.2.2.2) ((-2000) - x2) x2 x3 _ _ _ hF hP hD hS (lv_sub hl [1, 0, 2, 3] rfl)
            · have hF := iff_ hc hF
              refine lv_iinc (v := x1 + (nI 1)) (lv' := [(1, .int (x1 + (nI 1))), (0, .ref (a 0)), (2, .int x2), (3, .int x3)]) hx hb dX2_town_59 hl (k := 1) rfl (by rfl) (by decide) rfl (fun ls hl => ?_)
              refine lv_aload_n hx hb dX2_town_62 rfl (lv_at hl 1 rfl) ?_
              refine va_get (D := (dC, dI)) (ci := 2) (v := .ref (a 19)) (C := RX2) (T := TX2) (N := 9) hx hb hts inw_X2_town_X2 hown hK hP 0 rfl rfl 4 (by decide) (hts (.fieldLink RX2 29 "DeniedOfEachOther" "letters" "LDeniedOfEachOther$Letters;") (List.mem_of_getElem? (i := 1) rfl)) (fun _ h9 => h9) rfl dX2_town_63 ?_
              refine lv_iload_n hx hb dX2_town_66 rfl (lv_at hl 2 rfl) ?_
              have hPc := hP.sub (ws' := (cwL cI (a 19) (a 20) tW.2.2.2.2.1)) [19, 20] rfl
              have hDc := hD.sub (ws' := (cwL cI (a 19) (a 20) tW.2.2.2.2.1)) [19, 20] (by decide) rfl
              have hFc := va_free (wc := (cwL cI (a 19) (a 20) tW.2.2.2.2.1)) hD hS hA [19, 20] rfl
              refine bd hF (fun r67 hG hF => ?_)
              refine va_calli (va_runVN (As := [.int x2]) (rest := []) ⟨hx, hb, hml, hown, hts⟩ (c_X0_behindStatement l dC dI cI sf H.size N (a 19) (a 20) tW.2.2.2.2.1 x2 r67 hG) ⟨va_cnB 1 hts gX2_town_X0_behindStatement_n69 rfl rfl rfl (hNN.at 9 rfl) (hts (.initialized RX0) (List.mem_of_getElem? (i := 5) rfl)) (by decide +kernel) ⟨Nat.le_of_ble_eq_true rfl, Nat.le_of_ble_eq_true rfl⟩, hts (.instanceMethod yX0_behindStatement) (List.mem_of_getElem? (i := 10) rfl), hts (.selects RX0 yX0_behindStatement yX0_behindStatement) (List.mem_of_getElem? (i := 11) rfl)⟩ ⟨fun a U g mk q => ⟨q.1, q.2.call⟩, va_recv hK hP (ci := 0) (q0 := 19) rfl rfl, fun U hU hW => ⟨rfl, PB.of hU hW hPc hK hDc hNN hSF hS hFc⟩⟩ rfl rfl hl.1 rfl (lv_room (Nat.le_of_ble_eq_true rfl)) dX2_town_67 ⟨Nat.le_of_ble_eq_true rfl, Nat.le_of_ble_eq_true rfl⟩) hS (fun q _ h => hFc q h) hFc (fun z_ u_ t H locs ht hvm hw hB hz1 hk1 hS => ?_)
              subst z_
              obtain ⟨hP1, hD1⟩ := hB
              rw [ht] at hP1
              have hJ := vb_join (ws' := (cwX cI a (tW.1, r53.2, tW.2.2.1, tW.2.2.2.1, tW.2.2.2.2.1, tW.2.2.2.2.2.1, tW.2.2.2.2.2.2.1, tW.2.2.2.2.2.2.2.1, tW.2.2.2.2.2.2.2.2))) hP hD [19, 20] [0, 1, 2, 3, 4, 5, 6, 7, 8, 9, 10, 11, 12, 13, 14, 15, 16, 17, 18, 21, 22, 23] [0, 1, 2, 3, 4, 5, 6, 7, 8, 9, 10, 11, 12, 13, 14, 15, 16, 17, 18, 22, 23, 19, 20, 21] rfl rfl (by decide) (by decide) hk1 hFc hP1 hD1 rfl (by decide) rfl
              clear hP hD hPc hDc hFc hP1 hD1 hk1 hz1 ht hvm hG
              obtain ⟨hP, hD⟩ := hJ
              refine lv_istore_n (lv' := [(2, .int r67), (1, .int (x1 + (nI 1))), (0, .ref (a 0)), (3, .int x3)]) hx hb dX2_town_70 rfl hl (by decide) rfl (fun ls hl => ?_)
              refine lv_goto (tgt := 80) hx hb dX2_town_71 (by decide) ?_
              exact kJ80 (tW.1, r53.2, tW.2.2.1, tW.2.2.2.1, tW.2.2.2.2.1, tW.2.2.2.2.2.1, tW.2.2.2.2.2.2.1, tW.2.2.2.2.2.2.2.1, tW.2.2.2.2.2.2.2.2) (x1 + (nI 1)) r67 x3 _ _ _ hF hP hD hS (lv_sub hl [2, 1, 0, 3] rfl)
  refine lv_istore_n (lv' := [(3, .int (nI 0)), (2, .int (nI 0)), (1, .int r4), (0, .ref (a 0))]) hx hb dX2_town_22 rfl hl (by decide) rfl (fun ls hl => ?_)
  exact kJ23 N (tW.1, r18, tW.2.2.1, tW.2.2.2.1, tW.2.2.2.2.1, tW.2.2.2.2.2.1, tW.2.2.2.2.2.2.1, tW.2.2.2.2.2.2.2.1, tW.2.2.2.2.2.2.2.2) r4 (nI 0) (nI 0) _ _ _ hF hP hD hS (lv_sub hl [3, 2, 1, 0] rfl)
theorem inw_X2_turn_X2 : ∀ w ∈ u_ws RX2 TX2 9, w ∈ wsX2_turn := fun _ h => List.mem_cons_of_mem _ (List.mem_append_left _ (List.mem_append_right _ h))
theorem inw_X2_turn_X1 : ∀ w ∈ u_ws RX1 TX1 8, w ∈ wsX2_turn := fun _ h => List.mem_cons_of_mem _ (List.mem_append_right _ h)
set_option maxHeartbeats 4000000 in
set_option maxRecDepth 100000 in
theorem c_X2_turn (l : Launch) (dC : Nat → ClassId) (dI : Nat → Nat → Nat) (cI : ClassId) (sf : SFP) (sz : Nat) (N : Nat) (a : Nat → Nat) (tW : XS) (p1 : Int32) (p2 : Int32) (p3 : Int32) (r : (Int32 × XS)) (hF : F_X2_turn N tW p1 p2 p3 = some r) : Met l yX2_turn wsX2_turn ({ frames := 1, cells := 0, slots := 0, locals := 22 }) (va_Pc [.ref (a 0), .int p1, .int p2, .int p3] (PB (dC, dI) cI (cwX cI a tW) sz sf)) (va_Qi (fun (z : Int32) (_ : Unit) => z = r.1) (fun _ t => QB (dC, dI) (cwX cI a r.2) (va_A (cwX cI a tW) sz) t) (va_A (cwX cI a tW) sz)) 0 0 (va_A (cwX cI a tW) sz) := by
  refine Met.ofW (cc := cX2_turn) (maxL := 5) (ret := (some .int)) (by decide) rfl ?_
  intro p e s m args below meth c s₁ B hml hv
  obtain ⟨rfl, hsz, hP, hK, hD0, hNN, hSF⟩ := hv
  have hx := B.exec
  have hb := B.bytes
  have hr := B.returns
  have hts := atoms_spec (ws := wsX2_turn) B.pre
  have hown : s.vm.findClass RX2 = some m.cls := findClass_of_methodNamed B.named
  have hlocks := B.notSynchronized
  subst hsz
  have hD := hD0.self (sz := s.heap.size)
  generalize hAe : va_A (cwX cI a tW) s.heap.size = A at hD hSF ⊢
  have hA : ∀ q : Nat, s.heap.size ≤ q → A q := fun q h => by rw [← hAe]; exact Or.inr h
  clear hAe hD0
  have hS : va_S A s.heap s.heap [] := va_S.rf
  have hl := lv_entry ([.ref (a 0), .int p1, .int p2, .int p3]) (n := 5) (Nat.le_of_ble_eq_true rfl)
  rw [lg_entry_eq]
  generalize (lg_sl ([.ref (a 0), .int p1, .int p2, .int p3]) ++ List.replicate (5 - (lg_sl ([.ref (a 0), .int p1, .int p2, .int p3])).length) Slot.unset).toArray = ls at hl ⊢
  have hl : lv_has ls 5 [(0, .ref (a 0)), (1, .int p1), (2, .int p2), (3, .int p3)] := hl
  rw [F_X2_turn] at hF
  refine lv_aload_n hx hb dX2_turn_0 rfl (lv_at hl 0 rfl) ?_
  refine lv_iload_n hx hb dX2_turn_1 rfl (lv_at hl 1 rfl) ?_
  have hPc := hP.sub (ws' := (cwX cI a tW)) [0, 1, 2, 3, 4, 5, 6, 7, 8, 9, 10, 11, 12, 13, 14, 15, 16, 17, 18, 19, 20, 21, 22, 23] rfl
  have hDc := hD.sub (ws' := (cwX cI a tW)) [0, 1, 2, 3, 4, 5, 6, 7, 8, 9, 10, 11, 12, 13, 14, 15, 16, 17, 18, 19, 20, 21, 22, 23] (by decide) rfl
  have hFc := va_free (wc := (cwX cI a tW)) hD hS hA [0, 1, 2, 3, 4, 5, 6, 7, 8, 9, 10, 11, 12, 13, 14, 15, 16, 17, 18, 19, 20, 21, 22, 23] rfl
  refine bd hF (fun r2 hG hF => ?_)
  refine va_calli (va_runV (As := [.int p1]) (rest := []) ⟨hx, hb, hml, hown, hts⟩ (c_X2_noCitizen l dC dI cI sf s.heap.size N a tW p1 r2 hG) (cwV 1 hts gX2_turn_X2_noCitizen rfl rfl rfl (by decide +kernel) ⟨Nat.le_of_ble_eq_true rfl, Nat.le_of_ble_eq_true rfl⟩) ⟨fun a U g mk q => ⟨q.1, q.2.call⟩, va_recv hK hP (ci := 2) (q0 := 0) rfl rfl, fun U hU hW => ⟨rfl, PB.of hU hW hPc hK hDc hNN hSF hS hFc⟩⟩ rfl rfl hl.1 rfl (lv_room (Nat.le_of_ble_eq_true rfl)) dX2_turn_2 ⟨Nat.le_of_ble_eq_true rfl, Nat.le_of_ble_eq_true rfl⟩) hS (fun q _ h => hFc q h) hFc (fun z_ u_ t H locs ht hvm hw hB hz1 hk1 hS => ?_)
  subst z_
  obtain ⟨hP1, hD1⟩ := hB
  rw [ht] at hP1
  have hJ := vb_join (ws' := (cwX cI a tW)) hP hD [0, 1, 2, 3, 4, 5, 6, 7, 8, 9, 10, 11, 12, 13, 14, 15, 16, 17, 18, 19, 20, 21, 22, 23] [] [0, 1, 2, 3, 4, 5, 6, 7, 8, 9, 10, 11, 12, 13, 14, 15, 16, 17, 18, 19, 20, 21, 22, 23] rfl rfl (by decide) (by decide) hk1 hFc hP1 hD1 rfl (by decide) rfl
  clear hP hD hPc hDc hFc hP1 hD1 hk1 hz1 ht hvm hG
  obtain ⟨hP, hD⟩ := hJ
  refine lv_if_eq (tgt := 14) hx hb dX2_turn_5 (by decide) (fun hc => ?_) (fun hc => ?_)
  · have hF := ift hc hF
    refine lv_iload_n hx hb dX2_turn_14 rfl (lv_at hl 2 rfl) ?_
    refine vW_have (fun R av Q => ∀ (tW : XS) (H : Heap) (locs : List Loc) (ls : Array Slot), F_X2_turn_24 N tW = some r → va_P (dC, dI) vwCl (cwX cI a tW) H → va_D A (cwX cI a tW) → va_S A s.heap H locs → lv_has ls 5 [(0, .ref (a 0))] → W p l e R s m av below meth c H locs 0 0 Q (F0 m 24 ls [])) ?_ (fun kJ24 => ?_)
    · 
      intro tW H locs ls hF hP hD hS hl
      rw [F_X2_turn_24] at hF
      refine lv_aload_n hx hb dX2_turn_24 rfl (lv_at hl 0 rfl) ?_
      refine lv_bipush (v := (-2)) hx hb dX2_turn_25 (by decide) ?_
      have hPc := hP.sub (ws' := (cwX cI a tW)) [0, 1, 2, 3, 4, 5, 6, 7, 8, 9, 10, 11, 12, 13, 14, 15, 16, 17, 18, 19, 20, 21, 22, 23] rfl
      have hDc := hD.sub (ws' := (cwX cI a tW)) [0, 1, 2, 3, 4, 5, 6, 7, 8, 9, 10, 11, 12, 13, 14, 15, 16, 17, 18, 19, 20, 21, 22, 23] (by decide) rfl
      have hFc := va_free (wc := (cwX cI a tW)) hD hS hA [0, 1, 2, 3, 4, 5, 6, 7, 8, 9, 10, 11, 12, 13, 14, 15, 16, 17, 18, 19, 20, 21, 22, 23] rfl
      refine bd hF (fun r27 hG hF => ?_)
      refine va_calli (va_runV (As := [.int (-2)]) (rest := []) ⟨hx, hb, hml, hown, hts⟩ (c_X2_refuse l dC dI cI sf H.size N a tW (-2) r27 hG) (cwV 1 hts gX2_turn_X2_refuse rfl rfl rfl (by decide +kernel) ⟨Nat.le_of_ble_eq_true rfl, Nat.le_of_ble_eq_true rfl⟩) ⟨fun a U g mk q => ⟨q.1, q.2.call⟩, va_recv hK hP (ci := 2) (q0 := 0) rfl rfl, fun U hU hW => ⟨rfl, PB.of hU hW hPc hK hDc hNN hSF hS hFc⟩⟩ rfl rfl hl.1 rfl (lv_room (Nat.le_of_ble_eq_true rfl)) dX2_turn_27 ⟨Nat.le_of_ble_eq_true rfl, Nat.le_of_ble_eq_true rfl⟩) hS (fun q _ h => hFc q h) hFc (fun z_ u_ t H locs ht hvm hw hB hz1 hk1 hS => ?_)
      subst z_
      obtain ⟨hP1, hD1⟩ := hB
      rw [ht] at hP1
      have hJ := vb_join (ws' := (cwX cI a r27.2)) hP hD [0, 1, 2, 3, 4, 5, 6, 7, 8, 9, 10, 11, 12, 13, 14, 15, 16, 17, 18, 19, 20, 21, 22, 23] [] [0, 1, 2, 3, 4, 5, 6, 7, 8, 9, 10, 11, 12, 13, 14, 15, 16, 17, 18, 19, 20, 21, 22, 23] rfl rfl (by decide) (by decide) hk1 hFc hP1 hD1 rfl (by decide) rfl
      clear hP hD hPc hDc hFc hP1 hD1 hk1 hz1 ht hvm hG
      obtain ⟨hP, hD⟩ := hJ
      obtain rfl := Option.some.inj hF
      exact W.iret (v := r27.1) hx hb hr (fun t ht hW => ⟨⟨r27.1, (), rfl, rfl, QB.of ht hP hD⟩, hS.F ht⟩) hS.2.2 dX2_turn_30
    refine lv_if_lt (tgt := 24) hx hb dX2_turn_15 (by decide) (fun hc => ?_) (fun hc => ?_)
    · have hF := ift hc hF
      exact kJ24 tW _ _ _ hF hP hD hS (lv_sub hl [0] rfl)
    · have hF := iff_ hc hF
      refine lv_iload_n hx hb dX2_turn_18 rfl (lv_at hl 2 rfl) ?_
      refine lv_bipush (v := nI 6) hx hb dX2_turn_19 (by decide) ?_
      refine lv_icmp_lt (tgt := 31) hx hb dX2_turn_21 (by decide) (fun hc => ?_) (fun hc => ?_)
      · have hF := ift hc hF
        refine lv_iload_n hx hb dX2_turn_31 rfl (lv_at hl 3 rfl) ?_
        refine lv_if_ge (tgt := 42) hx hb dX2_turn_32 (by decide) (fun hc => ?_) (fun hc => ?_)
        · have hF := ift hc hF
          refine lv_iload_n hx hb dX2_turn_42 rfl (lv_at hl 3 rfl) ?_
          refine lv_bipush (v := nI 10) hx hb dX2_turn_43 (by decide) ?_
          refine lv_icmp_lt (tgt := 55) hx hb dX2_turn_45 (by decide) (fun hc => ?_) (fun hc => ?_)
          · have hF := ift hc hF
            refine lv_bipush (v := nI 10) hx hb dX2_turn_55 (by decide) ?_
            refine lv_aload_n hx hb dX2_turn_57 rfl (lv_at hl 0 rfl) ?_
            refine va_get (D := (dC, dI)) (ci := 2) (v := .ref (a 1)) (C := RX2) (T := TX2) (N := 9) hx hb hts inw_X2_turn_X2 hown hK hP 0 rfl rfl 0 (by decide) (hts (.fieldLink RX2 10 "DeniedOfEachOther" "now" "LDeniedOfEachOther$Town;") (List.mem_of_getElem? (i := 1) rfl)) (fun _ h9 => h9) rfl dX2_turn_58 ?_
            refine va_getN (D := (dC, dI)) (ci := 1) (v := .ref (a 2)) (C := RX1) (T := TX1) (N := 8) hx hb hts inw_X2_turn_X1 hown hK hP 1 rfl rfl 0 (by decide) (hNN.use 34 rfl) (fun _ h9 => h9) rfl dX2_turn_61 ?_
            refine lv_iload_n hx hb dX2_turn_64 rfl (lv_at hl 1 rfl) ?_
            refine cki hF (fun hi hF => ?_)
            refine va_iald (D := (dC, dI)) hx hb hK hP 2 0 rfl rfl hi dX2_turn_65 ?_
            refine lv_imul hx hb dX2_turn_66 ?_
            refine lv_aload_n hx hb dX2_turn_67 rfl (lv_at hl 0 rfl) ?_
            refine va_get (D := (dC, dI)) (ci := 2) (v := .ref (a 1)) (C := RX2) (T := TX2) (N := 9) hx hb hts inw_X2_turn_X2 hown hK hP 0 rfl rfl 0 (by decide) (hts (.fieldLink RX2 10 "DeniedOfEachOther" "now" "LDeniedOfEachOther$Town;") (List.mem_of_getElem? (i := 1) rfl)) (fun _ h9 => h9) rfl dX2_turn_68 ?_
            refine va_getN (D := (dC, dI)) (ci := 1) (v := .ref (a 3)) (C := RX1) (T := TX1) (N := 8) hx hb hts inw_X2_turn_X1 hown hK hP 1 rfl rfl 1 (by decide) (hNN.use 35 rfl) (fun _ h9 => h9) rfl dX2_turn_71 ?_
            refine lv_iload_n hx hb dX2_turn_74 rfl (lv_at hl 1 rfl) ?_
            refine cki hF (fun hi hF => ?_)
            refine va_iald (D := (dC, dI)) hx hb hK hP 3 0 rfl rfl hi dX2_turn_75 ?_
            refine lv_iadd hx hb dX2_turn_76 ?_
            refine lv_istore (lv' := [(4, .int (((nI 10) * (tW.1.1 p1.toNatClampNeg)) + (tW.1.2.1 p1.toNatClampNeg))), (0, .ref (a 0)), (1, .int p1), (2, .int p2), (3, .int p3)]) hx hb dX2_turn_77 hl (by decide) rfl (fun ls hl => ?_)
            refine lv_aload_n hx hb dX2_turn_79 rfl (lv_at hl 1 rfl) ?_
            refine va_get (D := (dC, dI)) (ci := 2) (v := .ref (a 1)) (C := RX2) (T := TX2) (N := 9) hx hb hts inw_X2_turn_X2 hown hK hP 0 rfl rfl 0 (by decide) (hts (.fieldLink RX2 10 "DeniedOfEachOther" "now" "LDeniedOfEachOther$Town;") (List.mem_of_getElem? (i := 1) rfl)) (fun _ h9 => h9) rfl dX2_turn_80 ?_
            refine va_getN (D := (dC, dI)) (ci := 1) (v := .ref (a 2)) (C := RX1) (T := TX1) (N := 8) hx hb hts inw_X2_turn_X1 hown hK hP 1 rfl rfl 0 (by decide) (hNN.use 34 rfl) (fun _ h9 => h9) rfl dX2_turn_83 ?_
            refine lv_iload_n hx hb dX2_turn_86 rfl (lv_at hl 2 rfl) ?_
            refine lv_iload_n hx hb dX2_turn_87 rfl (lv_at hl 3 rfl) ?_
            refine cki hF (fun hi hF => ?_)
            refine va_iast (D := (dC, dI)) hx hb hK hP hD hS 2 0 rfl rfl hi dX2_turn_88 (fun H locs hP hD hS => ?_)
            have hP : va_P (dC, dI) vwCl (cwX cI a (((upd tW.1.1 p1.toNatClampNeg p2), tW.1.2.1, tW.1.2.2.1, tW.1.2.2.2.1, tW.1.2.2.2.2.1, tW.1.2.2.2.2.2.1, tW.1.2.2.2.2.2.2.1, tW.1.2.2.2.2.2.2.2), tW.2.1, tW.2.2.1, tW.2.2.2.1, tW.2.2.2.2.1, tW.2.2.2.2.2.1, tW.2.2.2.2.2.2.1, tW.2.2.2.2.2.2.2.1, tW.2.2.2.2.2.2.2.2)) H := hP
            have hD : va_D A (cwX cI a (((upd tW.1.1 p1.toNatClampNeg p2), tW.1.2.1, tW.1.2.2.1, tW.1.2.2.2.1, tW.1.2.2.2.2.1, tW.1.2.2.2.2.2.1, tW.1.2.2.2.2.2.2.1, tW.1.2.2.2.2.2.2.2), tW.2.1, tW.2.2.1, tW.2.2.2.1, tW.2.2.2.2.1, tW.2.2.2.2.2.1, tW.2.2.2.2.2.2.1, tW.2.2.2.2.2.2.2.1, tW.2.2.2.2.2.2.2.2)) := hD
            refine lv_aload_n hx hb dX2_turn_89 rfl (lv_at hl 1 rfl) ?_
            refine va_get (D := (dC, dI)) (ci := 2) (v := .ref (a 1)) (C := RX2) (T := TX2) (N := 9) hx hb hts inw_X2_turn_X2 hown hK hP 0 rfl rfl 0 (by decide) (hts (.fieldLink RX2 10 "DeniedOfEachOther" "now" "LDeniedOfEachOther$Town;") (List.mem_of_getElem? (i := 1) rfl)) (fun _ h9 => h9) rfl dX2_turn_90 ?_
            refine va_getN (D := (dC, dI)) (ci := 1) (v := .ref (a 3)) (C := RX1) (T := TX1) (N := 8) hx hb hts inw_X2_turn_X1 hown hK hP 1 rfl rfl 1 (by decide) (hNN.use 35 rfl) (fun _ h9 => h9) rfl dX2_turn_93 ?_
            refine lv_iload_n hx hb dX2_turn_96 rfl (lv_at hl 2 rfl) ?_
            refine lv_iload_n hx hb dX2_turn_97 rfl (lv_at hl 4 rfl) ?_
            refine cki hF (fun hi hF => ?_)
            refine va_iast (D := (dC, dI)) hx hb hK hP hD hS 3 0 rfl rfl hi dX2_turn_98 (fun H locs hP hD hS => ?_)
            have hP : va_P (dC, dI) vwCl (cwX cI a (((upd tW.1.1 p1.toNatClampNeg p2), (upd tW.1.2.1 p1.toNatClampNeg p3), tW.1.2.2.1, tW.1.2.2.2.1, tW.1.2.2.2.2.1, tW.1.2.2.2.2.2.1, tW.1.2.2.2.2.2.2.1, tW.1.2.2.2.2.2.2.2), tW.2.1, tW.2.2.1, tW.2.2.2.1, tW.2.2.2.2.1, tW.2.2.2.2.2.1, tW.2.2.2.2.2.2.1, tW.2.2.2.2.2.2.2.1, tW.2.2.2.2.2.2.2.2)) H := hP
            have hD : va_D A (cwX cI a (((upd tW.1.1 p1.toNatClampNeg p2), (upd tW.1.2.1 p1.toNatClampNeg p3), tW.1.2.2.1, tW.1.2.2.2.1, tW.1.2.2.2.2.1, tW.1.2.2.2.2.2.1, tW.1.2.2.2.2.2.2.1, tW.1.2.2.2.2.2.2.2), tW.2.1, tW.2.2.1, tW.2.2.2.1, tW.2.2.2.2.1, tW.2.2.2.2.2.1, tW.2.2.2.2.2.2.1, tW.2.2.2.2.2.2.2.1, tW.2.2.2.2.2.2.2.2)) := hD
            refine lv_iload hx hb dX2_turn_99 (lv_at hl 0 rfl) ?_
            obtain rfl := Option.some.inj hF
            exact W.iret (v := (((nI 10) * (tW.1.1 p1.toNatClampNeg)) + (tW.1.2.1 p1.toNatClampNeg))) hx hb hr (fun t ht hW => ⟨⟨(((nI 10) * (tW.1.1 p1.toNatClampNeg)) + (tW.1.2.1 p1.toNatClampNeg)), (), rfl, rfl, QB.of ht hP hD⟩, hS.F ht⟩) hS.2.2 dX2_turn_101
          · have hF := iff_ hc hF
            refine lv_aload_n hx hb dX2_turn_48 rfl (lv_at hl 0 rfl) ?_
            refine lv_bipush (v := (-6)) hx hb dX2_turn_49 (by decide) ?_
            have hPc := hP.sub (ws' := (cwX cI a tW)) [0, 1, 2, 3, 4, 5, 6, 7, 8, 9, 10, 11, 12, 13, 14, 15, 16, 17, 18, 19, 20, 21, 22, 23] rfl
            have hDc := hD.sub (ws' := (cwX cI a tW)) [0, 1, 2, 3, 4, 5, 6, 7, 8, 9, 10, 11, 12, 13, 14, 15, 16, 17, 18, 19, 20, 21, 22, 23] (by decide) rfl
            have hFc := va_free (wc := (cwX cI a tW)) hD hS hA [0, 1, 2, 3, 4, 5, 6, 7, 8, 9, 10, 11, 12, 13, 14, 15, 16, 17, 18, 19, 20, 21, 22, 23] rfl
            refine bd hF (fun r51 hG hF => ?_)
            refine va_calli (va_runV (As := [.int (-6)]) (rest := []) ⟨hx, hb, hml, hown, hts⟩ (c_X2_refuse l dC dI cI sf H.size N a tW (-6) r51 hG) (cwV 1 hts gX2_turn_X2_refuse rfl rfl rfl (by decide +kernel) ⟨Nat.le_of_ble_eq_true rfl, Nat.le_of_ble_eq_true rfl⟩) ⟨fun a U g mk q => ⟨q.1, q.2.call⟩, va_recv hK hP (ci := 2) (q0 := 0) rfl rfl, fun U hU hW => ⟨rfl, PB.of hU hW hPc hK hDc hNN hSF hS hFc⟩⟩ rfl rfl hl.1 rfl (lv_room (Nat.le_of_ble_eq_true rfl)) dX2_turn_51 ⟨Nat.le_of_ble_eq_true rfl, Nat.le_of_ble_eq_true rfl⟩) hS (fun q _ h => hFc q h) hFc (fun z_ u_ t H locs ht hvm hw hB hz1 hk1 hS => ?_)
            subst z_
            obtain ⟨hP1, hD1⟩ := hB
            rw [ht] at hP1
            have hJ := vb_join (ws' := (cwX cI a r51.2)) hP hD [0, 1, 2, 3, 4, 5, 6, 7, 8, 9, 10, 11, 12, 13, 14, 15, 16, 17, 18, 19, 20, 21, 22, 23] [] [0, 1, 2, 3, 4, 5, 6, 7, 8, 9, 10, 11, 12, 13, 14, 15, 16, 17, 18, 19, 20, 21, 22, 23] rfl rfl (by decide) (by decide) hk1 hFc hP1 hD1 rfl (by decide) rfl
            clear hP hD hPc hDc hFc hP1 hD1 hk1 hz1 ht hvm hG
            obtain ⟨hP, hD⟩ := hJ
            obtain rfl := Option.some.inj hF
            exact W.iret (v := r51.1) hx hb hr (fun t ht hW => ⟨⟨r51.1, (), rfl, rfl, QB.of ht hP hD⟩, hS.F ht⟩) hS.2.2 dX2_turn_54
        · have hF := iff_ hc hF
          refine lv_aload_n hx hb dX2_turn_35 rfl (lv_at hl 0 rfl) ?_
          refine lv_bipush (v := (-4)) hx hb dX2_turn_36 (by decide) ?_
          have hPc := hP.sub (ws' := (cwX cI a tW)) [0, 1, 2, 3, 4, 5, 6, 7, 8, 9, 10, 11, 12, 13, 14, 15, 16, 17, 18, 19, 20, 21, 22, 23] rfl
          have hDc := hD.sub (ws' := (cwX cI a tW)) [0, 1, 2, 3, 4, 5, 6, 7, 8, 9, 10, 11, 12, 13, 14, 15, 16, 17, 18, 19, 20, 21, 22, 23] (by decide) rfl
          have hFc := va_free (wc := (cwX cI a tW)) hD hS hA [0, 1, 2, 3, 4, 5, 6, 7, 8, 9, 10, 11, 12, 13, 14, 15, 16, 17, 18, 19, 20, 21, 22, 23] rfl
          refine bd hF (fun r38 hG hF => ?_)
          refine va_calli (va_runV (As := [.int (-4)]) (rest := []) ⟨hx, hb, hml, hown, hts⟩ (c_X2_refuse l dC dI cI sf H.size N a tW (-4) r38 hG) (cwV 1 hts gX2_turn_X2_refuse rfl rfl rfl (by decide +kernel) ⟨Nat.le_of_ble_eq_true rfl, Nat.le_of_ble_eq_true rfl⟩) ⟨fun a U g mk q => ⟨q.1, q.2.call⟩, va_recv hK hP (ci := 2) (q0 := 0) rfl rfl, fun U hU hW => ⟨rfl, PB.of hU hW hPc hK hDc hNN hSF hS hFc⟩⟩ rfl rfl hl.1 rfl (lv_room (Nat.le_of_ble_eq_true rfl)) dX2_turn_38 ⟨Nat.le_of_ble_eq_true rfl, Nat.le_of_ble_eq_true rfl⟩) hS (fun q _ h => hFc q h) hFc (fun z_ u_ t H locs ht hvm hw hB hz1 hk1 hS => ?_)
          subst z_
          obtain ⟨hP1, hD1⟩ := hB
          rw [ht] at hP1
          have hJ := vb_join (ws' := (cwX cI a r38.2)) hP hD [0, 1, 2, 3, 4, 5, 6, 7, 8, 9, 10, 11, 12, 13, 14, 15, 16, 17, 18, 19, 20, 21, 22, 23] [] [0, 1, 2, 3, 4, 5, 6, 7, 8, 9, 10, 11, 12, 13, 14, 15, 16, 17, 18, 19, 20, 21, 22, 23] rfl rfl (by decide) (by decide) hk1 hFc hP1 hD1 rfl (by decide) rfl
          clear hP hD hPc hDc hFc hP1 hD1 hk1 hz1 ht hvm hG
          obtain ⟨hP, hD⟩ := hJ
          obtain rfl := Option.some.inj hF
          exact W.iret (v := r38.1) hx hb hr (fun t ht hW => ⟨⟨r38.1, (), rfl, rfl, QB.of ht hP hD⟩, hS.F ht⟩) hS.2.2 dX2_turn_41
      · have hF := iff_ hc hF
        exact kJ24 tW _ _ _ hF hP hD hS (lv_sub hl [0] rfl)
  · have hF := iff_ hc hF
    refine lv_aload_n hx hb dX2_turn_8 rfl (lv_at hl 0 rfl) ?_
    refine lv_iconst (v := (-1)) hx hb dX2_turn_9 (by decide) ?_
    have hPc := hP.sub (ws' := (cwX cI a tW)) [0, 1, 2, 3, 4, 5, 6, 7, 8, 9, 10, 11, 12, 13, 14, 15, 16, 17, 18, 19, 20, 21, 22, 23] rfl
    have hDc := hD.sub (ws' := (cwX cI a tW)) [0, 1, 2, 3, 4, 5, 6, 7, 8, 9, 10, 11, 12, 13, 14, 15, 16, 17, 18, 19, 20, 21, 22, 23] (by decide) rfl
    have hFc := va_free (wc := (cwX cI a tW)) hD hS hA [0, 1, 2, 3, 4, 5, 6, 7, 8, 9, 10, 11, 12, 13, 14, 15, 16, 17, 18, 19, 20, 21, 22, 23] rfl
    refine bd hF (fun r10 hG hF => ?_)
    refine va_calli (va_runV (As := [.int (-1)]) (rest := []) ⟨hx, hb, hml, hown, hts⟩ (c_X2_refuse l dC dI cI sf H.size N a tW (-1) r10 hG) (cwV 1 hts gX2_turn_X2_refuse rfl rfl rfl (by decide +kernel) ⟨Nat.le_of_ble_eq_true rfl, Nat.le_of_ble_eq_true rfl⟩) ⟨fun a U g mk q => ⟨q.1, q.2.call⟩, va_recv hK hP (ci := 2) (q0 := 0) rfl rfl, fun U hU hW => ⟨rfl, PB.of hU hW hPc hK hDc hNN hSF hS hFc⟩⟩ rfl rfl hl.1 rfl (lv_room (Nat.le_of_ble_eq_true rfl)) dX2_turn_10 ⟨Nat.le_of_ble_eq_true rfl, Nat.le_of_ble_eq_true rfl⟩) hS (fun q _ h => hFc q h) hFc (fun z_ u_ t H locs ht hvm hw hB hz1 hk1 hS => ?_)
    subst z_
    obtain ⟨hP1, hD1⟩ := hB
    rw [ht] at hP1
    have hJ := vb_join (ws' := (cwX cI a r10.2)) hP hD [0, 1, 2, 3, 4, 5, 6, 7, 8, 9, 10, 11, 12, 13, 14, 15, 16, 17, 18, 19, 20, 21, 22, 23] [] [0, 1, 2, 3, 4, 5, 6, 7, 8, 9, 10, 11, 12, 13, 14, 15, 16, 17, 18, 19, 20, 21, 22, 23] rfl rfl (by decide) (by decide) hk1 hFc hP1 hD1 rfl (by decide) rfl
    clear hP hD hPc hDc hFc hP1 hD1 hk1 hz1 ht hvm hG
    obtain ⟨hP, hD⟩ := hJ
    obtain rfl := Option.some.inj hF
    exact W.iret (v := r10.1) hx hb hr (fun t ht hW => ⟨⟨r10.1, (), rfl, rfl, QB.of ht hP hD⟩, hS.F ht⟩) hS.2.2 dX2_turn_13
