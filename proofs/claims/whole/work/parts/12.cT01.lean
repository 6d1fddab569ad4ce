theorem inw_X1_thinkAgain_X1 : ∀ w ∈ u_ws RX1 TX1 8, w ∈ wsX1_thinkAgain := fun _ h => List.mem_cons_of_mem _ (List.mem_append_right _ h)
set_option maxHeartbeats 4000000 in
set_option maxRecDepth 100000 in
theorem c_X1_thinkAgain (l : Launch) (dC : Nat → ClassId) (dI : Nat → Nat → Nat) (cI : ClassId) (sf : SFP) (sz : Nat) (N : Nat) (h0 h1 h2 h3 h4 h5 : Nat) (tW : TownS) (p1 : Int32) (p2 : Int32) (r : (Int32 × TownS)) (hF : F_X1_thinkAgain N tW p1 p2 = some r) : Met l yX1_thinkAgain wsX1_thinkAgain ({ frames := 2, cells := 0, slots := 0, locals := 45 }) (va_Pc [.ref h0, .int p1, .int p2] (PB (dC, dI) cI (cwT cI h0 h1 h2 h3 h4 h5 tW) sz sf)) (va_Qi (fun (z : Int32) (_ : Unit) => z = r.1) (fun _ t => QB (dC, dI) (cwT cI h0 h1 h2 h3 h4 h5 r.2) (va_A (cwT cI h0 h1 h2 h3 h4 h5 tW) sz) t) (va_A (cwT cI h0 h1 h2 h3 h4 h5 tW) sz)) 0 0 (va_A (cwT cI h0 h1 h2 h3 h4 h5 tW) sz) := by
  refine Met.ofW (cc := cX1_thinkAgain) (maxL := 9) (ret := (some .boolean)) (by decide) rfl ?_
  intro p e s m args below meth c s₁ B hml hv
  obtain ⟨rfl, hsz, hP, hK, hD0, hNN, hSF⟩ := hv
  have hx := B.exec
  have hb := B.bytes
  have hr := B.returns
  have hts := atoms_spec (ws := wsX1_thinkAgain) B.pre
  have hown : s.vm.findClass RX1 = some m.cls := findClass_of_methodNamed B.named
  have hlocks := B.notSynchronized
  subst hsz
  have hD := hD0.self (sz := s.heap.size)
  generalize hAe : va_A (cwT cI h0 h1 h2 h3 h4 h5 tW) s.heap.size = A at hD hSF ⊢
  have hA : ∀ q : Nat, s.heap.size ≤ q → A q := fun q h => by rw [← hAe]; exact Or.inr h
  clear hAe hD0
  have hS : va_S A s.heap s.heap [] := va_S.rf
  have hl := lv_entry ([.ref h0, .int p1, .int p2]) (n := 9) (Nat.le_of_ble_eq_true rfl)
  rw [lg_entry_eq]
  generalize (lg_sl ([.ref h0, .int p1, .int p2]) ++ List.replicate (9 - (lg_sl ([.ref h0, .int p1, .int p2])).length) Slot.unset).toArray = ls at hl ⊢
  have hl : lv_has ls 9 [(0, .ref h0), (1, .int p1), (2, .int p2)] := hl
  rw [F_X1_thinkAgain] at hF
  refine lv_aload_n hx hb dX1_thinkAgain_0 rfl (lv_at hl 0 rfl) ?_
  refine lv_iload_n hx hb dX1_thinkAgain_1 rfl (lv_at hl 1 rfl) ?_
  refine lv_iload_n hx hb dX1_thinkAgain_2 rfl (lv_at hl 2 rfl) ?_
  have hPc := hP.sub (ws' := (cwT cI h0 h1 h2 h3 h4 h5 tW)) [0, 1, 2, 3, 4, 5] rfl
  have hDc := hD.sub (ws' := (cwT cI h0 h1 h2 h3 h4 h5 tW)) [0, 1, 2, 3, 4, 5] (by decide) rfl
  have hFc := va_free (wc := (cwT cI h0 h1 h2 h3 h4 h5 tW)) hD hS hA [0, 1, 2, 3, 4, 5] rfl
  refine bd hF (fun r3 hG hF => ?_)
  refine va_calli (va_runV (As := [.int p1, .int p2]) (rest := []) ⟨hx, hb, hml, hown, hts⟩ (c_X1_wordOf l dC dI cI sf s.heap.size N h0 h1 h2 h3 h4 h5 tW p1 p2 r3 hG) (cwV 2 hts gX1_thinkAgain_X1_wordOf rfl rfl rfl (by decide +kernel) ⟨Nat.le_of_ble_eq_true rfl, Nat.le_of_ble_eq_true rfl⟩) ⟨fun a U g mk q => ⟨q.1, q.2.call⟩, va_recv hK hP (ci := 1) (q0 := 0) rfl rfl, fun U hU hW => ⟨rfl, PB.of hU hW hPc hK hDc hNN hSF hS hFc⟩⟩ rfl rfl hl.1 rfl (lv_room (Nat.le_of_ble_eq_true rfl)) dX1_thinkAgain_3 ⟨Nat.le_of_ble_eq_true rfl, Nat.le_of_ble_eq_true rfl⟩) hS (fun q _ h => hFc q h) hFc (fun z_ u_ t H locs ht hvm hw hB hz1 hk1 hS => ?_)
  subst z_
  obtain ⟨hP1, hD1⟩ := hB
  rw [ht] at hP1
  have hJ := vb_join (ws' := (cwT cI h0 h1 h2 h3 h4 h5 tW)) hP hD [0, 1, 2, 3, 4, 5] [] [0, 1, 2, 3, 4, 5] rfl rfl (by decide) (by decide) hk1 hFc hP1 hD1 rfl (by decide) rfl
  clear hP hD hPc hDc hFc hP1 hD1 hk1 hz1 ht hvm hG
  obtain ⟨hP, hD⟩ := hJ
  refine lv_istore_n (lv' := [(3, .int r3), (0, .ref h0), (1, .int p1), (2, .int p2)]) hx hb dX1_thinkAgain_6 rfl hl (by decide) rfl (fun ls hl => ?_)
  refine lv_iload_n hx hb dX1_thinkAgain_7 rfl (lv_at hl 0 rfl) ?_
  refine lv_if_ne (tgt := 13) hx hb dX1_thinkAgain_8 (by decide) (fun hc => ?_) (fun hc => ?_)
  · have hF := ift hc hF
    refine lv_aload_n hx hb dX1_thinkAgain_13 rfl (lv_at hl 1 rfl) ?_
    refine lv_iload_n hx hb dX1_thinkAgain_14 rfl (lv_at hl 3 rfl) ?_
    have hPc := hP.sub (ws' := (cwT cI h0 h1 h2 h3 h4 h5 tW)) [0, 1, 2, 3, 4, 5] rfl
    have hDc := hD.sub (ws' := (cwT cI h0 h1 h2 h3 h4 h5 tW)) [0, 1, 2, 3, 4, 5] (by decide) rfl
    have hFc := va_free (wc := (cwT cI h0 h1 h2 h3 h4 h5 tW)) hD hS hA [0, 1, 2, 3, 4, 5] rfl
    refine bd hF (fun r15 hG hF => ?_)
    refine va_calli (va_runV (As := [.int p2]) (rest := []) ⟨hx, hb, hml, hown, hts⟩ (c_X1_livingYes l dC dI cI sf H.size N h0 h1 h2 h3 h4 h5 tW p2 r15 hG) (cwV 1 hts gX1_thinkAgain_X1_livingYes rfl rfl rfl (by decide +kernel) ⟨Nat.le_of_ble_eq_true rfl, Nat.le_of_ble_eq_true rfl⟩) ⟨fun a U g mk q => ⟨q.1, q.2.call⟩, va_recv hK hP (ci := 1) (q0 := 0) rfl rfl, fun U hU hW => ⟨rfl, PB.of hU hW hPc hK hDc hNN hSF hS hFc⟩⟩ rfl rfl hl.1 rfl (lv_room (Nat.le_of_ble_eq_true rfl)) dX1_thinkAgain_15 ⟨Nat.le_of_ble_eq_true rfl, Nat.le_of_ble_eq_true rfl⟩) hS (fun q _ h => hFc q h) hFc (fun z_ u_ t H locs ht hvm hw hB hz1 hk1 hS => ?_)
    subst z_
    obtain ⟨hP1, hD1⟩ := hB
    rw [ht] at hP1
    have hJ := vb_join (ws' := (cwT cI h0 h1 h2 h3 h4 h5 tW)) hP hD [0, 1, 2, 3, 4, 5] [] [0, 1, 2, 3, 4, 5] rfl rfl (by decide) (by decide) hk1 hFc hP1 hD1 rfl (by decide) rfl
    clear hP hD hPc hDc hFc hP1 hD1 hk1 hz1 ht hvm hG
    obtain ⟨hP, hD⟩ := hJ
    have hPc := hP.sub (ws' := ([] : va_W)) [] rfl
    have hDc := hD.sub (ws' := ([] : va_W)) [] (by decide) rfl
    have hFc := va_free (wc := ([] : va_W)) hD hS hA [] rfl
    refine bd hF (fun r18 hG hF => ?_)
    refine va_calli (va_runS (As := [.int r15]) (rest := []) ⟨hx, hb, hml, hown, hts⟩ (c_J6_bitCount_0f7a4 l dC dI cI sf H.size N  r15 r18 hG) (va_cwS 1 hts gX1_thinkAgain_J6_bitCount_0f7a4 rfl rfl rfl (by decide +kernel) ⟨Nat.le_of_ble_eq_true rfl, Nat.le_of_ble_eq_true rfl⟩) ⟨fun a U g mk q => ⟨q.1, q.2.call⟩, fun U hU hW => ⟨rfl, PB.of hU hW hPc hK hDc hNN hSF hS hFc⟩⟩ rfl rfl hl.1 rfl (lv_room (Nat.le_of_ble_eq_true rfl)) dX1_thinkAgain_18 ⟨Nat.le_of_ble_eq_true rfl, Nat.le_of_ble_eq_true rfl⟩) hS (fun q _ h => hFc q h) hFc (fun z_ u_ t H locs ht hvm hw hB hz1 hk1 hS => ?_)
    subst z_
    obtain ⟨hP1, hD1⟩ := hB
    rw [ht] at hP1
    have hJ := vb_join (ws' := (cwT cI h0 h1 h2 h3 h4 h5 tW)) hP hD [] [0, 1, 2, 3, 4, 5] [0, 1, 2, 3, 4, 5] rfl rfl (by decide) (by decide) hk1 hFc hP1 hD1 rfl (by decide) rfl
    clear hP hD hPc hDc hFc hP1 hD1 hk1 hz1 ht hvm hG
    obtain ⟨hP, hD⟩ := hJ
    refine lv_istore (lv' := [(4, .int r18), (3, .int r3), (0, .ref h0), (1, .int p1), (2, .int p2)]) hx hb dX1_thinkAgain_21 hl (by decide) rfl (fun ls hl => ?_)
    refine lv_aload_n hx hb dX1_thinkAgain_23 rfl (lv_at hl 2 rfl) ?_
    refine lv_iload_n hx hb dX1_thinkAgain_24 rfl (lv_at hl 4 rfl) ?_
    have hPc := hP.sub (ws' := (cwT cI h0 h1 h2 h3 h4 h5 tW)) [0, 1, 2, 3, 4, 5] rfl
    have hDc := hD.sub (ws' := (cwT cI h0 h1 h2 h3 h4 h5 tW)) [0, 1, 2, 3, 4, 5] (by decide) rfl
    have hFc := va_free (wc := (cwT cI h0 h1 h2 h3 h4 h5 tW)) hD hS hA [0, 1, 2, 3, 4, 5] rfl
    refine bd hF (fun r25 hG hF => ?_)
    refine va_calli (va_runV (As := [.int p2]) (rest := []) ⟨hx, hb, hml, hown, hts⟩ (c_X1_livingNo l dC dI cI sf H.size N h0 h1 h2 h3 h4 h5 tW p2 r25 hG) (cwV 1 hts gX1_thinkAgain_X1_livingNo rfl rfl rfl (by decide +kernel) ⟨Nat.le_of_ble_eq_true rfl, Nat.le_of_ble_eq_true rfl⟩) ⟨fun a U g mk q => ⟨q.1, q.2.call⟩, va_recv hK hP (ci := 1) (q0 := 0) rfl rfl, fun U hU hW => ⟨rfl, PB.of hU hW hPc hK hDc hNN hSF hS hFc⟩⟩ rfl rfl hl.1 rfl (lv_room (Nat.le_of_ble_eq_true rfl)) dX1_thinkAgain_25 ⟨Nat.le_of_ble_eq_true rfl, Nat.le_of_ble_eq_true rfl⟩) hS (fun q _ h => hFc q h) hFc (fun z_ u_ t H locs ht hvm hw hB hz1 hk1 hS => ?_)
    subst z_
    obtain ⟨hP1, hD1⟩ := hB
    rw [ht] at hP1
    have hJ := vb_join (ws' := (cwT cI h0 h1 h2 h3 h4 h5 tW)) hP hD [0, 1, 2, 3, 4, 5] [] [0, 1, 2, 3, 4, 5] rfl rfl (by decide) (by decide) hk1 hFc hP1 hD1 rfl (by decide) rfl
    clear hP hD hPc hDc hFc hP1 hD1 hk1 hz1 ht hvm hG
    obtain ⟨hP, hD⟩ := hJ
    have hPc := hP.sub (ws' := ([] : va_W)) [] rfl
    have hDc := hD.sub (ws' := ([] : va_W)) [] (by decide) rfl
    have hFc := va_free (wc := ([] : va_W)) hD hS hA [] rfl
    refine bd hF (fun r28 hG hF => ?_)
    refine va_calli (va_runS (As := [.int r25]) (rest := []) ⟨hx, hb, hml, hown, hts⟩ (c_J6_bitCount_0f7a4 l dC dI cI sf H.size N  r25 r28 hG) (va_cwS 1 hts gX1_thinkAgain_J6_bitCount_0f7a4 rfl rfl rfl (by decide +kernel) ⟨Nat.le_of_ble_eq_true rfl, Nat.le_of_ble_eq_true rfl⟩) ⟨fun a U g mk q => ⟨q.1, q.2.call⟩, fun U hU hW => ⟨rfl, PB.of hU hW hPc hK hDc hNN hSF hS hFc⟩⟩ rfl rfl hl.1 rfl (lv_room (Nat.le_of_ble_eq_true rfl)) dX1_thinkAgain_28 ⟨Nat.le_of_ble_eq_true rfl, Nat.le_of_ble_eq_true rfl⟩) hS (fun q _ h => hFc q h) hFc (fun z_ u_ t H locs ht hvm hw hB hz1 hk1 hS => ?_)
    subst z_
    obtain ⟨hP1, hD1⟩ := hB
    rw [ht] at hP1
    have hJ := vb_join (ws' := (cwT cI h0 h1 h2 h3 h4 h5 tW)) hP hD [] [0, 1, 2, 3, 4, 5] [0, 1, 2, 3, 4, 5] rfl rfl (by decide) (by decide) hk1 hFc hP1 hD1 rfl (by decide) rfl
    clear hP hD hPc hDc hFc hP1 hD1 hk1 hz1 ht hvm hG
    obtain ⟨hP, hD⟩ := hJ
    refine lv_istore (lv' := [(5, .int r28), (4, .int r18), (3, .int r3), (0, .ref h0), (1, .int p1), (2, .int p2)]) hx hb dX1_thinkAgain_31 hl (by decide) rfl (fun ls hl => ?_)
    refine lv_iload_n hx hb dX1_thinkAgain_33 rfl (lv_at hl 2 rfl) ?_
    refine lv_iconst (v := nI 1) hx hb dX1_thinkAgain_34 (by decide) ?_
    refine vW_have (fun R av Q => ∀ (tW : TownS) (x1 : Int32) (x2 : Int32) (x3 : Int32) (x4 : Int32) (x5 : Int32) (z0 : Int32) (H : Heap) (locs : List Loc) (ls : Array Slot), F_X1_thinkAgain_45 N tW x1 x2 x3 x4 x5 z0 = some r → va_P (dC, dI) vwCl (cwT cI h0 h1 h2 h3 h4 h5 tW) H → va_D A (cwT cI h0 h1 h2 h3 h4 h5 tW) → va_S A s.heap H locs → lv_has ls 9 [(0, .ref h0), (1, .int x1), (2, .int x2), (3, .int x3), (4, .int x4), (5, .int x5)] → W p l e R s m av below meth c H locs 0 0 Q (F0 m 45 ls [.int z0])) ?_ (fun kJ45 => ?_)
    · 
      intro tW x1 x2 x3 x4 x5 z0 H locs ls hF hP hD hS hl
      rw [F_X1_thinkAgain_45] at hF
      refine lv_istore (lv' := [(6, .int z0), (0, .ref h0), (1, .int x1), (2, .int x2), (3, .int x3), (4, .int x4), (5, .int x5)]) hx hb dX1_thinkAgain_45 hl (by decide) rfl (fun ls hl => ?_)
      refine lv_iload_n hx hb dX1_thinkAgain_47 rfl (lv_at hl 4 rfl) ?_
      refine lv_iconst (v := nI 1) hx hb dX1_thinkAgain_48 (by decide) ?_
      refine vW_have (fun R av Q => ∀ (tW : TownS) (x1 : Int32) (x2 : Int32) (x3 : Int32) (x6 : Int32) (z0 : Int32) (H : Heap) (locs : List Loc) (ls : Array Slot), F_X1_thinkAgain_59 N tW x1 x2 x3 x6 z0 = some r → va_P (dC, dI) vwCl (cwT cI h0 h1 h2 h3 h4 h5 tW) H → va_D A (cwT cI h0 h1 h2 h3 h4 h5 tW) → va_S A s.heap H locs → lv_has ls 9 [(0, .ref h0), (1, .int x1), (2, .int x2), (3, .int x3), (6, .int x6)] → W p l e R s m av below meth c H locs 0 0 Q (F0 m 59 ls [.int z0])) ?_ (fun kJ59 => ?_)
      · 
        intro tW x1 x2 x3 x6 z0 H locs ls hF hP hD hS hl
        rw [F_X1_thinkAgain_59] at hF
        refine lv_istore (lv' := [(7, .int z0), (0, .ref h0), (1, .int x1), (2, .int x2), (3, .int x3), (6, .int x6)]) hx hb dX1_thinkAgain_59 hl (by decide) rfl (fun ls hl => ?_)
        refine lv_aload_n hx hb dX1_thinkAgain_61 rfl (lv_at hl 1 rfl) ?_
        refine lv_iload_n hx hb dX1_thinkAgain_62 rfl (lv_at hl 2 rfl) ?_
        refine lv_iload hx hb dX1_thinkAgain_63 (lv_at hl 5 rfl) ?_
        refine lv_iload hx hb dX1_thinkAgain_65 (lv_at hl 0 rfl) ?_
        have hPc := hP.sub (ws' := (cwT cI h0 h1 h2 h3 h4 h5 tW)) [0, 1, 2, 3, 4, 5] rfl
        have hDc := hD.sub (ws' := (cwT cI h0 h1 h2 h3 h4 h5 tW)) [0, 1, 2, 3, 4, 5] (by decide) rfl
        have hFc := va_free (wc := (cwT cI h0 h1 h2 h3 h4 h5 tW)) hD hS hA [0, 1, 2, 3, 4, 5] rfl
        refine bd hF (fun r67 hG hF => ?_)
        refine va_calli (va_runV (As := [.int x1, .int x6, .int z0]) (rest := []) ⟨hx, hb, hml, hown, hts⟩ (c_X1_deedOf l dC dI cI sf H.size N h0 h1 h2 h3 h4 h5 tW x1 x6 z0 r67 hG) (cwV 3 hts gX1_thinkAgain_X1_deedOf rfl rfl rfl (by decide +kernel) ⟨Nat.le_of_ble_eq_true rfl, Nat.le_of_ble_eq_true rfl⟩) ⟨fun a U g mk q => ⟨q.1, q.2.call⟩, va_recv hK hP (ci := 1) (q0 := 0) rfl rfl, fun U hU hW => ⟨rfl, PB.of hU hW hPc hK hDc hNN hSF hS hFc⟩⟩ rfl rfl hl.1 rfl (lv_room (Nat.le_of_ble_eq_true rfl)) dX1_thinkAgain_67 ⟨Nat.le_of_ble_eq_true rfl, Nat.le_of_ble_eq_true rfl⟩) hS (fun q _ h => hFc q h) hFc (fun z_ u_ t H locs ht hvm hw hB hz1 hk1 hS => ?_)
        subst z_
        obtain ⟨hP1, hD1⟩ := hB
        rw [ht] at hP1
        have hJ := vb_join (ws' := (cwT cI h0 h1 h2 h3 h4 h5 tW)) hP hD [0, 1, 2, 3, 4, 5] [] [0, 1, 2, 3, 4, 5] rfl rfl (by decide) (by decide) hk1 hFc hP1 hD1 rfl (by decide) rfl
        clear hP hD hPc hDc hFc hP1 hD1 hk1 hz1 ht hvm hG
        obtain ⟨hP, hD⟩ := hJ
        refine lv_istore (lv' := [(8, .int r67), (7, .int z0), (0, .ref h0), (1, .int x1), (2, .int x2), (3, .int x3), (6, .int x6)]) hx hb dX1_thinkAgain_70 hl (by decide) rfl (fun ls hl => ?_)
        refine lv_iload hx hb dX1_thinkAgain_72 (lv_at hl 0 rfl) ?_
        refine lv_if_ne (tgt := 79) hx hb dX1_thinkAgain_74 (by decide) (fun hc => ?_) (fun hc => ?_)
        · have hF := ift hc hF
          refine lv_aload_n hx hb dX1_thinkAgain_79 rfl (lv_at hl 2 rfl) ?_
          refine lv_iload_n hx hb dX1_thinkAgain_80 rfl (lv_at hl 3 rfl) ?_
          refine lv_iload_n hx hb dX1_thinkAgain_81 rfl (lv_at hl 4 rfl) ?_
          refine lv_iload hx hb dX1_thinkAgain_82 (lv_at hl 0 rfl) ?_
          refine lv_iconst (v := nI 1) hx hb dX1_thinkAgain_84 (by decide) ?_
          refine vW_have (fun R av Q => ∀ (tW : TownS) (z1 : Int32) (z2 : Int32) (z3 : Int32) (H : Heap) (locs : List Loc) (ls : Array Slot), F_X1_thinkAgain_95 N tW z1 z2 z3 = some r → va_P (dC, dI) vwCl (cwT cI h0 h1 h2 h3 h4 h5 tW) H → va_D A (cwT cI h0 h1 h2 h3 h4 h5 tW) → va_S A s.heap H locs → lv_has ls 9 [] → W p l e R s m av below meth c H locs 0 0 Q (F0 m 95 ls [.int z3, .int z2, .int z1, .ref h0])) ?_ (fun kJ95 => ?_)
          · 
            intro tW z1 z2 z3 H locs ls hF hP hD hS hl
            rw [F_X1_thinkAgain_95] at hF
            have hPc := hP.sub (ws' := (cwT cI h0 h1 h2 h3 h4 h5 tW)) [0, 1, 2, 3, 4, 5] rfl
            have hDc := hD.sub (ws' := (cwT cI h0 h1 h2 h3 h4 h5 tW)) [0, 1, 2, 3, 4, 5] (by decide) rfl
            have hFc := va_free (wc := (cwT cI h0 h1 h2 h3 h4 h5 tW)) hD hS hA [0, 1, 2, 3, 4, 5] rfl
            refine bd hF (fun r95 hG hF => ?_)
            refine va_callv (va_runV (As := [.int z1, .int z2, .int z3]) (rest := []) ⟨hx, hb, hml, hown, hts⟩ (c_X1_put l dC dI cI sf H.size N h0 h1 h2 h3 h4 h5 tW z1 z2 z3 r95 hG) (cwV 3 hts gX1_thinkAgain_X1_put rfl rfl rfl (by decide +kernel) ⟨Nat.le_of_ble_eq_true rfl, Nat.le_of_ble_eq_true rfl⟩) ⟨fun a U g mk q => ⟨q.1, q.2.call⟩, va_recv hK hP (ci := 1) (q0 := 0) rfl rfl, fun U hU hW => ⟨rfl, PB.of hU hW hPc hK hDc hNN hSF hS hFc⟩⟩ rfl rfl hl.1 rfl (lv_room (Nat.le_of_ble_eq_true rfl)) dX1_thinkAgain_95 ⟨Nat.le_of_ble_eq_true rfl, Nat.le_of_ble_eq_true rfl⟩) hS (fun q _ h => hFc q h) hFc (fun u_ t H locs ht hvm hw hB hz1 hk1 hS => ?_)
            obtain ⟨hP1, hD1⟩ := hB
            rw [ht] at hP1
            have hJ := vb_join (ws' := (cwT cI h0 h1 h2 h3 h4 h5 r95)) hP hD [0, 1, 2, 3, 4, 5] [] [0, 1, 2, 3, 4, 5] rfl rfl (by decide) (by decide) hk1 hFc hP1 hD1 rfl (by decide) rfl
            clear hP hD hPc hDc hFc hP1 hD1 hk1 hz1 ht hvm hG
            obtain ⟨hP, hD⟩ := hJ
            refine lv_iconst (v := nI 1) hx hb dX1_thinkAgain_98 (by decide) ?_
            obtain rfl := Option.some.inj hF
            exact W.zret (v := (nI 1)) (ty := .boolean) hx hb hr (by decide +kernel) (fun t ht hW => ⟨⟨(nI 1), (), rfl, rfl, QB.of ht hP hD⟩, hS.F ht⟩) hS.2.2 dX1_thinkAgain_99
          refine lv_icmp_ne (tgt := 92) hx hb dX1_thinkAgain_85 (by decide) (fun hc => ?_) (fun hc => ?_)
          · have hF := ift hc hF
            refine lv_iconst (v := nI 3) hx hb dX1_thinkAgain_92 (by decide) ?_
            refine lv_iload_n hx hb dX1_thinkAgain_93 rfl (lv_at hl 5 rfl) ?_
            refine lv_isub hx hb dX1_thinkAgain_94 ?_
            exact kJ95 tW x1 x2 ((nI 3) - x3) _ _ _ hF hP hD hS (lv_sub hl [] rfl)
          · have hF := iff_ (fun h => h hc) hF
            refine lv_iconst (v := nI 0) hx hb dX1_thinkAgain_88 (by decide) ?_
            refine lv_goto (tgt := 95) hx hb dX1_thinkAgain_89 (by decide) ?_
            exact kJ95 tW x1 x2 (nI 0) _ _ _ hF hP hD hS (lv_sub hl [] rfl)
        · have hF := iff_ (fun h => h hc) hF
          refine lv_iconst (v := nI 0) hx hb dX1_thinkAgain_77 (by decide) ?_
          obtain rfl := Option.some.inj hF
          exact W.zret (v := (nI 0)) (ty := .boolean) hx hb hr (by decide +kernel) (fun t ht hW => ⟨⟨(nI 0), (), rfl, rfl, QB.of ht hP hD⟩, hS.F ht⟩) hS.2.2 dX1_thinkAgain_78
      refine lv_icmp_ne (tgt := 57) hx hb dX1_thinkAgain_49 (by decide) (fun hc => ?_) (fun hc => ?_)
      · have hF := ift hc hF
        refine lv_iload hx hb dX1_thinkAgain_57 (lv_at hl 5 rfl) ?_
        exact kJ59 tW x1 x2 x3 z0 x4 _ _ _ hF hP hD hS (lv_sub hl [1, 2, 3, 4, 0] rfl)
      · have hF := iff_ (fun h => h hc) hF
        refine lv_iload hx hb dX1_thinkAgain_52 (lv_at hl 6 rfl) ?_
        refine lv_goto (tgt := 59) hx hb dX1_thinkAgain_54 (by decide) ?_
        exact kJ59 tW x1 x2 x3 z0 x5 _ _ _ hF hP hD hS (lv_sub hl [1, 2, 3, 4, 0] rfl)
    refine lv_icmp_ne (tgt := 43) hx hb dX1_thinkAgain_35 (by decide) (fun hc => ?_) (fun hc => ?_)
    · have hF := ift hc hF
      refine lv_iload hx hb dX1_thinkAgain_43 (lv_at hl 0 rfl) ?_
      exact kJ45 tW p1 p2 r3 r18 r28 r28 _ _ _ hF hP hD hS (lv_sub hl [3, 4, 5, 2, 1, 0] rfl)
    · have hF := iff_ (fun h => h hc) hF
      refine lv_iload hx hb dX1_thinkAgain_38 (lv_at hl 1 rfl) ?_
      refine lv_goto (tgt := 45) hx hb dX1_thinkAgain_40 (by decide) ?_
      exact kJ45 tW p1 p2 r3 r18 r28 r18 _ _ _ hF hP hD hS (lv_sub hl [3, 4, 5, 2, 1, 0] rfl)
  · have hF := iff_ (fun h => h hc) hF
    refine lv_iconst (v := nI 0) hx hb dX1_thinkAgain_11 (by decide) ?_
    obtain rfl := Option.some.inj hF
    exact W.zret (v := (nI 0)) (ty := .boolean) hx hb hr (by decide +kernel) (fun t ht hW => ⟨⟨(nI 0), (), rfl, rfl, QB.of ht hP hD⟩, hS.F ht⟩) hS.2.2 dX1_thinkAgain_12
theorem inw_X1_passOne_X1 : ∀ w ∈ u_ws RX1 TX1 8, w ∈ wsX1_passOne := fun _ h => List.mem_cons_of_mem _ (List.mem_append_right _ h)
set_option maxHeartbeats 4000000 in
set_option maxRecDepth 100000 in
theorem c_X1_passOne (l : Launch) (dC : Nat → ClassId) (dI : Nat → Nat → Nat) (cI : ClassId) (sf : SFP) (sz : Nat) (N : Nat) (h0 h1 h2 h3 h4 h5 : Nat) (tW : TownS) (p1 : Int32) (p2 : Int32) (r : (Int32 × TownS)) (hF : F_X1_passOne N tW p1 p2 = some r) : Met l yX1_passOne wsX1_passOne ({ frames := 3, cells := 0, slots := 0, locals := 73 }) (va_Pc [.ref h0, .int p1, .int p2] (PB (dC, dI) cI (cwT cI h0 h1 h2 h3 h4 h5 tW) sz sf)) (va_Qi (fun (z : Int32) (_ : Unit) => z = r.1) (fun _ t => QB (dC, dI) (cwT cI h0 h1 h2 h3 h4 h5 r.2) (va_A (cwT cI h0 h1 h2 h3 h4 h5 tW) sz) t) (va_A (cwT cI h0 h1 h2 h3 h4 h5 tW) sz)) 0 0 (va_A (cwT cI h0 h1 h2 h3 h4 h5 tW) sz) := by
  refine Met.ofW (cc := cX1_passOne) (maxL := 7) (ret := (some .boolean)) (by decide) rfl ?_
  intro p e s m args below meth c s₁ B hml hv
  obtain ⟨rfl, hsz, hP, hK, hD0, hNN, hSF⟩ := hv
  have hx := B.exec
  have hb := B.bytes
  have hr := B.returns
  have hts := atoms_spec (ws := wsX1_passOne) B.pre
  have hown : s.vm.findClass RX1 = some m.cls := findClass_of_methodNamed B.named
  have hlocks := B.notSynchronized
  subst hsz
  have hD := hD0.self (sz := s.heap.size)
  generalize hAe : va_A (cwT cI h0 h1 h2 h3 h4 h5 tW) s.heap.size = A at hD hSF ⊢
  have hA : ∀ q : Nat, s.heap.size ≤ q → A q := fun q h => by rw [← hAe]; exact Or.inr h
  clear hAe hD0
  have hS : va_S A s.heap s.heap [] := va_S.rf
  have hl := lv_entry ([.ref h0, .int p1, .int p2]) (n := 7) (Nat.le_of_ble_eq_true rfl)
  rw [lg_entry_eq]
  generalize (lg_sl ([.ref h0, .int p1, .int p2]) ++ List.replicate (7 - (lg_sl ([.ref h0, .int p1, .int p2])).length) Slot.unset).toArray = ls at hl ⊢
  have hl : lv_has ls 7 [(0, .ref h0), (1, .int p1), (2, .int p2)] := hl
  rw [F_X1_passOne] at hF
  refine lv_aload_n hx hb dX1_passOne_0 rfl (lv_at hl 0 rfl) ?_
  refine va_get (D := (dC, dI)) (ci := 1) (v := .int tW.2.2.2.2.2.2.1) (C := RX1) (T := TX1) (N := 8) hx hb hts inw_X1_passOne_X1 hown hK hP 0 rfl rfl 6 (by decide) (hts (.fieldLink RX1 31 "DeniedOfEachOther$Town" "living" "I") (List.mem_of_getElem? (i := 1) rfl)) (fun _ h9 => h9) rfl dX1_passOne_1 ?_
  refine lv_istore_n (lv' := [(3, .int tW.2.2.2.2.2.2.1), (0, .ref h0), (1, .int p1), (2, .int p2)]) hx hb dX1_passOne_4 rfl hl (by decide) rfl (fun ls hl => ?_)
  refine lv_aload_n hx hb dX1_passOne_5 rfl (lv_at hl 1 rfl) ?_
  refine lv_dup hx hb dX1_passOne_6 rfl ?_
  refine va_get (D := (dC, dI)) (ci := 1) (v := .int tW.2.2.2.2.2.2.2) (C := RX1) (T := TX1) (N := 8) hx hb hts inw_X1_passOne_X1 hown hK hP 0 rfl rfl 7 (by decide) (hts (.fieldLink RX1 34 "DeniedOfEachOther$Town" "year" "I") (List.mem_of_getElem? (i := 2) rfl)) (fun _ h9 => h9) rfl dX1_passOne_7 ?_
  refine lv_iconst (v := nI 1) hx hb dX1_passOne_10 (by decide) ?_
  refine lv_iadd hx hb dX1_passOne_11 ?_
  refine va_put (D := (dC, dI)) (ci := 1) (v := .int (tW.2.2.2.2.2.2.2 + (nI 1))) (ty := .int) (C := RX1) (T := TX1) (N := 8) hx hb hts inw_X1_passOne_X1 tyX1 tyX1_ok nmX1 hown hK hP hD hS 0 rfl rfl 7 (by decide) (hts (.fieldLink RX1 34 "DeniedOfEachOther$Town" "year" "I") (List.mem_of_getElem? (i := 2) rfl)) (fun _ h9 => h9) rfl (by decide +kernel) rfl rfl (Nat.le_of_ble_eq_true rfl) dX1_passOne_12 (fun H locs hP hD hS => ?_)
  have hP : va_P (dC, dI) vwCl (cwT cI h0 h1 h2 h3 h4 h5 (tW.1, tW.2.1, tW.2.2.1, tW.2.2.2.1, tW.2.2.2.2.1, tW.2.2.2.2.2.1, tW.2.2.2.2.2.2.1, (tW.2.2.2.2.2.2.2 + (nI 1)))) H := hP
  have hD : va_D A (cwT cI h0 h1 h2 h3 h4 h5 (tW.1, tW.2.1, tW.2.2.1, tW.2.2.2.1, tW.2.2.2.2.1, tW.2.2.2.2.2.1, tW.2.2.2.2.2.2.1, (tW.2.2.2.2.2.2.2 + (nI 1)))) := hD
  refine lv_aload_n hx hb dX1_passOne_15 rfl (lv_at hl 1 rfl) ?_
  refine lv_iconst (v := nI 1) hx hb dX1_passOne_16 (by decide) ?_
  have hPc := hP.sub (ws' := (cwT cI h0 h1 h2 h3 h4 h5 (tW.1, tW.2.1, tW.2.2.1, tW.2.2.2.1, tW.2.2.2.2.1, tW.2.2.2.2.2.1, tW.2.2.2.2.2.2.1, (tW.2.2.2.2.2.2.2 + (nI 1))))) [0, 1, 2, 3, 4, 5] rfl
  have hDc := hD.sub (ws' := (cwT cI h0 h1 h2 h3 h4 h5 (tW.1, tW.2.1, tW.2.2.1, tW.2.2.2.1, tW.2.2.2.2.1, tW.2.2.2.2.2.1, tW.2.2.2.2.2.2.1, (tW.2.2.2.2.2.2.2 + (nI 1))))) [0, 1, 2, 3, 4, 5] (by decide) rfl
  have hFc := va_free (wc := (cwT cI h0 h1 h2 h3 h4 h5 (tW.1, tW.2.1, tW.2.2.1, tW.2.2.2.1, tW.2.2.2.2.1, tW.2.2.2.2.2.1, tW.2.2.2.2.2.2.1, (tW.2.2.2.2.2.2.2 + (nI 1))))) hD hS hA [0, 1, 2, 3, 4, 5] rfl
  refine bd hF (fun r17 hG hF => ?_)
  refine va_callv (va_runV (As := [.int (nI 1)]) (rest := []) ⟨hx, hb, hml, hown, hts⟩ (c_X1_growOlder l dC dI cI sf H.size N h0 h1 h2 h3 h4 h5 (tW.1, tW.2.1, tW.2.2.1, tW.2.2.2.1, tW.2.2.2.2.1, tW.2.2.2.2.2.1, tW.2.2.2.2.2.2.1, (tW.2.2.2.2.2.2.2 + (nI 1))) (nI 1) r17 hG) (cwV 1 hts gX1_passOne_X1_growOlder rfl rfl rfl (by decide +kernel) ⟨Nat.le_of_ble_eq_true rfl, Nat.le_of_ble_eq_true rfl⟩) ⟨fun a U g mk q => ⟨q.1, q.2.call⟩, va_recv hK hP (ci := 1) (q0 := 0) rfl rfl, fun U hU hW => ⟨rfl, PB.of hU hW hPc hK hDc hNN hSF hS hFc⟩⟩ rfl rfl hl.1 rfl (lv_room (Nat.le_of_ble_eq_true rfl)) dX1_passOne_17 ⟨Nat.le_of_ble_eq_true rfl, Nat.le_of_ble_eq_true rfl⟩) hS (fun q _ h => hFc q h) hFc (fun u_ t H locs ht hvm hw hB hz1 hk1 hS => ?_)
  obtain ⟨hP1, hD1⟩ := hB
  rw [ht] at hP1
  have hJ := vb_join (ws' := (cwT cI h0 h1 h2 h3 h4 h5 r17)) hP hD [0, 1, 2, 3, 4, 5] [] [0, 1, 2, 3, 4, 5] rfl rfl (by decide) (by decide) hk1 hFc hP1 hD1 rfl (by decide) rfl
  clear hP hD hPc hDc hFc hP1 hD1 hk1 hz1 ht hvm hG
  obtain ⟨hP, hD⟩ := hJ
  refine lv_aload_n hx hb dX1_passOne_20 rfl (lv_at hl 1 rfl) ?_
  have hPc := hP.sub (ws' := (cwT cI h0 h1 h2 h3 h4 h5 r17)) [0, 1, 2, 3, 4, 5] rfl
  have hDc := hD.sub (ws' := (cwT cI h0 h1 h2 h3 h4 h5 r17)) [0, 1, 2, 3, 4, 5] (by decide) rfl
  have hFc := va_free (wc := (cwT cI h0 h1 h2 h3 h4 h5 r17)) hD hS hA [0, 1, 2, 3, 4, 5] rfl
  refine bd hF (fun r21 hG hF => ?_)
  refine va_callv (va_runV (As := []) (rest := []) ⟨hx, hb, hml, hown, hts⟩ (c_X1_buryTheOld l dC dI cI sf H.size N h0 h1 h2 h3 h4 h5 r17 r21 hG) (cwV 0 hts gX1_passOne_X1_buryTheOld rfl rfl rfl (by decide +kernel) ⟨Nat.le_of_ble_eq_true rfl, Nat.le_of_ble_eq_true rfl⟩) ⟨fun a U g mk q => ⟨q.1, q.2.call⟩, va_recv hK hP (ci := 1) (q0 := 0) rfl rfl, fun U hU hW => ⟨rfl, PB.of hU hW hPc hK hDc hNN hSF hS hFc⟩⟩ rfl rfl hl.1 rfl (lv_room (Nat.le_of_ble_eq_true rfl)) dX1_passOne_21 ⟨Nat.le_of_ble_eq_true rfl, Nat.le_of_ble_eq_true rfl⟩) hS (fun q _ h => hFc q h) hFc (fun u_ t H locs ht hvm hw hB hz1 hk1 hS => ?_)
  obtain ⟨hP1, hD1⟩ := hB
  rw [ht] at hP1
  have hJ := vb_join (ws' := (cwT cI h0 h1 h2 h3 h4 h5 r21)) hP hD [0, 1, 2, 3, 4, 5] [] [0, 1, 2, 3, 4, 5] rfl rfl (by decide) (by decide) hk1 hFc hP1 hD1 rfl (by decide) rfl
  clear hP hD hPc hDc hFc hP1 hD1 hk1 hz1 ht hvm hG
  obtain ⟨hP, hD⟩ := hJ
  refine lv_aload_n hx hb dX1_passOne_24 rfl (lv_at hl 1 rfl) ?_
  refine va_get (D := (dC, dI)) (ci := 1) (v := .int r21.2.2.2.2.2.2.1) (C := RX1) (T := TX1) (N := 8) hx hb hts inw_X1_passOne_X1 hown hK hP 0 rfl rfl 6 (by decide) (hts (.fieldLink RX1 31 "DeniedOfEachOther$Town" "living" "I") (List.mem_of_getElem? (i := 1) rfl)) (fun _ h9 => h9) rfl dX1_passOne_25 ?_
  refine lv_iload_n hx hb dX1_passOne_28 rfl (lv_at hl 0 rfl) ?_
  refine vW_have (fun R av Q => ∀ (tW : TownS) (x1 : Int32) (x2 : Int32) (z0 : Int32) (H : Heap) (locs : List Loc) (ls : Array Slot), F_X1_passOne_37 N tW x1 x2 z0 = some r → va_P (dC, dI) vwCl (cwT cI h0 h1 h2 h3 h4 h5 tW) H → va_D A (cwT cI h0 h1 h2 h3 h4 h5 tW) → va_S A s.heap H locs → lv_has ls 7 [(0, .ref h0), (1, .int x1), (2, .int x2)] → W p l e R s m av below meth c H locs 0 0 Q (F0 m 37 ls [.int z0])) ?_ (fun kJ37 => ?_)
  · 
    intro tW x1 x2 z0 H locs ls hF hP hD hS hl
    rw [F_X1_passOne_37] at hF
    refine lv_istore (lv' := [(4, .int z0), (0, .ref h0), (1, .int x1), (2, .int x2)]) hx hb dX1_passOne_37 hl (by decide) rfl (fun ls hl => ?_)
    refine lv_iconst (v := nI 0) hx hb dX1_passOne_39 (by decide) ?_
    refine vW_have (fun R av Q => ∀ (n42 : Nat) (tW : TownS) (x1 : Int32) (x2 : Int32) (x4 : Int32) (x5 : Int32) (H : Heap) (locs : List Loc) (ls : Array Slot), F_X1_passOne_42 N n42 tW x1 x2 x4 x5 = some r → va_P (dC, dI) vwCl (cwT cI h0 h1 h2 h3 h4 h5 tW) H → va_D A (cwT cI h0 h1 h2 h3 h4 h5 tW) → va_S A s.heap H locs → lv_has ls 7 [(0, .ref h0), (1, .int x1), (2, .int x2), (4, .int x4), (5, .int x5)] → W p l e R s m av below meth c H locs 0 0 Q (F0 m 42 ls [])) ?_ (fun kJ42 => ?_)
    · intro n42
      induction n42 with
      | zero => intro tW x1 x2 x4 x5 H locs ls hF; exact nn hF
      | succ n42 ih42 =>
        intro tW x1 x2 x4 x5 H locs ls hF hP hD hS hl
        rw [F_X1_passOne_42] at hF
        refine lv_iload hx hb dX1_passOne_42 (lv_at hl 4 rfl) ?_
        refine lv_aload_n hx hb dX1_passOne_44 rfl (lv_at hl 0 rfl) ?_
        refine va_get (D := (dC, dI)) (ci := 1) (v := .int tW.2.2.2.2.2.1) (C := RX1) (T := TX1) (N := 8) hx hb hts inw_X1_passOne_X1 hown hK hP 0 rfl rfl 5 (by decide) (hts (.fieldLink RX1 27 "DeniedOfEachOther$Town" "size" "I") (List.mem_of_getElem? (i := 3) rfl)) (fun _ h9 => h9) rfl dX1_passOne_45 ?_
        refine lv_icmp_ge (tgt := 98) hx hb dX1_passOne_48 (by decide) (fun hc => ?_) (fun hc => ?_)
        · have hF := ift hc hF
          refine lv_iload hx hb dX1_passOne_98 (lv_at hl 3 rfl) ?_
          refine ckb hF (fun hB hF => ?_)
          obtain rfl := Option.some.inj hF
          exact W.zret (v := x4) (ty := .boolean) hx hb hr hB.1 (fun t ht hW => ⟨⟨x4, (), rfl, rfl, QB.of ht hP hD⟩, hS.F ht⟩) hS.2.2 dX1_passOne_100
        · have hF := iff_ hc hF
          refine lv_aload_n hx hb dX1_passOne_51 rfl (lv_at hl 0 rfl) ?_
          refine lv_iload hx hb dX1_passOne_52 (lv_at hl 4 rfl) ?_
          have hPc := hP.sub (ws' := (cwT cI h0 h1 h2 h3 h4 h5 tW)) [0, 1, 2, 3, 4, 5] rfl
          have hDc := hD.sub (ws' := (cwT cI h0 h1 h2 h3 h4 h5 tW)) [0, 1, 2, 3, 4, 5] (by decide) rfl
          have hFc := va_free (wc := (cwT cI h0 h1 h2 h3 h4 h5 tW)) hD hS hA [0, 1, 2, 3, 4, 5] rfl
          refine bd hF (fun r54 hG hF => ?_)
          refine va_calli (va_runV (As := [.int x5]) (rest := []) ⟨hx, hb, hml, hown, hts⟩ (c_X1_isLiving l dC dI cI sf H.size N h0 h1 h2 h3 h4 h5 tW x5 r54 hG) (cwV 1 hts gX1_passOne_X1_isLiving rfl rfl rfl (by decide +kernel) ⟨Nat.le_of_ble_eq_true rfl, Nat.le_of_ble_eq_true rfl⟩) ⟨fun a U g mk q => ⟨q.1, q.2.call⟩, va_recv hK hP (ci := 1) (q0 := 0) rfl rfl, fun U hU hW => ⟨rfl, PB.of hU hW hPc hK hDc hNN hSF hS hFc⟩⟩ rfl rfl hl.1 rfl (lv_room (Nat.le_of_ble_eq_true rfl)) dX1_passOne_54 ⟨Nat.le_of_ble_eq_true rfl, Nat.le_of_ble_eq_true rfl⟩) hS (fun q _ h => hFc q h) hFc (fun z_ u_ t H locs ht hvm hw hB hz1 hk1 hS => ?_)
          subst z_
          obtain ⟨hP1, hD1⟩ := hB
          rw [ht] at hP1
          have hJ := vb_join (ws' := (cwT cI h0 h1 h2 h3 h4 h5 tW)) hP hD [0, 1, 2, 3, 4, 5] [] [0, 1, 2, 3, 4, 5] rfl rfl (by decide) (by decide) hk1 hFc hP1 hD1 rfl (by decide) rfl
          clear hP hD hPc hDc hFc hP1 hD1 hk1 hz1 ht hvm hG
          obtain ⟨hP, hD⟩ := hJ
          refine vW_have (fun R av Q => ∀ (tW : TownS) (x1 : Int32) (x2 : Int32) (x4 : Int32) (x5 : Int32) (H : Heap) (locs : List Loc) (ls : Array Slot), F_X1_passOne_92 N (fun ctW cx1 cx2 cx4 cx5 => F_X1_passOne_42 N n42 ctW cx1 cx2 cx4 cx5) tW x1 x2 x4 x5 = some r → va_P (dC, dI) vwCl (cwT cI h0 h1 h2 h3 h4 h5 tW) H → va_D A (cwT cI h0 h1 h2 h3 h4 h5 tW) → va_S A s.heap H locs → lv_has ls 7 [(0, .ref h0), (1, .int x1), (2, .int x2), (4, .int x4), (5, .int x5)] → W p l e R s m av below meth c H locs 0 0 Q (F0 m 92 ls [])) ?_ (fun kJ92 => ?_)
          · 
            intro tW x1 x2 x4 x5 H locs ls hF hP hD hS hl
            rw [F_X1_passOne_92] at hF
            refine lv_iinc (v := x5 + (nI 1)) (lv' := [(5, .int (x5 + (nI 1))), (0, .ref h0), (1, .int x1), (2, .int x2), (4, .int x4)]) hx hb dX1_passOne_92 hl (k := 4) rfl (by rfl) (by decide) rfl (fun ls hl => ?_)
            refine lv_goto (tgt := 42) hx hb dX1_passOne_95 (by decide) ?_
            exact ih42 tW x1 x2 x4 (x5 + (nI 1)) _ _ _ hF hP hD hS (lv_sub hl [1, 2, 3, 4, 0] rfl)
          refine lv_if_ne (tgt := 63) hx hb dX1_passOne_57 (by decide) (fun hc => ?_) (fun hc => ?_)
          · have hF := ift hc hF
            refine lv_iload_n hx hb dX1_passOne_63 rfl (lv_at hl 1 rfl) ?_
            refine vW_have (fun R av Q => ∀ (n66 : Nat) (tW : TownS) (x1 : Int32) (x2 : Int32) (x4 : Int32) (x5 : Int32) (x6 : Int32) (H : Heap) (locs : List Loc) (ls : Array Slot), F_X1_passOne_66 N (fun ctW cx1 cx2 cx4 cx5 => F_X1_passOne_42 N n42 ctW cx1 cx2 cx4 cx5) n66 tW x1 x2 x4 x5 x6 = some r → va_P (dC, dI) vwCl (cwT cI h0 h1 h2 h3 h4 h5 tW) H → va_D A (cwT cI h0 h1 h2 h3 h4 h5 tW) → va_S A s.heap H locs → lv_has ls 7 [(0, .ref h0), (1, .int x1), (2, .int x2), (4, .int x4), (5, .int x5), (6, .int x6)] → W p l e R s m av below meth c H locs 0 0 Q (F0 m 66 ls [])) ?_ (fun kJ66 => ?_)
            · intro n66
              induction n66 with
              | zero => intro tW x1 x2 x4 x5 x6 H locs ls hF; exact nn hF
              | succ n66 ih66 =>
                intro tW x1 x2 x4 x5 x6 H locs ls hF hP hD hS hl
                rw [F_X1_passOne_66] at hF
                refine lv_iload hx hb dX1_passOne_66 (lv_at hl 5 rfl) ?_
                refine lv_iload_n hx hb dX1_passOne_68 rfl (lv_at hl 2 rfl) ?_
                refine lv_icmp_ge (tgt := 92) hx hb dX1_passOne_69 (by decide) (fun hc => ?_) (fun hc => ?_)
                · have hF := ift hc hF
                  exact kJ92 tW x1 x2 x4 x5 _ _ _ hF hP hD hS (lv_sub hl [0, 1, 2, 3, 4] rfl)
                · have hF := iff_ hc hF
                  refine lv_aload_n hx hb dX1_passOne_72 rfl (lv_at hl 0 rfl) ?_
                  refine lv_iload hx hb dX1_passOne_73 (lv_at hl 4 rfl) ?_
                  refine lv_iload hx hb dX1_passOne_75 (lv_at hl 5 rfl) ?_
                  have hPc := hP.sub (ws' := (cwT cI h0 h1 h2 h3 h4 h5 tW)) [0, 1, 2, 3, 4, 5] rfl
                  have hDc := hD.sub (ws' := (cwT cI h0 h1 h2 h3 h4 h5 tW)) [0, 1, 2, 3, 4, 5] (by decide) rfl
                  have hFc := va_free (wc := (cwT cI h0 h1 h2 h3 h4 h5 tW)) hD hS hA [0, 1, 2, 3, 4, 5] rfl
                  refine bd hF (fun r77 hG hF => ?_)
                  refine va_calli (va_runV (As := [.int x5, .int x6]) (rest := []) ⟨hx, hb, hml, hown, hts⟩ (c_X1_thinkAgain l dC dI cI sf H.size N h0 h1 h2 h3 h4 h5 tW x5 x6 r77 hG) (cwV 2 hts gX1_passOne_X1_thinkAgain rfl rfl rfl (by decide +kernel) ⟨Nat.le_of_ble_eq_true rfl, Nat.le_of_ble_eq_true rfl⟩) ⟨fun a U g mk q => ⟨q.1, q.2.call⟩, va_recv hK hP (ci := 1) (q0 := 0) rfl rfl, fun U hU hW => ⟨rfl, PB.of hU hW hPc hK hDc hNN hSF hS hFc⟩⟩ rfl rfl hl.1 rfl (lv_room (Nat.le_of_ble_eq_true rfl)) dX1_passOne_77 ⟨Nat.le_of_ble_eq_true rfl, Nat.le_of_ble_eq_true rfl⟩) hS (fun q _ h => hFc q h) hFc (fun z_ u_ t H locs ht hvm hw hB hz1 hk1 hS => ?_)
                  subst z_
                  obtain ⟨hP1, hD1⟩ := hB
                  rw [ht] at hP1
                  have hJ := vb_join (ws' := (cwT cI h0 h1 h2 h3 h4 h5 r77.2)) hP hD [0, 1, 2, 3, 4, 5] [] [0, 1, 2, 3, 4, 5] rfl rfl (by decide) (by decide) hk1 hFc hP1 hD1 rfl (by decide) rfl
                  clear hP hD hPc hDc hFc hP1 hD1 hk1 hz1 ht hvm hG
                  obtain ⟨hP, hD⟩ := hJ
                  refine vW_have (fun R av Q => ∀ (tW : TownS) (x1 : Int32) (x2 : Int32) (x4 : Int32) (x5 : Int32) (x6 : Int32) (H : Heap) (locs : List Loc) (ls : Array Slot), F_X1_passOne_86 N (fun ctW cx1 cx2 cx4 cx5 => F_X1_passOne_42 N n42 ctW cx1 cx2 cx4 cx5) (fun ctW cx1 cx2 cx4 cx5 cx6 => F_X1_passOne_66 N (fun ctW cx1 cx2 cx4 cx5 => F_X1_passOne_42 N n42 ctW cx1 cx2 cx4 cx5) n66 ctW cx1 cx2 cx4 cx5 cx6) tW x1 x2 x4 x5 x6 = some r → va_P (dC, dI) vwCl (cwT cI h0 h1 h2 h3 h4 h5 tW) H → va_D A (cwT cI h0 h1 h2 h3 h4 h5 tW) → va_S A s.heap H locs → lv_has ls 7 [(0, .ref h0), (1, .int x1), (2, .int x2), (4, .int x4), (5, .int x5), (6, .int x6)] → W p l e R s m av below meth c H locs 0 0 Q (F0 m 86 ls [])) ?_ (fun kJ86 => ?_)
                  · 
                    intro tW x1 x2 x4 x5 x6 H locs ls hF hP hD hS hl
                    rw [F_X1_passOne_86] at hF
                    refine lv_iinc (v := x6 + (nI 1)) (lv' := [(6, .int (x6 + (nI 1))), (0, .ref h0), (1, .int x1), (2, .int x2), (4, .int x4), (5, .int x5)]) hx hb dX1_passOne_86 hl (k := 5) rfl (by rfl) (by decide) rfl (fun ls hl => ?_)
                    refine lv_goto (tgt := 66) hx hb dX1_passOne_89 (by decide) ?_
                    exact ih66 tW x1 x2 x4 x5 (x6 + (nI 1)) _ _ _ hF hP hD hS (lv_sub hl [1, 2, 3, 4, 5, 0] rfl)
                  refine lv_if_eq (tgt := 86) hx hb dX1_passOne_80 (by decide) (fun hc => ?_) (fun hc => ?_)
                  · have hF := ift hc hF
                    exact kJ86 r77.2 x1 x2 x4 x5 x6 _ _ _ hF hP hD hS (lv_sub hl [0, 1, 2, 3, 4, 5] rfl)
                  · have hF := iff_ hc hF
                    refine lv_iconst (v := nI 1) hx hb dX1_passOne_83 (by decide) ?_
                    refine lv_istore (lv' := [(4, .int (nI 1)), (0, .ref h0), (1, .int x1), (2, .int x2), (5, .int x5), (6, .int x6)]) hx hb dX1_passOne_84 hl (by decide) rfl (fun ls hl => ?_)
                    exact kJ86 r77.2 x1 x2 (nI 1) x5 x6 _ _ _ hF hP hD hS (lv_sub hl [1, 2, 3, 0, 4, 5] rfl)
            refine lv_istore (lv' := [(6, .int x1), (0, .ref h0), (1, .int x1), (2, .int x2), (4, .int x4), (5, .int x5)]) hx hb dX1_passOne_64 hl (by decide) rfl (fun ls hl => ?_)
            exact kJ66 N tW x1 x2 x4 x5 x1 _ _ _ hF hP hD hS (lv_sub hl [1, 2, 3, 4, 5, 0] rfl)
          · have hF := iff_ (fun h => h hc) hF
            refine lv_goto (tgt := 92) hx hb dX1_passOne_60 (by decide) ?_
            exact kJ92 tW x1 x2 x4 x5 _ _ _ hF hP hD hS (lv_sub hl [0, 1, 2, 3, 4] rfl)
    refine lv_istore (lv' := [(5, .int (nI 0)), (4, .int z0), (0, .ref h0), (1, .int x1), (2, .int x2)]) hx hb dX1_passOne_40 hl (by decide) rfl (fun ls hl => ?_)
    exact kJ42 N tW x1 x2 z0 (nI 0) _ _ _ hF hP hD hS (lv_sub hl [2, 3, 4, 1, 0] rfl)
  refine lv_icmp_eq (tgt := 36) hx hb dX1_passOne_29 (by decide) (fun hc => ?_) (fun hc => ?_)
  · have hF := ift hc hF
    refine lv_iconst (v := nI 0) hx hb dX1_passOne_36 (by decide) ?_
    exact kJ37 r21 p1 p2 (nI 0) _ _ _ hF hP hD hS (lv_sub hl [1, 2, 3] rfl)
  · have hF := iff_ hc hF
    refine lv_iconst (v := nI 1) hx hb dX1_passOne_32 (by decide) ?_
    refine lv_goto (tgt := 37) hx hb dX1_passOne_33 (by decide) ?_
    exact kJ37 r21 p1 p2 (nI 1) _ _ _ hF hP hD hS (lv_sub hl [1, 2, 3] rfl)
theorem inw_X1_spend_X1 : ∀ w ∈ u_ws RX1 TX1 8, w ∈ wsX1_spend := fun _ h => List.mem_cons_of_mem _ (List.mem_append_right _ h)
set_option maxHeartbeats 4000000 in
set_option maxRecDepth 100000 in
theorem c_X1_spend (l : Launch) (dC : Nat → ClassId) (dI : Nat → Nat → Nat) (cI : ClassId) (sf : SFP) (sz : Nat) (N : Nat) (h0 h1 h2 h3 h4 h5 : Nat) (tW : TownS) (p1 : Int32) (r : (Int32 × TownS)) (hF : F_X1_spend N tW p1 = some r) : Met l yX1_spend wsX1_spend ({ frames := 4, cells := 0, slots := 0, locals := 99 }) (va_Pc [.ref h0, .int p1] (PB (dC, dI) cI (cwT cI h0 h1 h2 h3 h4 h5 tW) sz sf)) (va_Qi (fun (z : Int32) (_ : Unit) => z = r.1) (fun _ t => QB (dC, dI) (cwT cI h0 h1 h2 h3 h4 h5 r.2) (va_A (cwT cI h0 h1 h2 h3 h4 h5 tW) sz) t) (va_A (cwT cI h0 h1 h2 h3 h4 h5 tW) sz)) 0 0 (va_A (cwT cI h0 h1 h2 h3 h4 h5 tW) sz) := by
  refine Met.ofW (cc := cX1_spend) (maxL := 3) (ret := (some .boolean)) (by decide) rfl ?_
  intro p e s m args below meth c s₁ B hml hv
  obtain ⟨rfl, hsz, hP, hK, hD0, hNN, hSF⟩ := hv
  have hx := B.exec
  have hb := B.bytes
  have hr := B.returns
  have hts := atoms_spec (ws := wsX1_spend) B.pre
  have hown : s.vm.findClass RX1 = some m.cls := findClass_of_methodNamed B.named
  have hlocks := B.notSynchronized
  subst hsz
  have hD := hD0.self (sz := s.heap.size)
  generalize hAe : va_A (cwT cI h0 h1 h2 h3 h4 h5 tW) s.heap.size = A at hD hSF ⊢
  have hA : ∀ q : Nat, s.heap.size ≤ q → A q := fun q h => by rw [← hAe]; exact Or.inr h
  clear hAe hD0
  have hS : va_S A s.heap s.heap [] := va_S.rf
  have hl := lv_entry ([.ref h0, .int p1]) (n := 3) (Nat.le_of_ble_eq_true rfl)
  rw [lg_entry_eq]
  generalize (lg_sl ([.ref h0, .int p1]) ++ List.replicate (3 - (lg_sl ([.ref h0, .int p1])).length) Slot.unset).toArray = ls at hl ⊢
  have hl : lv_has ls 3 [(0, .ref h0), (1, .int p1)] := hl
  rw [F_X1_spend] at hF
  refine lv_iload_n hx hb dX1_spend_0 rfl (lv_at hl 1 rfl) ?_
  refine lv_iconst (v := nI 1) hx hb dX1_spend_1 (by decide) ?_
  refine lv_icmp_lt (tgt := 23) hx hb dX1_spend_2 (by decide) (fun hc => ?_) (fun hc => ?_)
  · have hF := ift hc hF
    refine lv_iconst (v := nI 0) hx hb dX1_spend_23 (by decide) ?_
    obtain rfl := Option.some.inj hF
    exact W.zret (v := (nI 0)) (ty := .boolean) hx hb hr (by decide +kernel) (fun t ht hW => ⟨⟨(nI 0), (), rfl, rfl, QB.of ht hP hD⟩, hS.F ht⟩) hS.2.2 dX1_spend_24
  · have hF := iff_ hc hF
    refine lv_iload_n hx hb dX1_spend_5 rfl (lv_at hl 1 rfl) ?_
    refine lv_bipush (v := nI 60) hx hb dX1_spend_6 (by decide) ?_
    refine lv_icmp_gt (tgt := 23) hx hb dX1_spend_8 (by decide) (fun hc => ?_) (fun hc => ?_)
    · have hF := ift hc hF
      refine lv_iconst (v := nI 0) hx hb dX1_spend_23 (by decide) ?_
      obtain rfl := Option.some.inj hF
      exact W.zret (v := (nI 0)) (ty := .boolean) hx hb hr (by decide +kernel) (fun t ht hW => ⟨⟨(nI 0), (), rfl, rfl, QB.of ht hP hD⟩, hS.F ht⟩) hS.2.2 dX1_spend_24
    · have hF := iff_ hc hF
      refine lv_aload_n hx hb dX1_spend_11 rfl (lv_at hl 0 rfl) ?_
      refine va_get (D := (dC, dI)) (ci := 1) (v := .int tW.2.2.2.2.2.2.2) (C := RX1) (T := TX1) (N := 8) hx hb hts inw_X1_spend_X1 hown hK hP 0 rfl rfl 7 (by decide) (hts (.fieldLink RX1 34 "DeniedOfEachOther$Town" "year" "I") (List.mem_of_getElem? (i := 1) rfl)) (fun _ h9 => h9) rfl dX1_spend_12 ?_
      refine lv_iload_n hx hb dX1_spend_15 rfl (lv_at hl 1 rfl) ?_
      refine lv_iadd hx hb dX1_spend_16 ?_
      refine lv_sipush (v := nI 999) hx hb dX1_spend_17 (by decide) ?_
      refine lv_icmp_le (tgt := 25) hx hb dX1_spend_20 (by decide) (fun hc => ?_) (fun hc => ?_)
      · have hF := ift hc hF
        refine lv_iconst (v := nI 0) hx hb dX1_spend_25 (by decide) ?_
        refine vW_have (fun R av Q => ∀ (n27 : Nat) (tW : TownS) (x1 : Int32) (x2 : Int32) (H : Heap) (locs : List Loc) (ls : Array Slot), F_X1_spend_27 N n27 tW x1 x2 = some r → va_P (dC, dI) vwCl (cwT cI h0 h1 h2 h3 h4 h5 tW) H → va_D A (cwT cI h0 h1 h2 h3 h4 h5 tW) → va_S A s.heap H locs → lv_has ls 3 [(0, .ref h0), (1, .int x1), (2, .int x2)] → W p l e R s m av below meth c H locs 0 0 Q (F0 m 27 ls [])) ?_ (fun kJ27 => ?_)
        · intro n27
          induction n27 with
          | zero => intro tW x1 x2 H locs ls hF; exact nn hF
          | succ n27 ih27 =>
            intro tW x1 x2 H locs ls hF hP hD hS hl
            rw [F_X1_spend_27] at hF
            refine lv_iload_n hx hb dX1_spend_27 rfl (lv_at hl 2 rfl) ?_
            refine lv_iload_n hx hb dX1_spend_28 rfl (lv_at hl 1 rfl) ?_
            refine lv_icmp_ge (tgt := 46) hx hb dX1_spend_29 (by decide) (fun hc => ?_) (fun hc => ?_)
            · have hF := ift hc hF
              refine lv_iconst (v := nI 1) hx hb dX1_spend_46 (by decide) ?_
              obtain rfl := Option.some.inj hF
              exact W.zret (v := (nI 1)) (ty := .boolean) hx hb hr (by decide +kernel) (fun t ht hW => ⟨⟨(nI 1), (), rfl, rfl, QB.of ht hP hD⟩, hS.F ht⟩) hS.2.2 dX1_spend_47
            · have hF := iff_ hc hF
              refine lv_aload_n hx hb dX1_spend_32 rfl (lv_at hl 0 rfl) ?_
              refine lv_iconst (v := nI 0) hx hb dX1_spend_33 (by decide) ?_
              refine lv_bipush (v := nI 8) hx hb dX1_spend_34 (by decide) ?_
              have hPc := hP.sub (ws' := (cwT cI h0 h1 h2 h3 h4 h5 tW)) [0, 1, 2, 3, 4, 5] rfl
              have hDc := hD.sub (ws' := (cwT cI h0 h1 h2 h3 h4 h5 tW)) [0, 1, 2, 3, 4, 5] (by decide) rfl
              have hFc := va_free (wc := (cwT cI h0 h1 h2 h3 h4 h5 tW)) hD hS hA [0, 1, 2, 3, 4, 5] rfl
              refine bd hF (fun r36 hG hF => ?_)
              refine va_calli (va_runV (As := [.int (nI 0), .int (nI 8)]) (rest := []) ⟨hx, hb, hml, hown, hts⟩ (c_X1_passOne l dC dI cI sf H.size N h0 h1 h2 h3 h4 h5 tW (nI 0) (nI 8) r36 hG) (cwV 2 hts gX1_spend_X1_passOne rfl rfl rfl (by decide +kernel) ⟨Nat.le_of_ble_eq_true rfl, Nat.le_of_ble_eq_true rfl⟩) ⟨fun a U g mk q => ⟨q.1, q.2.call⟩, va_recv hK hP (ci := 1) (q0 := 0) rfl rfl, fun U hU hW => ⟨rfl, PB.of hU hW hPc hK hDc hNN hSF hS hFc⟩⟩ rfl rfl hl.1 rfl (lv_room (Nat.le_of_ble_eq_true rfl)) dX1_spend_36 ⟨Nat.le_of_ble_eq_true rfl, Nat.le_of_ble_eq_true rfl⟩) hS (fun q _ h => hFc q h) hFc (fun z_ u_ t H locs ht hvm hw hB hz1 hk1 hS => ?_)
              subst z_
              obtain ⟨hP1, hD1⟩ := hB
              rw [ht] at hP1
              have hJ := vb_join (ws' := (cwT cI h0 h1 h2 h3 h4 h5 r36.2)) hP hD [0, 1, 2, 3, 4, 5] [] [0, 1, 2, 3, 4, 5] rfl rfl (by decide) (by decide) hk1 hFc hP1 hD1 rfl (by decide) rfl
              clear hP hD hPc hDc hFc hP1 hD1 hk1 hz1 ht hvm hG
              obtain ⟨hP, hD⟩ := hJ
              refine lv_pop hx hb dX1_spend_39 rfl ?_
              refine lv_iinc (v := x2 + (nI 1)) (lv' := [(2, .int (x2 + (nI 1))), (0, .ref h0), (1, .int x1)]) hx hb dX1_spend_40 hl (k := 2) rfl (by rfl) (by decide) rfl (fun ls hl => ?_)
              refine lv_goto (tgt := 27) hx hb dX1_spend_43 (by decide) ?_
              exact ih27 r36.2 x1 (x2 + (nI 1)) _ _ _ hF hP hD hS (lv_sub hl [1, 2, 0] rfl)
        refine lv_istore_n (lv' := [(2, .int (nI 0)), (0, .ref h0), (1, .int p1)]) hx hb dX1_spend_26 rfl hl (by decide) rfl (fun ls hl => ?_)
        exact kJ27 N tW p1 (nI 0) _ _ _ hF hP hD hS (lv_sub hl [1, 2, 0] rfl)
      · have hF := iff_ hc hF
        refine lv_iconst (v := nI 0) hx hb dX1_spend_23 (by decide) ?_
        obtain rfl := Option.some.inj hF
        exact W.zret (v := (nI 0)) (ty := .boolean) hx hb hr (by decide +kernel) (fun t ht hW => ⟨⟨(nI 0), (), rfl, rfl, QB.of ht hP hD⟩, hS.F ht⟩) hS.2.2 dX1_spend_24
theorem inw_X1_agesOfLiving_X1 : ∀ w ∈ u_ws RX1 TX1 8, w ∈ wsX1_agesOfLiving := fun _ h => List.mem_cons_of_mem _ (List.mem_append_right _ h)
set_option maxHeartbeats 4000000 in
set_option maxRecDepth 100000 in
theorem c_X1_agesOfLiving (l : Launch) (dC : Nat → ClassId) (dI : Nat → Nat → Nat) (cI : ClassId) (sf : SFP) (sz : Nat) (N : Nat) (h0 h1 h2 h3 h4 h5 : Nat) (tW : TownS) (r : Int32) (hF : F_X1_agesOfLiving N tW = some r) : Met l yX1_agesOfLiving wsX1_agesOfLiving ({ frames := 1, cells := 0, slots := 0, locals := 21 }) (va_Pc [.ref h0] (PB (dC, dI) cI (cwT cI h0 h1 h2 h3 h4 h5 tW) sz sf)) (va_Qi (fun (z : Int32) (_ : Unit) => z = r) (fun _ t => QB (dC, dI) (cwT cI h0 h1 h2 h3 h4 h5 tW) (va_A (cwT cI h0 h1 h2 h3 h4 h5 tW) sz) t) (va_A (cwT cI h0 h1 h2 h3 h4 h5 tW) sz)) 0 0 (va_A (cwT cI h0 h1 h2 h3 h4 h5 tW) sz) := by
  refine Met.ofW (cc := cX1_agesOfLiving) (maxL := 3) (ret := (some .int)) (by decide) rfl ?_
  intro p e s m args below meth c s₁ B hml hv
  obtain ⟨rfl, hsz, hP, hK, hD0, hNN, hSF⟩ := hv
  have hx := B.exec
  have hb := B.bytes
  have hr := B.returns
  have hts := atoms_spec (ws := wsX1_agesOfLiving) B.pre
  have hown : s.vm.findClass RX1 = some m.cls := findClass_of_methodNamed B.named
  have hlocks := B.notSynchronized
  subst hsz
  have hD := hD0.self (sz := s.heap.size)
  generalize hAe : va_A (cwT cI h0 h1 h2 h3 h4 h5 tW) s.heap.size = A at hD hSF ⊢
  have hA : ∀ q : Nat, s.heap.size ≤ q → A q := fun q h => by rw [← hAe]; exact Or.inr h
  clear hAe hD0
  have hS : va_S A s.heap s.heap [] := va_S.rf
  have hl := lv_entry ([.ref h0]) (n := 3) (Nat.le_of_ble_eq_true rfl)
  rw [lg_entry_eq]
  generalize (lg_sl ([.ref h0]) ++ List.replicate (3 - (lg_sl ([.ref h0])).length) Slot.unset).toArray = ls at hl ⊢
  have hl : lv_has ls 3 [(0, .ref h0)] := hl
  rw [F_X1_agesOfLiving] at hF
  refine lv_iconst (v := nI 0) hx hb dX1_agesOfLiving_0 (by decide) ?_
  refine lv_istore_n (lv' := [(1, .int (nI 0)), (0, .ref h0)]) hx hb dX1_agesOfLiving_1 rfl hl (by decide) rfl (fun ls hl => ?_)
  refine lv_iconst (v := nI 0) hx hb dX1_agesOfLiving_2 (by decide) ?_
  refine vW_have (fun R av Q => ∀ (n4 : Nat) (x1 : Int32) (x2 : Int32) (H : Heap) (locs : List Loc) (ls : Array Slot), F_X1_agesOfLiving_4 N tW n4 x1 x2 = some r → va_P (dC, dI) vwCl (cwT cI h0 h1 h2 h3 h4 h5 tW) H → va_D A (cwT cI h0 h1 h2 h3 h4 h5 tW) → va_S A s.heap H locs → lv_has ls 3 [(0, .ref h0), (1, .int x1), (2, .int x2)] → W p l e R s m av below meth c H locs 0 0 Q (F0 m 4 ls [])) ?_ (fun kJ4 => ?_)
  · intro n4
    induction n4 with
    | zero => intro x1 x2 H locs ls hF; exact nn hF
    | succ n4 ih4 =>
      intro x1 x2 H locs ls hF hP hD hS hl
      rw [F_X1_agesOfLiving_4] at hF
      refine lv_iload_n hx hb dX1_agesOfLiving_4 rfl (lv_at hl 2 rfl) ?_
      refine lv_aload_n hx hb dX1_agesOfLiving_5 rfl (lv_at hl 0 rfl) ?_
      refine va_get (D := (dC, dI)) (ci := 1) (v := .int tW.2.2.2.2.2.1) (C := RX1) (T := TX1) (N := 8) hx hb hts inw_X1_agesOfLiving_X1 hown hK hP 0 rfl rfl 5 (by decide) (hts (.fieldLink RX1 27 "DeniedOfEachOther$Town" "size" "I") (List.mem_of_getElem? (i := 1) rfl)) (fun _ h9 => h9) rfl dX1_agesOfLiving_6 ?_
      refine lv_icmp_ge (tgt := 35) hx hb dX1_agesOfLiving_9 (by decide) (fun hc => ?_) (fun hc => ?_)
      · have hF := ift hc hF
        refine lv_iload_n hx hb dX1_agesOfLiving_35 rfl (lv_at hl 1 rfl) ?_
        obtain rfl := Option.some.inj hF
        exact W.iret (v := x1) hx hb hr (fun t ht hW => ⟨⟨x1, (), rfl, rfl, QB.of ht hP hD⟩, hS.F ht⟩) hS.2.2 dX1_agesOfLiving_36
      · have hF := iff_ hc hF
        refine lv_aload_n hx hb dX1_agesOfLiving_12 rfl (lv_at hl 0 rfl) ?_
        refine lv_iload_n hx hb dX1_agesOfLiving_13 rfl (lv_at hl 2 rfl) ?_
        have hPc := hP.sub (ws' := (cwT cI h0 h1 h2 h3 h4 h5 tW)) [0, 1, 2, 3, 4, 5] rfl
        have hDc := hD.sub (ws' := (cwT cI h0 h1 h2 h3 h4 h5 tW)) [0, 1, 2, 3, 4, 5] (by decide) rfl
        have hFc := va_free (wc := (cwT cI h0 h1 h2 h3 h4 h5 tW)) hD hS hA [0, 1, 2, 3, 4, 5] rfl
        refine bd hF (fun r14 hG hF => ?_)
        refine va_calli (va_runV (As := [.int x2]) (rest := []) ⟨hx, hb, hml, hown, hts⟩ (c_X1_isLiving l dC dI cI sf H.size N h0 h1 h2 h3 h4 h5 tW x2 r14 hG) (cwV 1 hts gX1_agesOfLiving_X1_isLiving rfl rfl rfl (by decide +kernel) ⟨Nat.le_of_ble_eq_true rfl, Nat.le_of_ble_eq_true rfl⟩) ⟨fun a U g mk q => ⟨q.1, q.2.call⟩, va_recv hK hP (ci := 1) (q0 := 0) rfl rfl, fun U hU hW => ⟨rfl, PB.of hU hW hPc hK hDc hNN hSF hS hFc⟩⟩ rfl rfl hl.1 rfl (lv_room (Nat.le_of_ble_eq_true rfl)) dX1_agesOfLiving_14 ⟨Nat.le_of_ble_eq_true rfl, Nat.le_of_ble_eq_true rfl⟩) hS (fun q _ h => hFc q h) hFc (fun z_ u_ t H locs ht hvm hw hB hz1 hk1 hS => ?_)
        subst z_
        obtain ⟨hP1, hD1⟩ := hB
        rw [ht] at hP1
        have hJ := vb_join (ws' := (cwT cI h0 h1 h2 h3 h4 h5 tW)) hP hD [0, 1, 2, 3, 4, 5] [] [0, 1, 2, 3, 4, 5] rfl rfl (by decide) (by decide) hk1 hFc hP1 hD1 rfl (by decide) rfl
        clear hP hD hPc hDc hFc hP1 hD1 hk1 hz1 ht hvm hG
        obtain ⟨hP, hD⟩ := hJ
        refine vW_have (fun R av Q => ∀ (x1 : Int32) (x2 : Int32) (H : Heap) (locs : List Loc) (ls : Array Slot), F_X1_agesOfLiving_29 N tW (fun cx1 cx2 => F_X1_agesOfLiving_4 N tW n4 cx1 cx2) x1 x2 = some r → va_P (dC, dI) vwCl (cwT cI h0 h1 h2 h3 h4 h5 tW) H → va_D A (cwT cI h0 h1 h2 h3 h4 h5 tW) → va_S A s.heap H locs → lv_has ls 3 [(0, .ref h0), (1, .int x1), (2, .int x2)] → W p l e R s m av below meth c H locs 0 0 Q (F0 m 29 ls [])) ?_ (fun kJ29 => ?_)
        · 
          intro x1 x2 H locs ls hF hP hD hS hl
          rw [F_X1_agesOfLiving_29] at hF
          refine lv_iinc (v := x2 + (nI 1)) (lv' := [(2, .int (x2 + (nI 1))), (0, .ref h0), (1, .int x1)]) hx hb dX1_agesOfLiving_29 hl (k := 2) rfl (by rfl) (by decide) rfl (fun ls hl => ?_)
          refine lv_goto (tgt := 4) hx hb dX1_agesOfLiving_32 (by decide) ?_
          exact ih4 x1 (x2 + (nI 1)) _ _ _ hF hP hD hS (lv_sub hl [1, 2, 0] rfl)
        refine lv_if_eq (tgt := 29) hx hb dX1_agesOfLiving_17 (by decide) (fun hc => ?_) (fun hc => ?_)
        · have hF := ift hc hF
          exact kJ29 x1 x2 _ _ _ hF hP hD hS (lv_sub hl [0, 1, 2] rfl)
        · have hF := iff_ hc hF
          refine lv_iload_n hx hb dX1_agesOfLiving_20 rfl (lv_at hl 1 rfl) ?_
          refine lv_aload_n hx hb dX1_agesOfLiving_21 rfl (lv_at hl 0 rfl) ?_
          refine va_get (D := (dC, dI)) (ci := 1) (v := .ref h3) (C := RX1) (T := TX1) (N := 8) hx hb hts inw_X1_agesOfLiving_X1 hown hK hP 0 rfl rfl 2 (by decide) (hts (.fieldLink RX1 18 "DeniedOfEachOther$Town" "age" "[I") (List.mem_of_getElem? (i := 2) rfl)) (fun _ h9 => h9) rfl dX1_agesOfLiving_22 ?_
          refine lv_iload_n hx hb dX1_agesOfLiving_25 rfl (lv_at hl 2 rfl) ?_
          refine cki hF (fun hi hF => ?_)
          refine va_iald (D := (dC, dI)) hx hb hK hP 3 0 rfl rfl hi dX1_agesOfLiving_26 ?_
          refine lv_iadd hx hb dX1_agesOfLiving_27 ?_
          refine lv_istore_n (lv' := [(1, .int (x1 + (tW.2.2.1 x2.toNatClampNeg))), (0, .ref h0), (2, .int x2)]) hx hb dX1_agesOfLiving_28 rfl hl (by decide) rfl (fun ls hl => ?_)
          exact kJ29 (x1 + (tW.2.2.1 x2.toNatClampNeg)) x2 _ _ _ hF hP hD hS (lv_sub hl [1, 0, 2] rfl)
  refine lv_istore_n (lv' := [(2, .int (nI 0)), (1, .int (nI 0)), (0, .ref h0)]) hx hb dX1_agesOfLiving_3 rfl hl (by decide) rfl (fun ls hl => ?_)
  exact kJ4 N (nI 0) (nI 0) _ _ _ hF hP hD hS (lv_sub hl [2, 1, 0] rfl)
theorem inw_X1_become_X1 : ∀ w ∈ u_ws RX1 TX1 8, w ∈ wsX1_become := fun _ h => List.mem_cons_of_mem _ (List.mem_append_right _ h)
set_option maxHeartbeats 4000000 in
set_option maxRecDepth 100000 in
theorem c_X1_become (l : Launch) (dC : Nat → ClassId) (dI : Nat → Nat → Nat) (cI : ClassId) (sf : SFP) (sz : Nat) (N : Nat) (h0 h1 h2 h3 h4 h5 : Nat) (k0 k1 k2 k3 k4 k5 : Nat) (tW : TownS) (uW : TownS) (r : TownS) (hF : F_X1_become N tW uW = some r) : Met l yX1_become wsX1_become ({ frames := 1, cells := 0, slots := 0, locals := 60 }) (va_Pc [.ref h0, .ref k0] (PB (dC, dI) cI (cwT cI h0 h1 h2 h3 h4 h5 tW ++ cwT cI k0 k1 k2 k3 k4 k5 uW) sz sf)) (va_Qv (fun _ : Unit => True) (fun _ t => QB (dC, dI) (cwT cI h0 h1 h2 h3 h4 h5 r ++ cwT cI k0 k1 k2 k3 k4 k5 uW) (va_A (cwT cI h0 h1 h2 h3 h4 h5 tW ++ cwT cI k0 k1 k2 k3 k4 k5 uW) sz) t) (va_A (cwT cI h0 h1 h2 h3 h4 h5 tW ++ cwT cI k0 k1 k2 k3 k4 k5 uW) sz)) 0 0 (va_A (cwT cI h0 h1 h2 h3 h4 h5 tW ++ cwT cI k0 k1 k2 k3 k4 k5 uW) sz) := by
  refine Met.ofW (cc := cX1_become) (maxL := 2) (ret := none) (by decide) rfl ?_
  intro p e s m args below meth c s₁ B hml hv
  obtain ⟨rfl, hsz, hP, hK, hD0, hNN, hSF⟩ := hv
  have hx := B.exec
  have hb := B.bytes
  have hr := B.returns
  have hts := atoms_spec (ws := wsX1_become) B.pre
  have hown : s.vm.findClass RX1 = some m.cls := findClass_of_methodNamed B.named
  have hlocks := B.notSynchronized
  subst hsz
  have hD := hD0.self (sz := s.heap.size)
  generalize hAe : va_A (cwT cI h0 h1 h2 h3 h4 h5 tW ++ cwT cI k0 k1 k2 k3 k4 k5 uW) s.heap.size = A at hD hSF ⊢
  have hA : ∀ q : Nat, s.heap.size ≤ q → A q := fun q h => by rw [← hAe]; exact Or.inr h
  clear hAe hD0
  have hS : va_S A s.heap s.heap [] := va_S.rf
  have hl := lv_entry ([.ref h0, .ref k0]) (n := 2) (Nat.le_of_ble_eq_true rfl)
  rw [lg_entry_eq]
  generalize (lg_sl ([.ref h0, .ref k0]) ++ List.replicate (2 - (lg_sl ([.ref h0, .ref k0])).length) Slot.unset).toArray = ls at hl ⊢
  have hl : lv_has ls 2 [(0, .ref h0), (1, .ref k0)] := hl
  rw [F_X1_become] at hF
  refine lv_aload_n hx hb dX1_become_0 rfl (lv_at hl 1 rfl) ?_
  refine va_get (D := (dC, dI)) (ci := 1) (v := .ref k1) (C := RX1) (T := TX1) (N := 8) hx hb hts inw_X1_become_X1 hown hK hP 6 rfl rfl 0 (by decide) (hts (.fieldLink RX1 9 "DeniedOfEachOther$Town" "kind" "[I") (List.mem_of_getElem? (i := 1) rfl)) (fun _ h9 => h9) rfl dX1_become_1 ?_
  refine lv_iconst (v := nI 0) hx hb dX1_become_4 (by decide) ?_
  refine lv_aload_n hx hb dX1_become_5 rfl (lv_at hl 0 rfl) ?_
  refine va_get (D := (dC, dI)) (ci := 1) (v := .ref h1) (C := RX1) (T := TX1) (N := 8) hx hb hts inw_X1_become_X1 hown hK hP 0 rfl rfl 0 (by decide) (hts (.fieldLink RX1 9 "DeniedOfEachOther$Town" "kind" "[I") (List.mem_of_getElem? (i := 1) rfl)) (fun _ h9 => h9) rfl dX1_become_6 ?_
  refine lv_iconst (v := nI 0) hx hb dX1_become_9 (by decide) ?_
  refine lv_bipush (v := nI 6) hx hb dX1_become_10 (by decide) ?_
  refine va_copyi (D := (dC, dI)) hx hb (hml.trans hl.1.symm) hown (hts (.methodLink RX1 37 arraycopyName) (List.mem_of_getElem? (i := 2) rfl)) (hts (.native arraycopyName) (List.mem_of_getElem? (i := 3) rfl)) (hts (.static arraycopyName) (List.mem_of_getElem? (i := 4) rfl)) (hts (.initialized "java/lang/System") (List.mem_of_getElem? (i := 5) rfl)) hK hP hD hS 7 1 0 0 (ty := .int) rfl rfl rfl rfl rfl (by decide) (by decide) (by decide) (by decide) (by decide) (fun _ _ => rfl) (Nat.le_of_ble_eq_true rfl) (Nat.le_of_ble_eq_true rfl) dX1_become_12 (fun H locs hP hD hS => ?_)
  have hP : va_P (dC, dI) vwCl (cwT cI h0 h1 h2 h3 h4 h5 ((va_cpy uW.1 tW.1 (nI 0).toNatClampNeg (nI 0).toNatClampNeg (nI 6).toNatClampNeg), tW.2.1, tW.2.2.1, tW.2.2.2.1, tW.2.2.2.2.1, tW.2.2.2.2.2.1, tW.2.2.2.2.2.2.1, tW.2.2.2.2.2.2.2) ++ cwT cI k0 k1 k2 k3 k4 k5 uW) H := hP
  have hD : va_D A (cwT cI h0 h1 h2 h3 h4 h5 ((va_cpy uW.1 tW.1 (nI 0).toNatClampNeg (nI 0).toNatClampNeg (nI 6).toNatClampNeg), tW.2.1, tW.2.2.1, tW.2.2.2.1, tW.2.2.2.2.1, tW.2.2.2.2.2.1, tW.2.2.2.2.2.2.1, tW.2.2.2.2.2.2.2) ++ cwT cI k0 k1 k2 k3 k4 k5 uW) := hD
  refine lv_aload_n hx hb dX1_become_15 rfl (lv_at hl 1 rfl) ?_
  refine va_get (D := (dC, dI)) (ci := 1) (v := .ref k2) (C := RX1) (T := TX1) (N := 8) hx hb hts inw_X1_become_X1 hown hK hP 6 rfl rfl 1 (by decide) (hts (.fieldLink RX1 15 "DeniedOfEachOther$Town" "figure" "[I") (List.mem_of_getElem? (i := 6) rfl)) (fun _ h9 => h9) rfl dX1_become_16 ?_
  refine lv_iconst (v := nI 0) hx hb dX1_become_19 (by decide) ?_
  refine lv_aload_n hx hb dX1_become_20 rfl (lv_at hl 0 rfl) ?_
  refine va_get (D := (dC, dI)) (ci := 1) (v := .ref h2) (C := RX1) (T := TX1) (N := 8) hx hb hts inw_X1_become_X1 hown hK hP 0 rfl rfl 1 (by decide) (hts (.fieldLink RX1 15 "DeniedOfEachOther$Town" "figure" "[I") (List.mem_of_getElem? (i := 6) rfl)) (fun _ h9 => h9) rfl dX1_become_21 ?_
  refine lv_iconst (v := nI 0) hx hb dX1_become_24 (by decide) ?_
  refine lv_bipush (v := nI 6) hx hb dX1_become_25 (by decide) ?_
  refine va_copyi (D := (dC, dI)) hx hb (hml.trans hl.1.symm) hown (hts (.methodLink RX1 37 arraycopyName) (List.mem_of_getElem? (i := 2) rfl)) (hts (.native arraycopyName) (List.mem_of_getElem? (i := 3) rfl)) (hts (.static arraycopyName) (List.mem_of_getElem? (i := 4) rfl)) (hts (.initialized "java/lang/System") (List.mem_of_getElem? (i := 5) rfl)) hK hP hD hS 8 2 0 0 (ty := .int) rfl rfl rfl rfl rfl (by decide) (by decide) (by decide) (by decide) (by decide) (fun _ _ => rfl) (Nat.le_of_ble_eq_true rfl) (Nat.le_of_ble_eq_true rfl) dX1_become_27 (fun H locs hP hD hS => ?_)
  have hP : va_P (dC, dI) vwCl (cwT cI h0 h1 h2 h3 h4 h5 ((va_cpy uW.1 tW.1 (nI 0).toNatClampNeg (nI 0).toNatClampNeg (nI 6).toNatClampNeg), (va_cpy uW.2.1 tW.2.1 (nI 0).toNatClampNeg (nI 0).toNatClampNeg (nI 6).toNatClampNeg), tW.2.2.1, tW.2.2.2.1, tW.2.2.2.2.1, tW.2.2.2.2.2.1, tW.2.2.2.2.2.2.1, tW.2.2.2.2.2.2.2) ++ cwT cI k0 k1 k2 k3 k4 k5 uW) H := hP
  have hD : va_D A (cwT cI h0 h1 h2 h3 h4 h5 ((va_cpy uW.1 tW.1 (nI 0).toNatClampNeg (nI 0).toNatClampNeg (nI 6).toNatClampNeg), (va_cpy uW.2.1 tW.2.1 (nI 0).toNatClampNeg (nI 0).toNatClampNeg (nI 6).toNatClampNeg), tW.2.2.1, tW.2.2.2.1, tW.2.2.2.2.1, tW.2.2.2.2.2.1, tW.2.2.2.2.2.2.1, tW.2.2.2.2.2.2.2) ++ cwT cI k0 k1 k2 k3 k4 k5 uW) := hD
  refine lv_aload_n hx hb dX1_become_30 rfl (lv_at hl 1 rfl) ?_
  refine va_get (D := (dC, dI)) (ci := 1) (v := .ref k3) (C := RX1) (T := TX1) (N := 8) hx hb hts inw_X1_become_X1 hown hK hP 6 rfl rfl 2 (by decide) (hts (.fieldLink RX1 18 "DeniedOfEachOther$Town" "age" "[I") (List.mem_of_getElem? (i := 7) rfl)) (fun _ h9 => h9) rfl dX1_become_31 ?_
  refine lv_iconst (v := nI 0) hx hb dX1_become_34 (by decide) ?_
  refine lv_aload_n hx hb dX1_become_35 rfl (lv_at hl 0 rfl) ?_
  refine va_get (D := (dC, dI)) (ci := 1) (v := .ref h3) (C := RX1) (T := TX1) (N := 8) hx hb hts inw_X1_become_X1 hown hK hP 0 rfl rfl 2 (by decide) (hts (.fieldLink RX1 18 "DeniedOfEachOther$Town" "age" "[I") (List.mem_of_getElem? (i := 7) rfl)) (fun _ h9 => h9) rfl dX1_become_36 ?_
  refine lv_iconst (v := nI 0) hx hb dX1_become_39 (by decide) ?_
  refine lv_bipush (v := nI 6) hx hb dX1_become_40 (by decide) ?_
  refine va_copyi (D := (dC, dI)) hx hb (hml.trans hl.1.symm) hown (hts (.methodLink RX1 37 arraycopyName) (List.mem_of_getElem? (i := 2) rfl)) (hts (.native arraycopyName) (List.mem_of_getElem? (i := 3) rfl)) (hts (.static arraycopyName) (List.mem_of_getElem? (i := 4) rfl)) (hts (.initialized "java/lang/System") (List.mem_of_getElem? (i := 5) rfl)) hK hP hD hS 9 3 0 0 (ty := .int) rfl rfl rfl rfl rfl (by decide) (by decide) (by decide) (by decide) (by decide) (fun _ _ => rfl) (Nat.le_of_ble_eq_true rfl) (Nat.le_of_ble_eq_true rfl) dX1_become_42 (fun H locs hP hD hS => ?_)
  have hP : va_P (dC, dI) vwCl (cwT cI h0 h1 h2 h3 h4 h5 ((va_cpy uW.1 tW.1 (nI 0).toNatClampNeg (nI 0).toNatClampNeg (nI 6).toNatClampNeg), (va_cpy uW.2.1 tW.2.1 (nI 0).toNatClampNeg (nI 0).toNatClampNeg (nI 6).toNatClampNeg), (va_cpy uW.2.2.1 tW.2.2.1 (nI 0).toNatClampNeg (nI 0).toNatClampNeg (nI 6).toNatClampNeg), tW.2.2.2.1, tW.2.2.2.2.1, tW.2.2.2.2.2.1, tW.2.2.2.2.2.2.1, tW.2.2.2.2.2.2.2) ++ cwT cI k0 k1 k2 k3 k4 k5 uW) H := hP
  have hD : va_D A (cwT cI h0 h1 h2 h3 h4 h5 ((va_cpy uW.1 tW.1 (nI 0).toNatClampNeg (nI 0).toNatClampNeg (nI 6).toNatClampNeg), (va_cpy uW.2.1 tW.2.1 (nI 0).toNatClampNeg (nI 0).toNatClampNeg (nI 6).toNatClampNeg), (va_cpy uW.2.2.1 tW.2.2.1 (nI 0).toNatClampNeg (nI 0).toNatClampNeg (nI 6).toNatClampNeg), tW.2.2.2.1, tW.2.2.2.2.1, tW.2.2.2.2.2.1, tW.2.2.2.2.2.2.1, tW.2.2.2.2.2.2.2) ++ cwT cI k0 k1 k2 k3 k4 k5 uW) := hD
  refine lv_aload_n hx hb dX1_become_45 rfl (lv_at hl 1 rfl) ?_
  refine va_get (D := (dC, dI)) (ci := 1) (v := .ref k4) (C := RX1) (T := TX1) (N := 8) hx hb hts inw_X1_become_X1 hown hK hP 6 rfl rfl 3 (by decide) (hts (.fieldLink RX1 21 "DeniedOfEachOther$Town" "yes" "[I") (List.mem_of_getElem? (i := 8) rfl)) (fun _ h9 => h9) rfl dX1_become_46 ?_
  refine lv_iconst (v := nI 0) hx hb dX1_become_49 (by decide) ?_
  refine lv_aload_n hx hb dX1_become_50 rfl (lv_at hl 0 rfl) ?_
  refine va_get (D := (dC, dI)) (ci := 1) (v := .ref h4) (C := RX1) (T := TX1) (N := 8) hx hb hts inw_X1_become_X1 hown hK hP 0 rfl rfl 3 (by decide) (hts (.fieldLink RX1 21 "DeniedOfEachOther$Town" "yes" "[I") (List.mem_of_getElem? (i := 8) rfl)) (fun _ h9 => h9) rfl dX1_become_51 ?_
  refine lv_iconst (v := nI 0) hx hb dX1_become_54 (by decide) ?_
  refine lv_bipush (v := nI 8) hx hb dX1_become_55 (by decide) ?_
  refine va_copyi (D := (dC, dI)) hx hb (hml.trans hl.1.symm) hown (hts (.methodLink RX1 37 arraycopyName) (List.mem_of_getElem? (i := 2) rfl)) (hts (.native arraycopyName) (List.mem_of_getElem? (i := 3) rfl)) (hts (.static arraycopyName) (List.mem_of_getElem? (i := 4) rfl)) (hts (.initialized "java/lang/System") (List.mem_of_getElem? (i := 5) rfl)) hK hP hD hS 10 4 0 0 (ty := .int) rfl rfl rfl rfl rfl (by decide) (by decide) (by decide) (by decide) (by decide) (fun _ _ => rfl) (Nat.le_of_ble_eq_true rfl) (Nat.le_of_ble_eq_true rfl) dX1_become_57 (fun H locs hP hD hS => ?_)
  have hP : va_P (dC, dI) vwCl (cwT cI h0 h1 h2 h3 h4 h5 ((va_cpy uW.1 tW.1 (nI 0).toNatClampNeg (nI 0).toNatClampNeg (nI 6).toNatClampNeg), (va_cpy uW.2.1 tW.2.1 (nI 0).toNatClampNeg (nI 0).toNatClampNeg (nI 6).toNatClampNeg), (va_cpy uW.2.2.1 tW.2.2.1 (nI 0).toNatClampNeg (nI 0).toNatClampNeg (nI 6).toNatClampNeg), (va_cpy uW.2.2.2.1 tW.2.2.2.1 (nI 0).toNatClampNeg (nI 0).toNatClampNeg (nI 8).toNatClampNeg), tW.2.2.2.2.1, tW.2.2.2.2.2.1, tW.2.2.2.2.2.2.1, tW.2.2.2.2.2.2.2) ++ cwT cI k0 k1 k2 k3 k4 k5 uW) H := hP
  have hD : va_D A (cwT cI h0 h1 h2 h3 h4 h5 ((va_cpy uW.1 tW.1 (nI 0).toNatClampNeg (nI 0).toNatClampNeg (nI 6).toNatClampNeg), (va_cpy uW.2.1 tW.2.1 (nI 0).toNatClampNeg (nI 0).toNatClampNeg (nI 6).toNatClampNeg), (va_cpy uW.2.2.1 tW.2.2.1 (nI 0).toNatClampNeg (nI 0).toNatClampNeg (nI 6).toNatClampNeg), (va_cpy uW.2.2.2.1 tW.2.2.2.1 (nI 0).toNatClampNeg (nI 0).toNatClampNeg (nI 8).toNatClampNeg), tW.2.2.2.2.1, tW.2.2.2.2.2.1, tW.2.2.2.2.2.2.1, tW.2.2.2.2.2.2.2) ++ cwT cI k0 k1 k2 k3 k4 k5 uW) := hD
  refine lv_aload_n hx hb dX1_become_60 rfl (lv_at hl 1 rfl) ?_
  refine va_get (D := (dC, dI)) (ci := 1) (v := .ref k5) (C := RX1) (T := TX1) (N := 8) hx hb hts inw_X1_become_X1 hown hK hP 6 rfl rfl 4 (by decide) (hts (.fieldLink RX1 24 "DeniedOfEachOther$Town" "no" "[I") (List.mem_of_getElem? (i := 9) rfl)) (fun _ h9 => h9) rfl dX1_become_61 ?_
  refine lv_iconst (v := nI 0) hx hb dX1_become_64 (by decide) ?_
  refine lv_aload_n hx hb dX1_become_65 rfl (lv_at hl 0 rfl) ?_
  refine va_get (D := (dC, dI)) (ci := 1) (v := .ref h5) (C := RX1) (T := TX1) (N := 8) hx hb hts inw_X1_become_X1 hown hK hP 0 rfl rfl 4 (by decide) (hts (.fieldLink RX1 24 "DeniedOfEachOther$Town" "no" "[I") (List.mem_of_getElem? (i := 9) rfl)) (fun _ h9 => h9) rfl dX1_become_66 ?_
  refine lv_iconst (v := nI 0) hx hb dX1_become_69 (by decide) ?_
  refine lv_bipush (v := nI 8) hx hb dX1_become_70 (by decide) ?_
  refine va_copyi (D := (dC, dI)) hx hb (hml.trans hl.1.symm) hown (hts (.methodLink RX1 37 arraycopyName) (List.mem_of_getElem? (i := 2) rfl)) (hts (.native arraycopyName) (List.mem_of_getElem? (i := 3) rfl)) (hts (.static arraycopyName) (List.mem_of_getElem? (i := 4) rfl)) (hts (.initialized "java/lang/System") (List.mem_of_getElem? (i := 5) rfl)) hK hP hD hS 11 5 0 0 (ty := .int) rfl rfl rfl rfl rfl (by decide) (by decide) (by decide) (by decide) (by decide) (fun _ _ => rfl) (Nat.le_of_ble_eq_true rfl) (Nat.le_of_ble_eq_true rfl) dX1_become_72 (fun H locs hP hD hS => ?_)
  have hP : va_P (dC, dI) vwCl (cwT cI h0 h1 h2 h3 h4 h5 ((va_cpy uW.1 tW.1 (nI 0).toNatClampNeg (nI 0).toNatClampNeg (nI 6).toNatClampNeg), (va_cpy uW.2.1 tW.2.1 (nI 0).toNatClampNeg (nI 0).toNatClampNeg (nI 6).toNatClampNeg), (va_cpy uW.2.2.1 tW.2.2.1 (nI 0).toNatClampNeg (nI 0).toNatClampNeg (nI 6).toNatClampNeg), (va_cpy uW.2.2.2.1 tW.2.2.2.1 (nI 0).toNatClampNeg (nI 0).toNatClampNeg (nI 8).toNatClampNeg), (va_cpy uW.2.2.2.2.1 tW.2.2.2.2.1 (nI 0).toNatClampNeg (nI 0).toNatClampNeg (nI 8).toNatClampNeg), tW.2.2.2.2.2.1, tW.2.2.2.2.2.2.1, tW.2.2.2.2.2.2.2) ++ cwT cI k0 k1 k2 k3 k4 k5 uW) H := hP
  have hD : va_D A (cwT cI h0 h1 h2 h3 h4 h5 ((va_cpy uW.1 tW.1 (nI 0).toNatClampNeg (nI 0).toNatClampNeg (nI 6).toNatClampNeg), (va_cpy uW.2.1 tW.2.1 (nI 0).toNatClampNeg (nI 0).toNatClampNeg (nI 6).toNatClampNeg), (va_cpy uW.2.2.1 tW.2.2.1 (nI 0).toNatClampNeg (nI 0).toNatClampNeg (nI 6).toNatClampNeg), (va_cpy uW.2.2.2.1 tW.2.2.2.1 (nI 0).toNatClampNeg (nI 0).toNatClampNeg (nI 8).toNatClampNeg), (va_cpy uW.2.2.2.2.1 tW.2.2.2.2.1 (nI 0).toNatClampNeg (nI 0).toNatClampNeg (nI 8).toNatClampNeg), tW.2.2.2.2.2.1, tW.2.2.2.2.2.2.1, tW.2.2.2.2.2.2.2) ++ cwT cI k0 k1 k2 k3 k4 k5 uW) := hD
  refine lv_aload_n hx hb dX1_become_75 rfl (lv_at hl 0 rfl) ?_
  refine lv_aload_n hx hb dX1_become_76 rfl (lv_at hl 1 rfl) ?_
  refine va_get (D := (dC, dI)) (ci := 1) (v := .int uW.2.2.2.2.2.1) (C := RX1) (T := TX1) (N := 8) hx hb hts inw_X1_become_X1 hown hK hP 6 rfl rfl 5 (by decide) (hts (.fieldLink RX1 27 "DeniedOfEachOther$Town" "size" "I") (List.mem_of_getElem? (i := 10) rfl)) (fun _ h9 => h9) rfl dX1_become_77 ?_
  refine va_put (D := (dC, dI)) (ci := 1) (v := .int uW.2.2.2.2.2.1) (ty := .int) (C := RX1) (T := TX1) (N := 8) hx hb hts inw_X1_become_X1 tyX1 tyX1_ok nmX1 hown hK hP hD hS 0 rfl rfl 5 (by decide) (hts (.fieldLink RX1 27 "DeniedOfEachOther$Town" "size" "I") (List.mem_of_getElem? (i := 10) rfl)) (fun _ h9 => h9) rfl (by decide +kernel) rfl rfl (Nat.le_of_ble_eq_true rfl) dX1_become_80 (fun H locs hP hD hS => ?_)
  have hP : va_P (dC, dI) vwCl (cwT cI h0 h1 h2 h3 h4 h5 ((va_cpy uW.1 tW.1 (nI 0).toNatClampNeg (nI 0).toNatClampNeg (nI 6).toNatClampNeg), (va_cpy uW.2.1 tW.2.1 (nI 0).toNatClampNeg (nI 0).toNatClampNeg (nI 6).toNatClampNeg), (va_cpy uW.2.2.1 tW.2.2.1 (nI 0).toNatClampNeg (nI 0).toNatClampNeg (nI 6).toNatClampNeg), (va_cpy uW.2.2.2.1 tW.2.2.2.1 (nI 0).toNatClampNeg (nI 0).toNatClampNeg (nI 8).toNatClampNeg), (va_cpy uW.2.2.2.2.1 tW.2.2.2.2.1 (nI 0).toNatClampNeg (nI 0).toNatClampNeg (nI 8).toNatClampNeg), uW.2.2.2.2.2.1, tW.2.2.2.2.2.2.1, tW.2.2.2.2.2.2.2) ++ cwT cI k0 k1 k2 k3 k4 k5 uW) H := hP
  have hD : va_D A (cwT cI h0 h1 h2 h3 h4 h5 ((va_cpy uW.1 tW.1 (nI 0).toNatClampNeg (nI 0).toNatClampNeg (nI 6).toNatClampNeg), (va_cpy uW.2.1 tW.2.1 (nI 0).toNatClampNeg (nI 0).toNatClampNeg (nI 6).toNatClampNeg), (va_cpy uW.2.2.1 tW.2.2.1 (nI 0).toNatClampNeg (nI 0).toNatClampNeg (nI 6).toNatClampNeg), (va_cpy uW.2.2.2.1 tW.2.2.2.1 (nI 0).toNatClampNeg (nI 0).toNatClampNeg (nI 8).toNatClampNeg), (va_cpy uW.2.2.2.2.1 tW.2.2.2.2.1 (nI 0).toNatClampNeg (nI 0).toNatClampNeg (nI 8).toNatClampNeg), uW.2.2.2.2.2.1, tW.2.2.2.2.2.2.1, tW.2.2.2.2.2.2.2) ++ cwT cI k0 k1 k2 k3 k4 k5 uW) := hD
  refine lv_aload_n hx hb dX1_become_83 rfl (lv_at hl 0 rfl) ?_
  refine lv_aload_n hx hb dX1_become_84 rfl (lv_at hl 1 rfl) ?_
  refine va_get (D := (dC, dI)) (ci := 1) (v := .int uW.2.2.2.2.2.2.1) (C := RX1) (T := TX1) (N := 8) hx hb hts inw_X1_become_X1 hown hK hP 6 rfl rfl 6 (by decide) (hts (.fieldLink RX1 31 "DeniedOfEachOther$Town" "living" "I") (List.mem_of_getElem? (i := 11) rfl)) (fun _ h9 => h9) rfl dX1_become_85 ?_
  refine va_put (D := (dC, dI)) (ci := 1) (v := .int uW.2.2.2.2.2.2.1) (ty := .int) (C := RX1) (T := TX1) (N := 8) hx hb hts inw_X1_become_X1 tyX1 tyX1_ok nmX1 hown hK hP hD hS 0 rfl rfl 6 (by decide) (hts (.fieldLink RX1 31 "DeniedOfEachOther$Town" "living" "I") (List.mem_of_getElem? (i := 11) rfl)) (fun _ h9 => h9) rfl (by decide +kernel) rfl rfl (Nat.le_of_ble_eq_true rfl) dX1_become_88 (fun H locs hP hD hS => ?_)
  have hP : va_P (dC, dI) vwCl (cwT cI h0 h1 h2 h3 h4 h5 ((va_cpy uW.1 tW.1 (nI 0).toNatClampNeg (nI 0).toNatClampNeg (nI 6).toNatClampNeg), (va_cpy uW.2.1 tW.2.1 (nI 0).toNatClampNeg (nI 0).toNatClampNeg (nI 6).toNatClampNeg), (va_cpy uW.2.2.1 tW.2.2.1 (nI 0).toNatClampNeg (nI 0).toNatClampNeg (nI 6).toNatClampNeg), (va_cpy uW.2.2.2.1 tW.2.2.2.1 (nI 0).toNatClampNeg (nI 0).toNatClampNeg (nI 8).toNatClampNeg), (va_cpy uW.2.2.2.2.1 tW.2.2.2.2.1 (nI 0).toNatClampNeg (nI 0).toNatClampNeg (nI 8).toNatClampNeg), uW.2.2.2.2.2.1, uW.2.2.2.2.2.2.1, tW.2.2.2.2.2.2.2) ++ cwT cI k0 k1 k2 k3 k4 k5 uW) H := hP
  have hD : va_D A (cwT cI h0 h1 h2 h3 h4 h5 ((va_cpy uW.1 tW.1 (nI 0).toNatClampNeg (nI 0).toNatClampNeg (nI 6).toNatClampNeg), (va_cpy uW.2.1 tW.2.1 (nI 0).toNatClampNeg (nI 0).toNatClampNeg (nI 6).toNatClampNeg), (va_cpy uW.2.2.1 tW.2.2.1 (nI 0).toNatClampNeg (nI 0).toNatClampNeg (nI 6).toNatClampNeg), (va_cpy uW.2.2.2.1 tW.2.2.2.1 (nI 0).toNatClampNeg (nI 0).toNatClampNeg (nI 8).toNatClampNeg), (va_cpy uW.2.2.2.2.1 tW.2.2.2.2.1 (nI 0).toNatClampNeg (nI 0).toNatClampNeg (nI 8).toNatClampNeg), uW.2.2.2.2.2.1, uW.2.2.2.2.2.2.1, tW.2.2.2.2.2.2.2) ++ cwT cI k0 k1 k2 k3 k4 k5 uW) := hD
  refine lv_aload_n hx hb dX1_become_91 rfl (lv_at hl 0 rfl) ?_
  refine lv_aload_n hx hb dX1_become_92 rfl (lv_at hl 1 rfl) ?_
  refine va_get (D := (dC, dI)) (ci := 1) (v := .int uW.2.2.2.2.2.2.2) (C := RX1) (T := TX1) (N := 8) hx hb hts inw_X1_become_X1 hown hK hP 6 rfl rfl 7 (by decide) (hts (.fieldLink RX1 34 "DeniedOfEachOther$Town" "year" "I") (List.mem_of_getElem? (i := 12) rfl)) (fun _ h9 => h9) rfl dX1_become_93 ?_
  refine va_put (D := (dC, dI)) (ci := 1) (v := .int uW.2.2.2.2.2.2.2) (ty := .int) (C := RX1) (T := TX1) (N := 8) hx hb hts inw_X1_become_X1 tyX1 tyX1_ok nmX1 hown hK hP hD hS 0 rfl rfl 7 (by decide) (hts (.fieldLink RX1 34 "DeniedOfEachOther$Town" "year" "I") (List.mem_of_getElem? (i := 12) rfl)) (fun _ h9 => h9) rfl (by decide +kernel) rfl rfl (Nat.le_of_ble_eq_true rfl) dX1_become_96 (fun H locs hP hD hS => ?_)
  have hP : va_P (dC, dI) vwCl (cwT cI h0 h1 h2 h3 h4 h5 ((va_cpy uW.1 tW.1 (nI 0).toNatClampNeg (nI 0).toNatClampNeg (nI 6).toNatClampNeg), (va_cpy uW.2.1 tW.2.1 (nI 0).toNatClampNeg (nI 0).toNatClampNeg (nI 6).toNatClampNeg), (va_cpy uW.2.2.1 tW.2.2.1 (nI 0).toNatClampNeg (nI 0).toNatClampNeg (nI 6).toNatClampNeg), (va_cpy uW.2.2.2.1 tW.2.2.2.1 (nI 0).toNatClampNeg (nI 0).toNatClampNeg (nI 8).toNatClampNeg), (va_cpy uW.2.2.2.2.1 tW.2.2.2.2.1 (nI 0).toNatClampNeg (nI 0).toNatClampNeg (nI 8).toNatClampNeg), uW.2.2.2.2.2.1, uW.2.2.2.2.2.2.1, uW.2.2.2.2.2.2.2) ++ cwT cI k0 k1 k2 k3 k4 k5 uW) H := hP
  have hD : va_D A (cwT cI h0 h1 h2 h3 h4 h5 ((va_cpy uW.1 tW.1 (nI 0).toNatClampNeg (nI 0).toNatClampNeg (nI 6).toNatClampNeg), (va_cpy uW.2.1 tW.2.1 (nI 0).toNatClampNeg (nI 0).toNatClampNeg (nI 6).toNatClampNeg), (va_cpy uW.2.2.1 tW.2.2.1 (nI 0).toNatClampNeg (nI 0).toNatClampNeg (nI 6).toNatClampNeg), (va_cpy uW.2.2.2.1 tW.2.2.2.1 (nI 0).toNatClampNeg (nI 0).toNatClampNeg (nI 8).toNatClampNeg), (va_cpy uW.2.2.2.2.1 tW.2.2.2.2.1 (nI 0).toNatClampNeg (nI 0).toNatClampNeg (nI 8).toNatClampNeg), uW.2.2.2.2.2.1, uW.2.2.2.2.2.2.1, uW.2.2.2.2.2.2.2) ++ cwT cI k0 k1 k2 k3 k4 k5 uW) := hD
  obtain rfl := Option.some.inj hF
  exact W.vret hx hb hr (fun t ht hW => ⟨⟨(), rfl, trivial, QB.of ht hP hD⟩, hS.F ht⟩) hS.2.2 dX1_become_99
theorem inw_X1_isWritten_X1 : ∀ w ∈ u_ws RX1 TX1 8, w ∈ wsX1_isWritten := fun _ h => List.mem_cons_of_mem _ (List.mem_append_right _ h)
set_option maxHeartbeats 4000000 in
set_option maxRecDepth 100000 in
theorem c_X1_isWritten (l : Launch) (dC : Nat → ClassId) (dI : Nat → Nat → Nat) (cI : ClassId) (sf : SFP) (sz : Nat) (N : Nat) (h0 h1 h2 h3 h4 h5 : Nat) (tW : TownS) (p1 : Int32) (r : Int32) (hF : F_X1_isWritten N tW p1 = some r) : Met l yX1_isWritten wsX1_isWritten ({ frames := 1, cells := 0, slots := 0, locals := 21 }) (va_Pc [.ref h0, .int p1] (PB (dC, dI) cI (cwT cI h0 h1 h2 h3 h4 h5 tW) sz sf)) (va_Qi (fun (z : Int32) (_ : Unit) => z = r) (fun _ t => QB (dC, dI) (cwT cI h0 h1 h2 h3 h4 h5 tW) (va_A (cwT cI h0 h1 h2 h3 h4 h5 tW) sz) t) (va_A (cwT cI h0 h1 h2 h3 h4 h5 tW) sz)) 0 0 (va_A (cwT cI h0 h1 h2 h3 h4 h5 tW) sz) := by
  refine Met.ofW (cc := cX1_isWritten) (maxL := 2) (ret := (some .boolean)) (by decide) rfl ?_
  intro p e s m args below meth c s₁ B hml hv
  obtain ⟨rfl, hsz, hP, hK, hD0, hNN, hSF⟩ := hv
  have hx := B.exec
  have hb := B.bytes
  have hr := B.returns
  have hts := atoms_spec (ws := wsX1_isWritten) B.pre
  have hown : s.vm.findClass RX1 = some m.cls := findClass_of_methodNamed B.named
  have hlocks := B.notSynchronized
  subst hsz
  have hD := hD0.self (sz := s.heap.size)
  generalize hAe : va_A (cwT cI h0 h1 h2 h3 h4 h5 tW) s.heap.size = A at hD hSF ⊢
  have hA : ∀ q : Nat, s.heap.size ≤ q → A q := fun q h => by rw [← hAe]; exact Or.inr h
  clear hAe hD0
  have hS : va_S A s.heap s.heap [] := va_S.rf
  have hl := lv_entry ([.ref h0, .int p1]) (n := 2) (Nat.le_of_ble_eq_true rfl)
  rw [lg_entry_eq]
  generalize (lg_sl ([.ref h0, .int p1]) ++ List.replicate (2 - (lg_sl ([.ref h0, .int p1])).length) Slot.unset).toArray = ls at hl ⊢
  have hl : lv_has ls 2 [(0, .ref h0), (1, .int p1)] := hl
  rw [F_X1_isWritten] at hF
  refine lv_aload_n hx hb dX1_isWritten_0 rfl (lv_at hl 0 rfl) ?_
  refine lv_iload_n hx hb dX1_isWritten_1 rfl (lv_at hl 1 rfl) ?_
  have hPc := hP.sub (ws' := (cwT cI h0 h1 h2 h3 h4 h5 tW)) [0, 1, 2, 3, 4, 5] rfl
  have hDc := hD.sub (ws' := (cwT cI h0 h1 h2 h3 h4 h5 tW)) [0, 1, 2, 3, 4, 5] (by decide) rfl
  have hFc := va_free (wc := (cwT cI h0 h1 h2 h3 h4 h5 tW)) hD hS hA [0, 1, 2, 3, 4, 5] rfl
  refine bd hF (fun r2 hG hF => ?_)
  refine va_calli (va_runV (As := [.int p1]) (rest := []) ⟨hx, hb, hml, hown, hts⟩ (c_X1_livingYes l dC dI cI sf s.heap.size N h0 h1 h2 h3 h4 h5 tW p1 r2 hG) (cwV 1 hts gX1_isWritten_X1_livingYes rfl rfl rfl (by decide +kernel) ⟨Nat.le_of_ble_eq_true rfl, Nat.le_of_ble_eq_true rfl⟩) ⟨fun a U g mk q => ⟨q.1, q.2.call⟩, va_recv hK hP (ci := 1) (q0 := 0) rfl rfl, fun U hU hW => ⟨rfl, PB.of hU hW hPc hK hDc hNN hSF hS hFc⟩⟩ rfl rfl hl.1 rfl (lv_room (Nat.le_of_ble_eq_true rfl)) dX1_isWritten_2 ⟨Nat.le_of_ble_eq_true rfl, Nat.le_of_ble_eq_true rfl⟩) hS (fun q _ h => hFc q h) hFc (fun z_ u_ t H locs ht hvm hw hB hz1 hk1 hS => ?_)
  subst z_
  obtain ⟨hP1, hD1⟩ := hB
  rw [ht] at hP1
  have hJ := vb_join (ws' := (cwT cI h0 h1 h2 h3 h4 h5 tW)) hP hD [0, 1, 2, 3, 4, 5] [] [0, 1, 2, 3, 4, 5] rfl rfl (by decide) (by decide) hk1 hFc hP1 hD1 rfl (by decide) rfl
  clear hP hD hPc hDc hFc hP1 hD1 hk1 hz1 ht hvm hG
  obtain ⟨hP, hD⟩ := hJ
  refine lv_if_eq (tgt := 20) hx hb dX1_isWritten_5 (by decide) (fun hc => ?_) (fun hc => ?_)
  · have hF := ift hc hF
    refine lv_iconst (v := nI 0) hx hb dX1_isWritten_20 (by decide) ?_
    obtain rfl := Option.some.inj hF
    exact W.zret (v := (nI 0)) (ty := .boolean) hx hb hr (by decide +kernel) (fun t ht hW => ⟨⟨(nI 0), (), rfl, rfl, QB.of ht hP hD⟩, hS.F ht⟩) hS.2.2 dX1_isWritten_21
  · have hF := iff_ hc hF
    refine lv_aload_n hx hb dX1_isWritten_8 rfl (lv_at hl 0 rfl) ?_
    refine lv_iload_n hx hb dX1_isWritten_9 rfl (lv_at hl 1 rfl) ?_
    have hPc := hP.sub (ws' := (cwT cI h0 h1 h2 h3 h4 h5 tW)) [0, 1, 2, 3, 4, 5] rfl
    have hDc := hD.sub (ws' := (cwT cI h0 h1 h2 h3 h4 h5 tW)) [0, 1, 2, 3, 4, 5] (by decide) rfl
    have hFc := va_free (wc := (cwT cI h0 h1 h2 h3 h4 h5 tW)) hD hS hA [0, 1, 2, 3, 4, 5] rfl
    refine bd hF (fun r10 hG hF => ?_)
    refine va_calli (va_runV (As := [.int p1]) (rest := []) ⟨hx, hb, hml, hown, hts⟩ (c_X1_livingNo l dC dI cI sf H.size N h0 h1 h2 h3 h4 h5 tW p1 r10 hG) (cwV 1 hts gX1_isWritten_X1_livingNo rfl rfl rfl (by decide +kernel) ⟨Nat.le_of_ble_eq_true rfl, Nat.le_of_ble_eq_true rfl⟩) ⟨fun a U g mk q => ⟨q.1, q.2.call⟩, va_recv hK hP (ci := 1) (q0 := 0) rfl rfl, fun U hU hW => ⟨rfl, PB.of hU hW hPc hK hDc hNN hSF hS hFc⟩⟩ rfl rfl hl.1 rfl (lv_room (Nat.le_of_ble_eq_true rfl)) dX1_isWritten_10 ⟨Nat.le_of_ble_eq_true rfl, Nat.le_of_ble_eq_true rfl⟩) hS (fun q _ h => hFc q h) hFc (fun z_ u_ t H locs ht hvm hw hB hz1 hk1 hS => ?_)
    subst z_
    obtain ⟨hP1, hD1⟩ := hB
    rw [ht] at hP1
    have hJ := vb_join (ws' := (cwT cI h0 h1 h2 h3 h4 h5 tW)) hP hD [0, 1, 2, 3, 4, 5] [] [0, 1, 2, 3, 4, 5] rfl rfl (by decide) (by decide) hk1 hFc hP1 hD1 rfl (by decide) rfl
    clear hP hD hPc hDc hFc hP1 hD1 hk1 hz1 ht hvm hG
    obtain ⟨hP, hD⟩ := hJ
    refine lv_if_eq (tgt := 20) hx hb dX1_isWritten_13 (by decide) (fun hc => ?_) (fun hc => ?_)
    · have hF := ift hc hF
      refine lv_iconst (v := nI 0) hx hb dX1_isWritten_20 (by decide) ?_
      obtain rfl := Option.some.inj hF
      exact W.zret (v := (nI 0)) (ty := .boolean) hx hb hr (by decide +kernel) (fun t ht hW => ⟨⟨(nI 0), (), rfl, rfl, QB.of ht hP hD⟩, hS.F ht⟩) hS.2.2 dX1_isWritten_21
    · have hF := iff_ hc hF
      refine lv_iconst (v := nI 1) hx hb dX1_isWritten_16 (by decide) ?_
      refine lv_goto (tgt := 21) hx hb dX1_isWritten_17 (by decide) ?_
      obtain rfl := Option.some.inj hF
      exact W.zret (v := (nI 1)) (ty := .boolean) hx hb hr (by decide +kernel) (fun t ht hW => ⟨⟨(nI 1), (), rfl, rfl, QB.of ht hP hD⟩, hS.F ht⟩) hS.2.2 dX1_isWritten_21
theorem inw_X1_book_X1 : ∀ w ∈ u_ws RX1 TX1 8, w ∈ wsX1_book := fun _ h => List.mem_cons_of_mem _ (List.mem_append_right _ h)
set_option maxHeartbeats 4000000 in
set_option maxRecDepth 100000 in
theorem c_X1_book (l : Launch) (dC : Nat → ClassId) (dI : Nat → Nat → Nat) (cI : ClassId) (sf : SFP) (sz : Nat) (N : Nat) (h0 h1 h2 h3 h4 h5 : Nat) (tW : TownS) (r : Int32) (hF : F_X1_book N tW = some r) : Met l yX1_book wsX1_book ({ frames := 2, cells := 0, slots := 0, locals := 42 }) (va_Pc [.ref h0] (PB (dC, dI) cI (cwT cI h0 h1 h2 h3 h4 h5 tW) sz sf)) (va_Qi (fun (z : Int32) (_ : Unit) => z = r) (fun _ t => QB (dC, dI) (cwT cI h0 h1 h2 h3 h4 h5 tW) (va_A (cwT cI h0 h1 h2 h3 h4 h5 tW) sz) t) (va_A (cwT cI h0 h1 h2 h3 h4 h5 tW) sz)) 0 0 (va_A (cwT cI h0 h1 h2 h3 h4 h5 tW) sz) := by
  refine Met.ofW (cc := cX1_book) (maxL := 3) (ret := (some .int)) (by decide) rfl ?_
  intro p e s m args below meth c s₁ B hml hv
  obtain ⟨rfl, hsz, hP, hK, hD0, hNN, hSF⟩ := hv
  have hx := B.exec
  have hb := B.bytes
  have hr := B.returns
  have hts := atoms_spec (ws := wsX1_book) B.pre
  have hown : s.vm.findClass RX1 = some m.cls := findClass_of_methodNamed B.named
  have hlocks := B.notSynchronized
  subst hsz
  have hD := hD0.self (sz := s.heap.size)
  generalize hAe : va_A (cwT cI h0 h1 h2 h3 h4 h5 tW) s.heap.size = A at hD hSF ⊢
  have hA : ∀ q : Nat, s.heap.size ≤ q → A q := fun q h => by rw [← hAe]; exact Or.inr h
  clear hAe hD0
  have hS : va_S A s.heap s.heap [] := va_S.rf
  have hl := lv_entry ([.ref h0]) (n := 3) (Nat.le_of_ble_eq_true rfl)
  rw [lg_entry_eq]
  generalize (lg_sl ([.ref h0]) ++ List.replicate (3 - (lg_sl ([.ref h0])).length) Slot.unset).toArray = ls at hl ⊢
  have hl : lv_has ls 3 [(0, .ref h0)] := hl
  rw [F_X1_book] at hF
  refine lv_iconst (v := nI 0) hx hb dX1_book_0 (by decide) ?_
  refine lv_istore_n (lv' := [(1, .int (nI 0)), (0, .ref h0)]) hx hb dX1_book_1 rfl hl (by decide) rfl (fun ls hl => ?_)
  refine lv_iconst (v := nI 0) hx hb dX1_book_2 (by decide) ?_
  refine vW_have (fun R av Q => ∀ (n4 : Nat) (x1 : Int32) (x2 : Int32) (H : Heap) (locs : List Loc) (ls : Array Slot), F_X1_book_4 N tW n4 x1 x2 = some r → va_P (dC, dI) vwCl (cwT cI h0 h1 h2 h3 h4 h5 tW) H → va_D A (cwT cI h0 h1 h2 h3 h4 h5 tW) → va_S A s.heap H locs → lv_has ls 3 [(0, .ref h0), (1, .int x1), (2, .int x2)] → W p l e R s m av below meth c H locs 0 0 Q (F0 m 4 ls [])) ?_ (fun kJ4 => ?_)
  · intro n4
    induction n4 with
    | zero => intro x1 x2 H locs ls hF; exact nn hF
    | succ n4 ih4 =>
      intro x1 x2 H locs ls hF hP hD hS hl
      rw [F_X1_book_4] at hF
      refine lv_iload_n hx hb dX1_book_4 rfl (lv_at hl 2 rfl) ?_
      refine lv_bipush (v := nI 8) hx hb dX1_book_5 (by decide) ?_
      refine lv_icmp_ge (tgt := 30) hx hb dX1_book_7 (by decide) (fun hc => ?_) (fun hc => ?_)
      · have hF := ift hc hF
        refine lv_iload_n hx hb dX1_book_30 rfl (lv_at hl 1 rfl) ?_
        obtain rfl := Option.some.inj hF
        exact W.iret (v := x1) hx hb hr (fun t ht hW => ⟨⟨x1, (), rfl, rfl, QB.of ht hP hD⟩, hS.F ht⟩) hS.2.2 dX1_book_31
      · have hF := iff_ hc hF
        refine lv_aload_n hx hb dX1_book_10 rfl (lv_at hl 0 rfl) ?_
        refine lv_iload_n hx hb dX1_book_11 rfl (lv_at hl 2 rfl) ?_
        have hPc := hP.sub (ws' := (cwT cI h0 h1 h2 h3 h4 h5 tW)) [0, 1, 2, 3, 4, 5] rfl
        have hDc := hD.sub (ws' := (cwT cI h0 h1 h2 h3 h4 h5 tW)) [0, 1, 2, 3, 4, 5] (by decide) rfl
        have hFc := va_free (wc := (cwT cI h0 h1 h2 h3 h4 h5 tW)) hD hS hA [0, 1, 2, 3, 4, 5] rfl
        refine bd hF (fun r12 hG hF => ?_)
        refine va_calli (va_runV (As := [.int x2]) (rest := []) ⟨hx, hb, hml, hown, hts⟩ (c_X1_isWritten l dC dI cI sf H.size N h0 h1 h2 h3 h4 h5 tW x2 r12 hG) (cwV 1 hts gX1_book_X1_isWritten rfl rfl rfl (by decide +kernel) ⟨Nat.le_of_ble_eq_true rfl, Nat.le_of_ble_eq_true rfl⟩) ⟨fun a U g mk q => ⟨q.1, q.2.call⟩, va_recv hK hP (ci := 1) (q0 := 0) rfl rfl, fun U hU hW => ⟨rfl, PB.of hU hW hPc hK hDc hNN hSF hS hFc⟩⟩ rfl rfl hl.1 rfl (lv_room (Nat.le_of_ble_eq_true rfl)) dX1_book_12 ⟨Nat.le_of_ble_eq_true rfl, Nat.le_of_ble_eq_true rfl⟩) hS (fun q _ h => hFc q h) hFc (fun z_ u_ t H locs ht hvm hw hB hz1 hk1 hS => ?_)
        subst z_
        obtain ⟨hP1, hD1⟩ := hB
        rw [ht] at hP1
        have hJ := vb_join (ws' := (cwT cI h0 h1 h2 h3 h4 h5 tW)) hP hD [0, 1, 2, 3, 4, 5] [] [0, 1, 2, 3, 4, 5] rfl rfl (by decide) (by decide) hk1 hFc hP1 hD1 rfl (by decide) rfl
        clear hP hD hPc hDc hFc hP1 hD1 hk1 hz1 ht hvm hG
        obtain ⟨hP, hD⟩ := hJ
        refine vW_have (fun R av Q => ∀ (x1 : Int32) (x2 : Int32) (H : Heap) (locs : List Loc) (ls : Array Slot), F_X1_book_24 N tW (fun cx1 cx2 => F_X1_book_4 N tW n4 cx1 cx2) x1 x2 = some r → va_P (dC, dI) vwCl (cwT cI h0 h1 h2 h3 h4 h5 tW) H → va_D A (cwT cI h0 h1 h2 h3 h4 h5 tW) → va_S A s.heap H locs → lv_has ls 3 [(0, .ref h0), (1, .int x1), (2, .int x2)] → W p l e R s m av below meth c H locs 0 0 Q (F0 m 24 ls [])) ?_ (fun kJ24 => ?_)
        · 
          intro x1 x2 H locs ls hF hP hD hS hl
          rw [F_X1_book_24] at hF
          refine lv_iinc (v := x2 + (nI 1)) (lv' := [(2, .int (x2 + (nI 1))), (0, .ref h0), (1, .int x1)]) hx hb dX1_book_24 hl (k := 2) rfl (by rfl) (by decide) rfl (fun ls hl => ?_)
          refine lv_goto (tgt := 4) hx hb dX1_book_27 (by decide) ?_
          exact ih4 x1 (x2 + (nI 1)) _ _ _ hF hP hD hS (lv_sub hl [1, 2, 0] rfl)
        refine lv_if_eq (tgt := 24) hx hb dX1_book_15 (by decide) (fun hc => ?_) (fun hc => ?_)
        · have hF := ift hc hF
          exact kJ24 x1 x2 _ _ _ hF hP hD hS (lv_sub hl [0, 1, 2] rfl)
        · have hF := iff_ hc hF
          refine lv_iload_n hx hb dX1_book_18 rfl (lv_at hl 1 rfl) ?_
          refine lv_iconst (v := nI 1) hx hb dX1_book_19 (by decide) ?_
          refine lv_iload_n hx hb dX1_book_20 rfl (lv_at hl 2 rfl) ?_
          refine lv_ishl hx hb dX1_book_21 ?_
          refine lv_ior hx hb dX1_book_22 ?_
          refine lv_istore_n (lv' := [(1, .int (x1 ||| ((nI 1) <<< (x2 &&& 31)))), (0, .ref h0), (2, .int x2)]) hx hb dX1_book_23 rfl hl (by decide) rfl (fun ls hl => ?_)
          exact kJ24 (x1 ||| ((nI 1) <<< (x2 &&& 31))) x2 _ _ _ hF hP hD hS (lv_sub hl [1, 0, 2] rfl)
  refine lv_istore_n (lv' := [(2, .int (nI 0)), (1, .int (nI 0)), (0, .ref h0)]) hx hb dX1_book_3 rfl hl (by decide) rfl (fun ls hl => ?_)
  exact kJ4 N (nI 0) (nI 0) _ _ _ hF hP hD hS (lv_sub hl [2, 1, 0] rfl)
theorem inw_X1_bookSize_X1 : ∀ w ∈ u_ws RX1 TX1 8, w ∈ wsX1_bookSize := fun _ h => List.mem_cons_of_mem _ (List.mem_append_right _ h)
set_option maxHeartbeats 4000000 in
set_option maxRecDepth 100000 in
theorem c_X1_bookSize (l : Launch) (dC : Nat → ClassId) (dI : Nat → Nat → Nat) (cI : ClassId) (sf : SFP) (sz : Nat) (N : Nat) (h0 h1 h2 h3 h4 h5 : Nat) (tW : TownS) (r : Int32) (hF : F_X1_bookSize N tW = some r) : Met l yX1_bookSize wsX1_bookSize ({ frames := 3, cells := 0, slots := 0, locals := 64 }) (va_Pc [.ref h0] (PB (dC, dI) cI (cwT cI h0 h1 h2 h3 h4 h5 tW) sz sf)) (va_Qi (fun (z : Int32) (_ : Unit) => z = r) (fun _ t => QB (dC, dI) (cwT cI h0 h1 h2 h3 h4 h5 tW) (va_A (cwT cI h0 h1 h2 h3 h4 h5 tW) sz) t) (va_A (cwT cI h0 h1 h2 h3 h4 h5 tW) sz)) 0 0 (va_A (cwT cI h0 h1 h2 h3 h4 h5 tW) sz) := by
  refine Met.ofW (cc := cX1_bookSize) (maxL := 1) (ret := (some .int)) (by decide) rfl ?_
  intro p e s m args below meth c s₁ B hml hv
  obtain ⟨rfl, hsz, hP, hK, hD0, hNN, hSF⟩ := hv
  have hx := B.exec
  have hb := B.bytes
  have hr := B.returns
  have hts := atoms_spec (ws := wsX1_bookSize) B.pre
  have hown : s.vm.findClass RX1 = some m.cls := findClass_of_methodNamed B.named
  have hlocks := B.notSynchronized
  subst hsz
  have hD := hD0.self (sz := s.heap.size)
  generalize hAe : va_A (cwT cI h0 h1 h2 h3 h4 h5 tW) s.heap.size = A at hD hSF ⊢
  have hA : ∀ q : Nat, s.heap.size ≤ q → A q := fun q h => by rw [← hAe]; exact Or.inr h
  clear hAe hD0
  have hS : va_S A s.heap s.heap [] := va_S.rf
  have hl := lv_entry ([.ref h0]) (n := 1) (Nat.le_of_ble_eq_true rfl)
  rw [lg_entry_eq]
  generalize (lg_sl ([.ref h0]) ++ List.replicate (1 - (lg_sl ([.ref h0])).length) Slot.unset).toArray = ls at hl ⊢
  have hl : lv_has ls 1 [(0, .ref h0)] := hl
  rw [F_X1_bookSize] at hF
  refine lv_aload_n hx hb dX1_bookSize_0 rfl (lv_at hl 0 rfl) ?_
  have hPc := hP.sub (ws' := (cwT cI h0 h1 h2 h3 h4 h5 tW)) [0, 1, 2, 3, 4, 5] rfl
  have hDc := hD.sub (ws' := (cwT cI h0 h1 h2 h3 h4 h5 tW)) [0, 1, 2, 3, 4, 5] (by decide) rfl
  have hFc := va_free (wc := (cwT cI h0 h1 h2 h3 h4 h5 tW)) hD hS hA [0, 1, 2, 3, 4, 5] rfl
  refine bd hF (fun r1 hG hF => ?_)
  refine va_calli (va_runV (As := []) (rest := []) ⟨hx, hb, hml, hown, hts⟩ (c_X1_book l dC dI cI sf s.heap.size N h0 h1 h2 h3 h4 h5 tW r1 hG) (cwV 0 hts gX1_bookSize_X1_book rfl rfl rfl (by decide +kernel) ⟨Nat.le_of_ble_eq_true rfl, Nat.le_of_ble_eq_true rfl⟩) ⟨fun a U g mk q => ⟨q.1, q.2.call⟩, va_recv hK hP (ci := 1) (q0 := 0) rfl rfl, fun U hU hW => ⟨rfl, PB.of hU hW hPc hK hDc hNN hSF hS hFc⟩⟩ rfl rfl hl.1 rfl (lv_room (Nat.le_of_ble_eq_true rfl)) dX1_bookSize_1 ⟨Nat.le_of_ble_eq_true rfl, Nat.le_of_ble_eq_true rfl⟩) hS (fun q _ h => hFc q h) hFc (fun z_ u_ t H locs ht hvm hw hB hz1 hk1 hS => ?_)
  subst z_
  obtain ⟨hP1, hD1⟩ := hB
  rw [ht] at hP1
  have hJ := vb_join (ws' := (cwT cI h0 h1 h2 h3 h4 h5 tW)) hP hD [0, 1, 2, 3, 4, 5] [] [0, 1, 2, 3, 4, 5] rfl rfl (by decide) (by decide) hk1 hFc hP1 hD1 rfl (by decide) rfl
  clear hP hD hPc hDc hFc hP1 hD1 hk1 hz1 ht hvm hG
  obtain ⟨hP, hD⟩ := hJ
  have hPc := hP.sub (ws' := ([] : va_W)) [] rfl
  have hDc := hD.sub (ws' := ([] : va_W)) [] (by decide) rfl
  have hFc := va_free (wc := ([] : va_W)) hD hS hA [] rfl
  refine bd hF (fun r4 hG hF => ?_)
  refine va_calli (va_runS (As := [.int r1]) (rest := []) ⟨hx, hb, hml, hown, hts⟩ (c_J6_bitCount_0f7a4 l dC dI cI sf H.size N  r1 r4 hG) (va_cwS 1 hts gX1_bookSize_J6_bitCount_0f7a4 rfl rfl rfl (by decide +kernel) ⟨Nat.le_of_ble_eq_true rfl, Nat.le_of_ble_eq_true rfl⟩) ⟨fun a U g mk q => ⟨q.1, q.2.call⟩, fun U hU hW => ⟨rfl, PB.of hU hW hPc hK hDc hNN hSF hS hFc⟩⟩ rfl rfl hl.1 rfl (lv_room (Nat.le_of_ble_eq_true rfl)) dX1_bookSize_4 ⟨Nat.le_of_ble_eq_true rfl, Nat.le_of_ble_eq_true rfl⟩) hS (fun q _ h => hFc q h) hFc (fun z_ u_ t H locs ht hvm hw hB hz1 hk1 hS => ?_)
  subst z_
  obtain ⟨hP1, hD1⟩ := hB
  rw [ht] at hP1
  have hJ := vb_join (ws' := (cwT cI h0 h1 h2 h3 h4 h5 tW)) hP hD [] [0, 1, 2, 3, 4, 5] [0, 1, 2, 3, 4, 5] rfl rfl (by decide) (by decide) hk1 hFc hP1 hD1 rfl (by decide) rfl
  clear hP hD hPc hDc hFc hP1 hD1 hk1 hz1 ht hvm hG
  obtain ⟨hP, hD⟩ := hJ
  obtain rfl := Option.some.inj hF
  exact W.iret (v := r4) hx hb hr (fun t ht hW => ⟨⟨r4, (), rfl, rfl, QB.of ht hP hD⟩, hS.F ht⟩) hS.2.2 dX1_bookSize_7
theorem inw_X1_chapterOf_X1 : ∀ w ∈ u_ws RX1 TX1 8, w ∈ wsX1_chapterOf := fun _ h => List.mem_cons_of_mem _ (List.mem_append_right _ h)
set_option maxHeartbeats 4000000 in
set_option maxRecDepth 100000 in
theorem c_X1_chapterOf (l : Launch) (dC : Nat → ClassId) (dI : Nat → Nat → Nat) (cI : ClassId) (sf : SFP) (sz : Nat) (N : Nat) (h0 h1 h2 h3 h4 h5 : Nat) (tW : TownS) (p1 : Int32) (r : Int32) (hF : F_X1_chapterOf N tW p1 = some r) : Met l yX1_chapterOf wsX1_chapterOf ({ frames := 2, cells := 0, slots := 0, locals := 42 }) (va_Pc [.ref h0, .int p1] (PB (dC, dI) cI (cwT cI h0 h1 h2 h3 h4 h5 tW) sz sf)) (va_Qi (fun (z : Int32) (_ : Unit) => z = r) (fun _ t => QB (dC, dI) (cwT cI h0 h1 h2 h3 h4 h5 tW) (va_A (cwT cI h0 h1 h2 h3 h4 h5 tW) sz) t) (va_A (cwT cI h0 h1 h2 h3 h4 h5 tW) sz)) 0 0 (va_A (cwT cI h0 h1 h2 h3 h4 h5 tW) sz) := by
  refine Met.ofW (cc := cX1_chapterOf) (maxL := 4) (ret := (some .int)) (by decide) rfl ?_
  intro p e s m args below meth c s₁ B hml hv
  obtain ⟨rfl, hsz, hP, hK, hD0, hNN, hSF⟩ := hv
  have hx := B.exec
  have hb := B.bytes
  have hr := B.returns
  have hts := atoms_spec (ws := wsX1_chapterOf) B.pre
  have hown : s.vm.findClass RX1 = some m.cls := findClass_of_methodNamed B.named
  have hlocks := B.notSynchronized
  subst hsz
  have hD := hD0.self (sz := s.heap.size)
  generalize hAe : va_A (cwT cI h0 h1 h2 h3 h4 h5 tW) s.heap.size = A at hD hSF ⊢
  have hA : ∀ q : Nat, s.heap.size ≤ q → A q := fun q h => by rw [← hAe]; exact Or.inr h
  clear hAe hD0
  have hS : va_S A s.heap s.heap [] := va_S.rf
  have hl := lv_entry ([.ref h0, .int p1]) (n := 4) (Nat.le_of_ble_eq_true rfl)
  rw [lg_entry_eq]
  generalize (lg_sl ([.ref h0, .int p1]) ++ List.replicate (4 - (lg_sl ([.ref h0, .int p1])).length) Slot.unset).toArray = ls at hl ⊢
  have hl : lv_has ls 4 [(0, .ref h0), (1, .int p1)] := hl
  rw [F_X1_chapterOf] at hF
  refine lv_aload_n hx hb dX1_chapterOf_0 rfl (lv_at hl 0 rfl) ?_
  refine lv_iload_n hx hb dX1_chapterOf_1 rfl (lv_at hl 1 rfl) ?_
  have hPc := hP.sub (ws' := (cwT cI h0 h1 h2 h3 h4 h5 tW)) [0, 1, 2, 3, 4, 5] rfl
  have hDc := hD.sub (ws' := (cwT cI h0 h1 h2 h3 h4 h5 tW)) [0, 1, 2, 3, 4, 5] (by decide) rfl
  have hFc := va_free (wc := (cwT cI h0 h1 h2 h3 h4 h5 tW)) hD hS hA [0, 1, 2, 3, 4, 5] rfl
  refine bd hF (fun r2 hG hF => ?_)
  refine va_calli (va_runV (As := [.int p1]) (rest := []) ⟨hx, hb, hml, hown, hts⟩ (c_X1_isLiving l dC dI cI sf s.heap.size N h0 h1 h2 h3 h4 h5 tW p1 r2 hG) (cwV 1 hts gX1_chapterOf_X1_isLiving rfl rfl rfl (by decide +kernel) ⟨Nat.le_of_ble_eq_true rfl, Nat.le_of_ble_eq_true rfl⟩) ⟨fun a U g mk q => ⟨q.1, q.2.call⟩, va_recv hK hP (ci := 1) (q0 := 0) rfl rfl, fun U hU hW => ⟨rfl, PB.of hU hW hPc hK hDc hNN hSF hS hFc⟩⟩ rfl rfl hl.1 rfl (lv_room (Nat.le_of_ble_eq_true rfl)) dX1_chapterOf_2 ⟨Nat.le_of_ble_eq_true rfl, Nat.le_of_ble_eq_true rfl⟩) hS (fun q _ h => hFc q h) hFc (fun z_ u_ t H locs ht hvm hw hB hz1 hk1 hS => ?_)
  subst z_
  obtain ⟨hP1, hD1⟩ := hB
  rw [ht] at hP1
  have hJ := vb_join (ws' := (cwT cI h0 h1 h2 h3 h4 h5 tW)) hP hD [0, 1, 2, 3, 4, 5] [] [0, 1, 2, 3, 4, 5] rfl rfl (by decide) (by decide) hk1 hFc hP1 hD1 rfl (by decide) rfl
  clear hP hD hPc hDc hFc hP1 hD1 hk1 hz1 ht hvm hG
  obtain ⟨hP, hD⟩ := hJ
  refine lv_if_ne (tgt := 10) hx hb dX1_chapterOf_5 (by decide) (fun hc => ?_) (fun hc => ?_)
  · have hF := ift hc hF
    refine lv_iconst (v := nI 0) hx hb dX1_chapterOf_10 (by decide) ?_
    refine lv_istore_n (lv' := [(2, .int (nI 0)), (0, .ref h0), (1, .int p1)]) hx hb dX1_chapterOf_11 rfl hl (by decide) rfl (fun ls hl => ?_)
    refine lv_iconst (v := nI 0) hx hb dX1_chapterOf_12 (by decide) ?_
    refine vW_have (fun R av Q => ∀ (n14 : Nat) (x1 : Int32) (x2 : Int32) (x3 : Int32) (H : Heap) (locs : List Loc) (ls : Array Slot), F_X1_chapterOf_14 N tW n14 x1 x2 x3 = some r → va_P (dC, dI) vwCl (cwT cI h0 h1 h2 h3 h4 h5 tW) H → va_D A (cwT cI h0 h1 h2 h3 h4 h5 tW) → va_S A s.heap H locs → lv_has ls 4 [(0, .ref h0), (1, .int x1), (2, .int x2), (3, .int x3)] → W p l e R s m av below meth c H locs 0 0 Q (F0 m 14 ls [])) ?_ (fun kJ14 => ?_)
    · intro n14
      induction n14 with
      | zero => intro x1 x2 x3 H locs ls hF; exact nn hF
      | succ n14 ih14 =>
        intro x1 x2 x3 H locs ls hF hP hD hS hl
        rw [F_X1_chapterOf_14] at hF
        refine lv_iload_n hx hb dX1_chapterOf_14 rfl (lv_at hl 3 rfl) ?_
        refine lv_bipush (v := nI 8) hx hb dX1_chapterOf_15 (by decide) ?_
        refine lv_icmp_ge (tgt := 46) hx hb dX1_chapterOf_17 (by decide) (fun hc => ?_) (fun hc => ?_)
        · have hF := ift hc hF
          refine lv_iload_n hx hb dX1_chapterOf_46 rfl (lv_at hl 2 rfl) ?_
          obtain rfl := Option.some.inj hF
          exact W.iret (v := x2) hx hb hr (fun t ht hW => ⟨⟨x2, (), rfl, rfl, QB.of ht hP hD⟩, hS.F ht⟩) hS.2.2 dX1_chapterOf_47
        · have hF := iff_ hc hF
          refine lv_aload_n hx hb dX1_chapterOf_20 rfl (lv_at hl 0 rfl) ?_
          refine lv_iload_n hx hb dX1_chapterOf_21 rfl (lv_at hl 3 rfl) ?_
          have hPc := hP.sub (ws' := (cwT cI h0 h1 h2 h3 h4 h5 tW)) [0, 1, 2, 3, 4, 5] rfl
          have hDc := hD.sub (ws' := (cwT cI h0 h1 h2 h3 h4 h5 tW)) [0, 1, 2, 3, 4, 5] (by decide) rfl
          have hFc := va_free (wc := (cwT cI h0 h1 h2 h3 h4 h5 tW)) hD hS hA [0, 1, 2, 3, 4, 5] rfl
          refine bd hF (fun r22 hG hF => ?_)
          refine va_calli (va_runV (As := [.int x3]) (rest := []) ⟨hx, hb, hml, hown, hts⟩ (c_X1_isWritten l dC dI cI sf H.size N h0 h1 h2 h3 h4 h5 tW x3 r22 hG) (cwV 1 hts gX1_chapterOf_X1_isWritten rfl rfl rfl (by decide +kernel) ⟨Nat.le_of_ble_eq_true rfl, Nat.le_of_ble_eq_true rfl⟩) ⟨fun a U g mk q => ⟨q.1, q.2.call⟩, va_recv hK hP (ci := 1) (q0 := 0) rfl rfl, fun U hU hW => ⟨rfl, PB.of hU hW hPc hK hDc hNN hSF hS hFc⟩⟩ rfl rfl hl.1 rfl (lv_room (Nat.le_of_ble_eq_true rfl)) dX1_chapterOf_22 ⟨Nat.le_of_ble_eq_true rfl, Nat.le_of_ble_eq_true rfl⟩) hS (fun q _ h => hFc q h) hFc (fun z_ u_ t H locs ht hvm hw hB hz1 hk1 hS => ?_)
          subst z_
          obtain ⟨hP1, hD1⟩ := hB
          rw [ht] at hP1
          have hJ := vb_join (ws' := (cwT cI h0 h1 h2 h3 h4 h5 tW)) hP hD [0, 1, 2, 3, 4, 5] [] [0, 1, 2, 3, 4, 5] rfl rfl (by decide) (by decide) hk1 hFc hP1 hD1 rfl (by decide) rfl
          clear hP hD hPc hDc hFc hP1 hD1 hk1 hz1 ht hvm hG
          obtain ⟨hP, hD⟩ := hJ
          refine vW_have (fun R av Q => ∀ (x1 : Int32) (x2 : Int32) (x3 : Int32) (H : Heap) (locs : List Loc) (ls : Array Slot), F_X1_chapterOf_40 N tW (fun cx1 cx2 cx3 => F_X1_chapterOf_14 N tW n14 cx1 cx2 cx3) x1 x2 x3 = some r → va_P (dC, dI) vwCl (cwT cI h0 h1 h2 h3 h4 h5 tW) H → va_D A (cwT cI h0 h1 h2 h3 h4 h5 tW) → va_S A s.heap H locs → lv_has ls 4 [(0, .ref h0), (1, .int x1), (2, .int x2), (3, .int x3)] → W p l e R s m av below meth c H locs 0 0 Q (F0 m 40 ls [])) ?_ (fun kJ40 => ?_)
          · 
            intro x1 x2 x3 H locs ls hF hP hD hS hl
            rw [F_X1_chapterOf_40] at hF
            refine lv_iinc (v := x3 + (nI 1)) (lv' := [(3, .int (x3 + (nI 1))), (0, .ref h0), (1, .int x1), (2, .int x2)]) hx hb dX1_chapterOf_40 hl (k := 3) rfl (by rfl) (by decide) rfl (fun ls hl => ?_)
            refine lv_goto (tgt := 14) hx hb dX1_chapterOf_43 (by decide) ?_
            exact ih14 x1 x2 (x3 + (nI 1)) _ _ _ hF hP hD hS (lv_sub hl [1, 2, 3, 0] rfl)
          refine lv_if_eq (tgt := 40) hx hb dX1_chapterOf_25 (by decide) (fun hc => ?_) (fun hc => ?_)
          · have hF := ift hc hF
            exact kJ40 x1 x2 x3 _ _ _ hF hP hD hS (lv_sub hl [0, 1, 2, 3] rfl)
          · have hF := iff_ hc hF
            refine lv_aload_n hx hb dX1_chapterOf_28 rfl (lv_at hl 0 rfl) ?_
            refine lv_iload_n hx hb dX1_chapterOf_29 rfl (lv_at hl 1 rfl) ?_
            refine lv_iload_n hx hb dX1_chapterOf_30 rfl (lv_at hl 3 rfl) ?_
            have hPc := hP.sub (ws' := (cwT cI h0 h1 h2 h3 h4 h5 tW)) [0, 1, 2, 3, 4, 5] rfl
            have hDc := hD.sub (ws' := (cwT cI h0 h1 h2 h3 h4 h5 tW)) [0, 1, 2, 3, 4, 5] (by decide) rfl
            have hFc := va_free (wc := (cwT cI h0 h1 h2 h3 h4 h5 tW)) hD hS hA [0, 1, 2, 3, 4, 5] rfl
            refine bd hF (fun r31 hG hF => ?_)
            refine va_calli (va_runV (As := [.int x1, .int x3]) (rest := []) ⟨hx, hb, hml, hown, hts⟩ (c_X1_wordOf l dC dI cI sf H.size N h0 h1 h2 h3 h4 h5 tW x1 x3 r31 hG) (cwV 2 hts gX1_chapterOf_X1_wordOf rfl rfl rfl (by decide +kernel) ⟨Nat.le_of_ble_eq_true rfl, Nat.le_of_ble_eq_true rfl⟩) ⟨fun a U g mk q => ⟨q.1, q.2.call⟩, va_recv hK hP (ci := 1) (q0 := 0) rfl rfl, fun U hU hW => ⟨rfl, PB.of hU hW hPc hK hDc hNN hSF hS hFc⟩⟩ rfl rfl hl.1 rfl (lv_room (Nat.le_of_ble_eq_true rfl)) dX1_chapterOf_31 ⟨Nat.le_of_ble_eq_true rfl, Nat.le_of_ble_eq_true rfl⟩) hS (fun q _ h => hFc q h) hFc (fun z_ u_ t H locs ht hvm hw hB hz1 hk1 hS => ?_)
            subst z_
            obtain ⟨hP1, hD1⟩ := hB
            rw [ht] at hP1
            have hJ := vb_join (ws' := (cwT cI h0 h1 h2 h3 h4 h5 tW)) hP hD [0, 1, 2, 3, 4, 5] [] [0, 1, 2, 3, 4, 5] rfl rfl (by decide) (by decide) hk1 hFc hP1 hD1 rfl (by decide) rfl
            clear hP hD hPc hDc hFc hP1 hD1 hk1 hz1 ht hvm hG
            obtain ⟨hP, hD⟩ := hJ
            refine lv_if_eq (tgt := 40) hx hb dX1_chapterOf_34 (by decide) (fun hc => ?_) (fun hc => ?_)
            · have hF := ift hc hF
              exact kJ40 x1 x2 x3 _ _ _ hF hP hD hS (lv_sub hl [0, 1, 2, 3] rfl)
            · have hF := iff_ hc hF
              refine lv_iinc (v := x2 + (nI 1)) (lv' := [(2, .int (x2 + (nI 1))), (0, .ref h0), (1, .int x1), (3, .int x3)]) hx hb dX1_chapterOf_37 hl (k := 2) rfl (by rfl) (by decide) rfl (fun ls hl => ?_)
              exact kJ40 x1 (x2 + (nI 1)) x3 _ _ _ hF hP hD hS (lv_sub hl [1, 2, 0, 3] rfl)
    refine lv_istore_n (lv' := [(3, .int (nI 0)), (2, .int (nI 0)), (0, .ref h0), (1, .int p1)]) hx hb dX1_chapterOf_13 rfl hl (by decide) rfl (fun ls hl => ?_)
    exact kJ14 N p1 (nI 0) (nI 0) _ _ _ hF hP hD hS (lv_sub hl [2, 3, 1, 0] rfl)
  · have hF := iff_ (fun h => h hc) hF
    refine lv_iconst (v := nI 0) hx hb dX1_chapterOf_8 (by decide) ?_
    obtain rfl := Option.some.inj hF
    exact W.iret (v := (nI 0)) hx hb hr (fun t ht hW => ⟨⟨(nI 0), (), rfl, rfl, QB.of ht hP hD⟩, hS.F ht⟩) hS.2.2 dX1_chapterOf_9
