theorem inw_X2_refuseLong_X2 : ∀ w ∈ u_ws RX2 TX2 9, w ∈ wsX2_refuseLong := fun _ h => List.mem_cons_of_mem _ (List.mem_append_right _ h)
set_option maxHeartbeats 4000000 in
set_option maxRecDepth 100000 in
theorem c_X2_refuseLong (l : Launch) (dC : Nat → ClassId) (dI : Nat → Nat → Nat) (cI : ClassId) (sf : SFP) (sz : Nat) (N : Nat) (a : Nat → Nat) (tW : XS) (p1 : Int32) (r : (Int64 × XS)) (hF : F_X2_refuseLong N tW p1 = some r) : Met l yX2_refuseLong wsX2_refuseLong ({ frames := 1, cells := 0, slots := 0, locals := 22 }) (va_Pc [.ref (a 0), .int p1] (PB (dC, dI) cI (cwX cI a tW) sz sf)) (va_Ql (fun (z : Int64) (_ : Unit) => z = r.1) (fun _ t => QB (dC, dI) (cwX cI a r.2) (va_A (cwX cI a tW) sz) t) (va_A (cwX cI a tW) sz)) 0 0 (va_A (cwX cI a tW) sz) := by
  refine Met.ofW (cc := cX2_refuseLong) (maxL := 2) (ret := (some .long)) (by decide) rfl ?_
  intro p e s m args below meth c s₁ B hml hv
  obtain ⟨rfl, hsz, hP, hK, hD0, hNN, hSF⟩ := hv
  have hx := B.exec
  have hb := B.bytes
  have hr := B.returns
  have hts := atoms_spec (ws := wsX2_refuseLong) B.pre
  have hown : s.vm.findClass RX2 = some m.cls := findClass_of_methodNamed B.named
  have hlocks := B.notSynchronized
  subst hsz
  have hD := hD0.self (sz := s.heap.size)
  generalize hAe : va_A (cwX cI a tW) s.heap.size = A at hD hSF ⊢
  have hA : ∀ q : Nat, s.heap.size ≤ q → A q := fun q h => by rw [← hAe]; exact Or.inr h
  clear hAe hD0
  have hS : va_S A s.heap s.heap [] := va_S.rf
  have hl := lv_entry ([.ref (a 0), .int p1]) (n := 2) (Nat.le_of_ble_eq_true rfl)
  rw [lg_entry_eq]
  generalize (lg_sl ([.ref (a 0), .int p1]) ++ List.replicate (2 - (lg_sl ([.ref (a 0), .int p1])).length) Slot.unset).toArray = ls at hl ⊢
  have hl : lv_has ls 2 [(0, .ref (a 0)), (1, .int p1)] := hl
  rw [F_X2_refuseLong] at hF
  refine lv_ldc2 (v := lN 4000000000000000000) hx hb hown (hts (.constantLong RX2 215 (4000000000000000000)) (List.mem_of_getElem? (i := 1) rfl)) dX2_refuseLong_0 ?_
  refine lv_aload_n hx hb dX2_refuseLong_3 rfl (lv_at hl 0 rfl) ?_
  refine lv_iload_n hx hb dX2_refuseLong_4 rfl (lv_at hl 1 rfl) ?_
  have hPc := hP.sub (ws' := (cwX cI a tW)) [0, 1, 2, 3, 4, 5, 6, 7, 8, 9, 10, 11, 12, 13, 14, 15, 16, 17, 18, 19, 20, 21, 22, 23] rfl
  have hDc := hD.sub (ws' := (cwX cI a tW)) [0, 1, 2, 3, 4, 5, 6, 7, 8, 9, 10, 11, 12, 13, 14, 15, 16, 17, 18, 19, 20, 21, 22, 23] (by decide) rfl
  have hFc := va_free (wc := (cwX cI a tW)) hD hS hA [0, 1, 2, 3, 4, 5, 6, 7, 8, 9, 10, 11, 12, 13, 14, 15, 16, 17, 18, 19, 20, 21, 22, 23] rfl
  refine bd hF (fun r5 hG hF => ?_)
  refine va_calli (va_runV (As := [.int p1]) (rest := [.long (lN 4000000000000000000)]) ⟨hx, hb, hml, hown, hts⟩ (c_X2_refuse l dC dI cI sf s.heap.size N a tW p1 r5 hG) (cwV 1 hts gX2_refuseLong_X2_refuse rfl rfl rfl (by decide +kernel) ⟨Nat.le_of_ble_eq_true rfl, Nat.le_of_ble_eq_true rfl⟩) ⟨fun a U g mk q => ⟨q.1, q.2.call⟩, va_recv hK hP (ci := 2) (q0 := 0) rfl rfl, fun U hU hW => ⟨rfl, PB.of hU hW hPc hK hDc hNN hSF hS hFc⟩⟩ rfl rfl hl.1 rfl (lv_room (Nat.le_of_ble_eq_true rfl)) dX2_refuseLong_5 ⟨Nat.le_of_ble_eq_true rfl, Nat.le_of_ble_eq_true rfl⟩) hS (fun q _ h => hFc q h) hFc (fun z_ u_ t H locs ht hvm hw hB hz1 hk1 hS => ?_)
  subst z_
  obtain ⟨hP1, hD1⟩ := hB
  rw [ht] at hP1
  have hJ := vb_join (ws' := (cwX cI a r5.2)) hP hD [0, 1, 2, 3, 4, 5, 6, 7, 8, 9, 10, 11, 12, 13, 14, 15, 16, 17, 18, 19, 20, 21, 22, 23] [] [0, 1, 2, 3, 4, 5, 6, 7, 8, 9, 10, 11, 12, 13, 14, 15, 16, 17, 18, 19, 20, 21, 22, 23] rfl rfl (by decide) (by decide) hk1 hFc hP1 hD1 rfl (by decide) rfl
  clear hP hD hPc hDc hFc hP1 hD1 hk1 hz1 ht hvm hG
  obtain ⟨hP, hD⟩ := hJ
  refine lv_i2l (v := r5.1.toInt64) hx hb dX2_refuseLong_8 rfl ?_
  refine lv_lsub hx hb dX2_refuseLong_9 ?_
  obtain rfl := Option.some.inj hF
  exact W.lret (v := ((lN 4000000000000000000) - r5.1.toInt64)) hx hb hr (fun t ht hW => ⟨⟨((lN 4000000000000000000) - r5.1.toInt64), (), rfl, rfl, QB.of ht hP hD⟩, hS.F ht⟩) hS.2.2 dX2_refuseLong_10
theorem inw_X2_mean_X2 : ∀ w ∈ u_ws RX2 TX2 9, w ∈ wsX2_mean := fun _ h => List.mem_cons_of_mem _ (List.mem_append_left _ (List.mem_append_right _ h))
theorem inw_X2_mean_X1 : ∀ w ∈ u_ws RX1 TX1 8, w ∈ wsX2_mean := fun _ h => List.mem_cons_of_mem _ (List.mem_append_right _ h)
set_option maxHeartbeats 4000000 in
set_option maxRecDepth 100000 in
theorem c_X2_mean (l : Launch) (dC : Nat → ClassId) (dI : Nat → Nat → Nat) (cI : ClassId) (sf : SFP) (sz : Nat) (N : Nat) (a : Nat → Nat) (tW : XS) (p1 : Int32) (r : (Int64 × XS)) (hF : F_X2_mean N tW p1 = some r) : Met l yX2_mean wsX2_mean ({ frames := 2, cells := 0, slots := 0, locals := 43 }) (va_Pc [.ref (a 0), .int p1] (PB (dC, dI) cI (cwX cI a tW) sz sf)) (va_Ql (fun (z : Int64) (_ : Unit) => z = r.1) (fun _ t => QB (dC, dI) (cwX cI a r.2) (va_A (cwX cI a tW) sz) t) (va_A (cwX cI a tW) sz)) 0 0 (va_A (cwX cI a tW) sz) := by
  refine Met.ofW (cc := cX2_mean) (maxL := 2) (ret := (some .long)) (by decide) rfl ?_
  intro p e s m args below meth c s₁ B hml hv
  obtain ⟨rfl, hsz, hP, hK, hD0, hNN, hSF⟩ := hv
  have hx := B.exec
  have hb := B.bytes
  have hr := B.returns
  have hts := atoms_spec (ws := wsX2_mean) B.pre
  have hown : s.vm.findClass RX2 = some m.cls := findClass_of_methodNamed B.named
  have hlocks := B.notSynchronized
  subst hsz
  have hD := hD0.self (sz := s.heap.size)
  generalize hAe : va_A (cwX cI a tW) s.heap.size = A at hD hSF ⊢
  have hA : ∀ q : Nat, s.heap.size ≤ q → A q := fun q h => by rw [← hAe]; exact Or.inr h
  clear hAe hD0
  have hS : va_S A s.heap s.heap [] := va_S.rf
  have hl := lv_entry ([.ref (a 0), .int p1]) (n := 2) (Nat.le_of_ble_eq_true rfl)
  rw [lg_entry_eq]
  generalize (lg_sl ([.ref (a 0), .int p1]) ++ List.replicate (2 - (lg_sl ([.ref (a 0), .int p1])).length) Slot.unset).toArray = ls at hl ⊢
  have hl : lv_has ls 2 [(0, .ref (a 0)), (1, .int p1)] := hl
  rw [F_X2_mean] at hF
  refine lv_iload_n hx hb dX2_mean_0 rfl (lv_at hl 1 rfl) ?_
  refine vW_have (fun R av Q => ∀ (tW : XS) (H : Heap) (locs : List Loc) (ls : Array Slot), F_X2_mean_9 N tW = some r → va_P (dC, dI) vwCl (cwX cI a tW) H → va_D A (cwX cI a tW) → va_S A s.heap H locs → lv_has ls 2 [(0, .ref (a 0))] → W p l e R s m av below meth c H locs 0 0 Q (F0 m 9 ls [])) ?_ (fun kJ9 => ?_)
  · 
    intro tW H locs ls hF hP hD hS hl
    rw [F_X2_mean_9] at hF
    refine lv_aload_n hx hb dX2_mean_9 rfl (lv_at hl 0 rfl) ?_
    refine lv_bipush (v := (-2)) hx hb dX2_mean_10 (by decide) ?_
    have hPc := hP.sub (ws' := (cwX cI a tW)) [0, 1, 2, 3, 4, 5, 6, 7, 8, 9, 10, 11, 12, 13, 14, 15, 16, 17, 18, 19, 20, 21, 22, 23] rfl
    have hDc := hD.sub (ws' := (cwX cI a tW)) [0, 1, 2, 3, 4, 5, 6, 7, 8, 9, 10, 11, 12, 13, 14, 15, 16, 17, 18, 19, 20, 21, 22, 23] (by decide) rfl
    have hFc := va_free (wc := (cwX cI a tW)) hD hS hA [0, 1, 2, 3, 4, 5, 6, 7, 8, 9, 10, 11, 12, 13, 14, 15, 16, 17, 18, 19, 20, 21, 22, 23] rfl
    refine bd hF (fun r12 hG hF => ?_)
    refine va_calll (va_runV (As := [.int (-2)]) (rest := []) ⟨hx, hb, hml, hown, hts⟩ (c_X2_refuseLong l dC dI cI sf H.size N a tW (-2) r12 hG) (cwV 1 hts gX2_mean_X2_refuseLong rfl rfl rfl (by decide +kernel) ⟨Nat.le_of_ble_eq_true rfl, Nat.le_of_ble_eq_true rfl⟩) ⟨fun a U g mk q => ⟨q.1, q.2.call⟩, va_recv hK hP (ci := 2) (q0 := 0) rfl rfl, fun U hU hW => ⟨rfl, PB.of hU hW hPc hK hDc hNN hSF hS hFc⟩⟩ rfl rfl hl.1 rfl (lv_room (Nat.le_of_ble_eq_true rfl)) dX2_mean_12 ⟨Nat.le_of_ble_eq_true rfl, Nat.le_of_ble_eq_true rfl⟩) hS (fun q _ h => hFc q h) hFc (fun z_ u_ t H locs ht hvm hw hB hz1 hk1 hS => ?_)
    subst z_
    obtain ⟨hP1, hD1⟩ := hB
    rw [ht] at hP1
    have hJ := vb_join (ws' := (cwX cI a r12.2)) hP hD [0, 1, 2, 3, 4, 5, 6, 7, 8, 9, 10, 11, 12, 13, 14, 15, 16, 17, 18, 19, 20, 21, 22, 23] [] [0, 1, 2, 3, 4, 5, 6, 7, 8, 9, 10, 11, 12, 13, 14, 15, 16, 17, 18, 19, 20, 21, 22, 23] rfl rfl (by decide) (by decide) hk1 hFc hP1 hD1 rfl (by decide) rfl
    clear hP hD hPc hDc hFc hP1 hD1 hk1 hz1 ht hvm hG
    obtain ⟨hP, hD⟩ := hJ
    obtain rfl := Option.some.inj hF
    exact W.lret (v := r12.1) hx hb hr (fun t ht hW => ⟨⟨r12.1, (), rfl, rfl, QB.of ht hP hD⟩, hS.F ht⟩) hS.2.2 dX2_mean_15
  refine lv_if_lt (tgt := 9) hx hb dX2_mean_1 (by decide) (fun hc => ?_) (fun hc => ?_)
  · have hF := ift hc hF
    exact kJ9 tW _ _ _ hF hP hD hS (lv_sub hl [0] rfl)
  · have hF := iff_ hc hF
    refine lv_iload_n hx hb dX2_mean_4 rfl (lv_at hl 1 rfl) ?_
    refine lv_iconst (v := nI 1) hx hb dX2_mean_5 (by decide) ?_
    refine lv_icmp_le (tgt := 16) hx hb dX2_mean_6 (by decide) (fun hc => ?_) (fun hc => ?_)
    · have hF := ift hc hF
      refine lv_aload_n hx hb dX2_mean_16 rfl (lv_at hl 0 rfl) ?_
      refine va_get (D := (dC, dI)) (ci := 2) (v := .ref (a 1)) (C := RX2) (T := TX2) (N := 9) hx hb hts inw_X2_mean_X2 hown hK hP 0 rfl rfl 0 (by decide) (hts (.fieldLink RX2 10 "DeniedOfEachOther" "now" "LDeniedOfEachOther$Town;") (List.mem_of_getElem? (i := 1) rfl)) (fun _ h9 => h9) rfl dX2_mean_17 ?_
      have hPc := hP.sub (ws' := (cwT cI (a 1) (a 2) (a 3) (a 4) (a 5) (a 6) tW.1)) [1, 2, 3, 4, 5, 6] rfl
      have hDc := hD.sub (ws' := (cwT cI (a 1) (a 2) (a 3) (a 4) (a 5) (a 6) tW.1)) [1, 2, 3, 4, 5, 6] (by decide) rfl
      have hFc := va_free (wc := (cwT cI (a 1) (a 2) (a 3) (a 4) (a 5) (a 6) tW.1)) hD hS hA [1, 2, 3, 4, 5, 6] rfl
      refine bd hF (fun r20 hG hF => ?_)
      refine va_calli (va_runVN (As := []) (rest := []) ⟨hx, hb, hml, hown, hts⟩ (c_X1_agesOfLiving l dC dI cI sf s.heap.size N (a 1) (a 2) (a 3) (a 4) (a 5) (a 6) tW.1 r20 hG) ⟨va_cnB 0 hts gX2_mean_X1_agesOfLiving_n197 rfl rfl rfl (hNN.at 31 rfl) (hts (.initialized RX1) (List.mem_of_getElem? (i := 14) rfl)) (by decide +kernel) ⟨Nat.le_of_ble_eq_true rfl, Nat.le_of_ble_eq_true rfl⟩, hts (.instanceMethod yX1_agesOfLiving) (List.mem_of_getElem? (i := 13) rfl), hts (.selects RX1 yX1_agesOfLiving yX1_agesOfLiving) (List.mem_of_getElem? (i := 15) rfl)⟩ ⟨fun a U g mk q => ⟨q.1, q.2.call⟩, va_recv hK hP (ci := 1) (q0 := 1) rfl rfl, fun U hU hW => ⟨rfl, PB.of hU hW hPc hK hDc hNN hSF hS hFc⟩⟩ rfl rfl hl.1 rfl (lv_room (Nat.le_of_ble_eq_true rfl)) dX2_mean_20 ⟨Nat.le_of_ble_eq_true rfl, Nat.le_of_ble_eq_true rfl⟩) hS (fun q _ h => hFc q h) hFc (fun z_ u_ t H locs ht hvm hw hB hz1 hk1 hS => ?_)
      subst z_
      obtain ⟨hP1, hD1⟩ := hB
      rw [ht] at hP1
      have hJ := vb_join (ws' := (cwX cI a tW)) hP hD [1, 2, 3, 4, 5, 6] [0, 7, 8, 9, 10, 11, 12, 13, 14, 15, 16, 17, 18, 19, 20, 21, 22, 23] [0, 18, 19, 20, 21, 22, 23, 1, 2, 3, 4, 5, 6, 7, 8, 9, 10, 11, 12, 13, 14, 15, 16, 17] rfl rfl (by decide) (by decide) hk1 hFc hP1 hD1 rfl (by decide) rfl
      clear hP hD hPc hDc hFc hP1 hD1 hk1 hz1 ht hvm hG
      obtain ⟨hP, hD⟩ := hJ
      refine lv_i2l (v := r20.toInt64) hx hb dX2_mean_23 rfl ?_
      refine lv_aload_n hx hb dX2_mean_24 rfl (lv_at hl 0 rfl) ?_
      refine va_get (D := (dC, dI)) (ci := 2) (v := .ref (a 1)) (C := RX2) (T := TX2) (N := 9) hx hb hts inw_X2_mean_X2 hown hK hP 0 rfl rfl 0 (by decide) (hts (.fieldLink RX2 10 "DeniedOfEachOther" "now" "LDeniedOfEachOther$Town;") (List.mem_of_getElem? (i := 1) rfl)) (fun _ h9 => h9) rfl dX2_mean_25 ?_
      have hPc := hP.sub (ws' := (cwT cI (a 1) (a 2) (a 3) (a 4) (a 5) (a 6) tW.1)) [1, 2, 3, 4, 5, 6] rfl
      have hDc := hD.sub (ws' := (cwT cI (a 1) (a 2) (a 3) (a 4) (a 5) (a 6) tW.1)) [1, 2, 3, 4, 5, 6] (by decide) rfl
      have hFc := va_free (wc := (cwT cI (a 1) (a 2) (a 3) (a 4) (a 5) (a 6) tW.1)) hD hS hA [1, 2, 3, 4, 5, 6] rfl
      refine bd hF (fun r28 hG hF => ?_)
      refine va_calli (va_runVN (As := []) (rest := [.long r20.toInt64]) ⟨hx, hb, hml, hown, hts⟩ (c_X1_howManyLive l dC dI cI sf H.size N (a 1) (a 2) (a 3) (a 4) (a 5) (a 6) tW.1 r28 hG) ⟨va_cnB 0 hts gX2_mean_X1_howManyLive_n111 rfl rfl rfl (hNN.at 17 rfl) (hts (.initialized RX1) (List.mem_of_getElem? (i := 14) rfl)) (by decide +kernel) ⟨Nat.le_of_ble_eq_true rfl, Nat.le_of_ble_eq_true rfl⟩, hts (.instanceMethod yX1_howManyLive) (List.mem_of_getElem? (i := 24) rfl), hts (.selects RX1 yX1_howManyLive yX1_howManyLive) (List.mem_of_getElem? (i := 25) rfl)⟩ ⟨fun a U g mk q => ⟨q.1, q.2.call⟩, va_recv hK hP (ci := 1) (q0 := 1) rfl rfl, fun U hU hW => ⟨rfl, PB.of hU hW hPc hK hDc hNN hSF hS hFc⟩⟩ rfl rfl hl.1 rfl (lv_room (Nat.le_of_ble_eq_true rfl)) dX2_mean_28 ⟨Nat.le_of_ble_eq_true rfl, Nat.le_of_ble_eq_true rfl⟩) hS (fun q _ h => hFc q h) hFc (fun z_ u_ t H locs ht hvm hw hB hz1 hk1 hS => ?_)
      subst z_
      obtain ⟨hP1, hD1⟩ := hB
      rw [ht] at hP1
      have hJ := vb_join (ws' := (cwX cI a tW)) hP hD [1, 2, 3, 4, 5, 6] [0, 7, 8, 9, 10, 11, 12, 13, 14, 15, 16, 17, 18, 19, 20, 21, 22, 23] [0, 18, 19, 20, 21, 22, 23, 1, 2, 3, 4, 5, 6, 7, 8, 9, 10, 11, 12, 13, 14, 15, 16, 17] rfl rfl (by decide) (by decide) hk1 hFc hP1 hD1 rfl (by decide) rfl
      clear hP hD hPc hDc hFc hP1 hD1 hk1 hz1 ht hvm hG
      obtain ⟨hP, hD⟩ := hJ
      refine lv_i2l (v := r28.toInt64) hx hb dX2_mean_31 rfl ?_
      refine lv_iload_n hx hb dX2_mean_32 rfl (lv_at hl 1 rfl) ?_
      have hPc := hP.sub (ws' := ([] : va_W)) [] rfl
      have hDc := hD.sub (ws' := ([] : va_W)) [] (by decide) rfl
      have hFc := va_free (wc := ([] : va_W)) hD hS hA [] rfl
      refine bd hF (fun r33 hG hF => ?_)
      refine va_calll (va_runS (As := [.long r20.toInt64, .long r28.toInt64, .int p1]) (rest := []) ⟨hx, hb, hml, hown, hts⟩ (c_X2_leastTerms l dC dI cI sf H.size N  r20.toInt64 r28.toInt64 p1 r33 hG) (va_cwS 3 hts gX2_mean_X2_leastTerms rfl rfl rfl (by decide +kernel) ⟨Nat.le_of_ble_eq_true rfl, Nat.le_of_ble_eq_true rfl⟩) ⟨fun a U g mk q => ⟨q.1, q.2.call⟩, fun U hU hW => ⟨rfl, PB.of hU hW hPc hK hDc hNN hSF hS hFc⟩⟩ rfl rfl hl.1 rfl (lv_room (Nat.le_of_ble_eq_true rfl)) dX2_mean_33 ⟨Nat.le_of_ble_eq_true rfl, Nat.le_of_ble_eq_true rfl⟩) hS (fun q _ h => hFc q h) hFc (fun z_ u_ t H locs ht hvm hw hB hz1 hk1 hS => ?_)
      subst z_
      obtain ⟨hP1, hD1⟩ := hB
      rw [ht] at hP1
      have hJ := vb_join (ws' := (cwX cI a tW)) hP hD [] [0, 1, 2, 3, 4, 5, 6, 7, 8, 9, 10, 11, 12, 13, 14, 15, 16, 17, 18, 19, 20, 21, 22, 23] [0, 1, 2, 3, 4, 5, 6, 7, 8, 9, 10, 11, 12, 13, 14, 15, 16, 17, 18, 19, 20, 21, 22, 23] rfl rfl (by decide) (by decide) hk1 hFc hP1 hD1 rfl (by decide) rfl
      clear hP hD hPc hDc hFc hP1 hD1 hk1 hz1 ht hvm hG
      obtain ⟨hP, hD⟩ := hJ
      obtain rfl := Option.some.inj hF
      exact W.lret (v := r33) hx hb hr (fun t ht hW => ⟨⟨r33, (), rfl, rfl, QB.of ht hP hD⟩, hS.F ht⟩) hS.2.2 dX2_mean_36
    · have hF := iff_ hc hF
      exact kJ9 tW _ _ _ hF hP hD hS (lv_sub hl [0] rfl)
theorem inw_X2_mindSaysRow_X2 : ∀ w ∈ u_ws RX2 TX2 9, w ∈ wsX2_mindSaysRow := fun _ h => List.mem_cons_of_mem _ (List.mem_append_left _ (List.mem_append_right _ h))
theorem inw_X2_mindSaysRow_X1 : ∀ w ∈ u_ws RX1 TX1 8, w ∈ wsX2_mindSaysRow := fun _ h => List.mem_cons_of_mem _ (List.mem_append_right _ h)
set_option maxHeartbeats 4000000 in
set_option maxRecDepth 100000 in
theorem c_X2_mindSaysRow (l : Launch) (dC : Nat → ClassId) (dI : Nat → Nat → Nat) (cI : ClassId) (sf : SFP) (sz : Nat) (N : Nat) (a : Nat → Nat) (tW : XS) (p1 : Int32) (p2 : Int32) (r : (Int32 × XS)) (hF : F_X2_mindSaysRow N tW p1 p2 = some r) : Met l yX2_mindSaysRow wsX2_mindSaysRow ({ frames := 5, cells := 0, slots := 0, locals := 122 }) (va_Pc [.ref (a 0), .int p1, .int p2] (PB (dC, dI) cI (cwX cI a tW) sz sf)) (va_Qi (fun (z : Int32) (_ : Unit) => z = r.1) (fun _ t => QB (dC, dI) (cwX cI a r.2) (va_A (cwX cI a tW) sz) t) (va_A (cwX cI a tW) sz)) 0 0 (va_A (cwX cI a tW) sz) := by
  refine Met.ofW (cc := cX2_mindSaysRow) (maxL := 4) (ret := (some .boolean)) (by decide) rfl ?_
  intro p e s m args below meth c s₁ B hml hv
  obtain ⟨rfl, hsz, hP, hK, hD0, hNN, hSF⟩ := hv
  have hx := B.exec
  have hb := B.bytes
  have hr := B.returns
  have hts := atoms_spec (ws := wsX2_mindSaysRow) B.pre
  have hown : s.vm.findClass RX2 = some m.cls := findClass_of_methodNamed B.named
  have hlocks := B.notSynchronized
  subst hsz
  have hD := hD0.self (sz := s.heap.size)
  generalize hAe : va_A (cwX cI a tW) s.heap.size = A at hD hSF ⊢
  have hA : ∀ q : Nat, s.heap.size ≤ q → A q := fun q h => by rw [← hAe]; exact Or.inr h
  clear hAe hD0
  have hS : va_S A s.heap s.heap [] := va_S.rf
  have hl := lv_entry ([.ref (a 0), .int p1, .int p2]) (n := 4) (Nat.le_of_ble_eq_true rfl)
  rw [lg_entry_eq]
  generalize (lg_sl ([.ref (a 0), .int p1, .int p2]) ++ List.replicate (4 - (lg_sl ([.ref (a 0), .int p1, .int p2])).length) Slot.unset).toArray = ls at hl ⊢
  have hl : lv_has ls 4 [(0, .ref (a 0)), (1, .int p1), (2, .int p2)] := hl
  rw [F_X2_mindSaysRow] at hF
  refine lv_iconst (v := nI 0) hx hb dX2_mindSaysRow_0 (by decide) ?_
  refine vW_have (fun R av Q => ∀ (n2 : Nat) (tW : XS) (x1 : Int32) (x2 : Int32) (x3 : Int32) (H : Heap) (locs : List Loc) (ls : Array Slot), F_X2_mindSaysRow_2 N n2 tW x1 x2 x3 = some r → va_P (dC, dI) vwCl (cwX cI a tW) H → va_D A (cwX cI a tW) → va_S A s.heap H locs → lv_has ls 4 [(0, .ref (a 0)), (1, .int x1), (2, .int x2), (3, .int x3)] → W p l e R s m av below meth c H locs 0 0 Q (F0 m 2 ls [])) ?_ (fun kJ2 => ?_)
  · intro n2
    induction n2 with
    | zero => intro tW x1 x2 x3 H locs ls hF; exact nn hF
    | succ n2 ih2 =>
      intro tW x1 x2 x3 H locs ls hF hP hD hS hl
      rw [F_X2_mindSaysRow_2] at hF
      refine lv_iload_n hx hb dX2_mindSaysRow_2 rfl (lv_at hl 3 rfl) ?_
      refine lv_aload_n hx hb dX2_mindSaysRow_3 rfl (lv_at hl 0 rfl) ?_
      refine va_get (D := (dC, dI)) (ci := 2) (v := .int tW.2.2.2.2.2.2.1) (C := RX2) (T := TX2) (N := 9) hx hb hts inw_X2_mindSaysRow_X2 hown hK hP 0 rfl rfl 6 (by decide) (hts (.fieldLink RX2 37 "DeniedOfEachOther" "rowSize" "I") (List.mem_of_getElem? (i := 1) rfl)) (fun _ h9 => h9) rfl dX2_mindSaysRow_4 ?_
      refine lv_icmp_ge (tgt := 45) hx hb dX2_mindSaysRow_7 (by decide) (fun hc => ?_) (fun hc => ?_)
      · have hF := ift hc hF
        refine lv_iconst (v := nI 1) hx hb dX2_mindSaysRow_45 (by decide) ?_
        obtain rfl := Option.some.inj hF
        exact W.zret (v := (nI 1)) (ty := .boolean) hx hb hr (by decide +kernel) (fun t ht hW => ⟨⟨(nI 1), (), rfl, rfl, QB.of ht hP hD⟩, hS.F ht⟩) hS.2.2 dX2_mindSaysRow_46
      · have hF := iff_ hc hF
        refine lv_aload_n hx hb dX2_mindSaysRow_10 rfl (lv_at hl 0 rfl) ?_
        refine va_get (D := (dC, dI)) (ci := 2) (v := .ref (a 7)) (C := RX2) (T := TX2) (N := 9) hx hb hts inw_X2_mindSaysRow_X2 hown hK hP 0 rfl rfl 1 (by decide) (hts (.fieldLink RX2 16 "DeniedOfEachOther" "mind" "LDeniedOfEachOther$Town;") (List.mem_of_getElem? (i := 2) rfl)) (fun _ h9 => h9) rfl dX2_mindSaysRow_11 ?_
        refine lv_iload_n hx hb dX2_mindSaysRow_14 rfl (lv_at hl 1 rfl) ?_
        refine lv_iload_n hx hb dX2_mindSaysRow_15 rfl (lv_at hl 2 rfl) ?_
        have hPc := hP.sub (ws' := (cwT cI (a 7) (a 8) (a 9) (a 10) (a 11) (a 12) tW.2.1)) [7, 8, 9, 10, 11, 12] rfl
        have hDc := hD.sub (ws' := (cwT cI (a 7) (a 8) (a 9) (a 10) (a 11) (a 12) tW.2.1)) [7, 8, 9, 10, 11, 12] (by decide) rfl
        have hFc := va_free (wc := (cwT cI (a 7) (a 8) (a 9) (a 10) (a 11) (a 12) tW.2.1)) hD hS hA [7, 8, 9, 10, 11, 12] rfl
        refine bd hF (fun r16 hG hF => ?_)
        refine va_calli (va_runVN (As := [.int x1, .int x2]) (rest := []) ⟨hx, hb, hml, hown, hts⟩ (c_X1_wordOf l dC dI cI sf H.size N (a 7) (a 8) (a 9) (a 10) (a 11) (a 12) tW.2.1 x1 x2 r16 hG) ⟨va_cnB 2 hts gX2_mindSaysRow_X1_wordOf_n97 rfl rfl rfl (hNN.at 13 rfl) (hts (.initialized RX1) (List.mem_of_getElem? (i := 5) rfl)) (by decide +kernel) ⟨Nat.le_of_ble_eq_true rfl, Nat.le_of_ble_eq_true rfl⟩, hts (.instanceMethod yX1_wordOf) (List.mem_of_getElem? (i := 4) rfl), hts (.selects RX1 yX1_wordOf yX1_wordOf) (List.mem_of_getElem? (i := 6) rfl)⟩ ⟨fun a U g mk q => ⟨q.1, q.2.call⟩, va_recv hK hP (ci := 1) (q0 := 7) rfl rfl, fun U hU hW => ⟨rfl, PB.of hU hW hPc hK hDc hNN hSF hS hFc⟩⟩ rfl rfl hl.1 rfl (lv_room (Nat.le_of_ble_eq_true rfl)) dX2_mindSaysRow_16 ⟨Nat.le_of_ble_eq_true rfl, Nat.le_of_ble_eq_true rfl⟩) hS (fun q _ h => hFc q h) hFc (fun z_ u_ t H locs ht hvm hw hB hz1 hk1 hS => ?_)
        subst z_
        obtain ⟨hP1, hD1⟩ := hB
        rw [ht] at hP1
        have hJ := vb_join (ws' := (cwX cI a tW)) hP hD [7, 8, 9, 10, 11, 12] [0, 1, 2, 3, 4, 5, 6, 13, 14, 15, 16, 17, 18, 19, 20, 21, 22, 23] [0, 1, 2, 3, 4, 5, 6, 18, 19, 20, 21, 22, 23, 7, 8, 9, 10, 11, 12, 13, 14, 15, 16, 17] rfl rfl (by decide) (by decide) hk1 hFc hP1 hD1 rfl (by decide) rfl
        clear hP hD hPc hDc hFc hP1 hD1 hk1 hz1 ht hvm hG
        obtain ⟨hP, hD⟩ := hJ
        refine lv_aload_n hx hb dX2_mindSaysRow_19 rfl (lv_at hl 0 rfl) ?_
        refine va_get (D := (dC, dI)) (ci := 2) (v := .ref (a 21)) (C := RX2) (T := TX2) (N := 9) hx hb hts inw_X2_mindSaysRow_X2 hown hK hP 0 rfl rfl 5 (by decide) (hts (.fieldLink RX2 33 "DeniedOfEachOther" "row" "[I") (List.mem_of_getElem? (i := 3) rfl)) (fun _ h9 => h9) rfl dX2_mindSaysRow_20 ?_
        refine lv_iload_n hx hb dX2_mindSaysRow_23 rfl (lv_at hl 3 rfl) ?_
        refine cki hF (fun hi hF => ?_)
        refine va_iald (D := (dC, dI)) hx hb hK hP 21 0 rfl rfl hi dX2_mindSaysRow_24 ?_
        refine lv_icmp_eq (tgt := 30) hx hb dX2_mindSaysRow_25 (by decide) (fun hc => ?_) (fun hc => ?_)
        · have hF := ift hc hF
          refine lv_aload_n hx hb dX2_mindSaysRow_30 rfl (lv_at hl 0 rfl) ?_
          refine va_get (D := (dC, dI)) (ci := 2) (v := .ref (a 7)) (C := RX2) (T := TX2) (N := 9) hx hb hts inw_X2_mindSaysRow_X2 hown hK hP 0 rfl rfl 1 (by decide) (hts (.fieldLink RX2 16 "DeniedOfEachOther" "mind" "LDeniedOfEachOther$Town;") (List.mem_of_getElem? (i := 2) rfl)) (fun _ h9 => h9) rfl dX2_mindSaysRow_31 ?_
          refine lv_iload_n hx hb dX2_mindSaysRow_34 rfl (lv_at hl 2 rfl) ?_
          refine lv_iconst (v := nI 1) hx hb dX2_mindSaysRow_35 (by decide) ?_
          have hPc := hP.sub (ws' := (cwT cI (a 7) (a 8) (a 9) (a 10) (a 11) (a 12) tW.2.1)) [7, 8, 9, 10, 11, 12] rfl
          have hDc := hD.sub (ws' := (cwT cI (a 7) (a 8) (a 9) (a 10) (a 11) (a 12) tW.2.1)) [7, 8, 9, 10, 11, 12] (by decide) rfl
          have hFc := va_free (wc := (cwT cI (a 7) (a 8) (a 9) (a 10) (a 11) (a 12) tW.2.1)) hD hS hA [7, 8, 9, 10, 11, 12] rfl
          refine bd hF (fun r36 hG hF => ?_)
          refine va_callv (va_runVN (As := [.int x2, .int (nI 1)]) (rest := []) ⟨hx, hb, hml, hown, hts⟩ (c_X1_passFor l dC dI cI sf H.size N (a 7) (a 8) (a 9) (a 10) (a 11) (a 12) tW.2.1 x2 (nI 1) r36 hG) ⟨va_cnB 2 hts gX2_mindSaysRow_X1_passFor_n124 rfl rfl rfl (hNN.at 21 rfl) (hts (.initialized RX1) (List.mem_of_getElem? (i := 5) rfl)) (by decide +kernel) ⟨Nat.le_of_ble_eq_true rfl, Nat.le_of_ble_eq_true rfl⟩, hts (.instanceMethod yX1_passFor) (List.mem_of_getElem? (i := 10) rfl), hts (.selects RX1 yX1_passFor yX1_passFor) (List.mem_of_getElem? (i := 11) rfl)⟩ ⟨fun a U g mk q => ⟨q.1, q.2.call⟩, va_recv hK hP (ci := 1) (q0 := 7) rfl rfl, fun U hU hW => ⟨rfl, PB.of hU hW hPc hK hDc hNN hSF hS hFc⟩⟩ rfl rfl hl.1 rfl (lv_room (Nat.le_of_ble_eq_true rfl)) dX2_mindSaysRow_36 ⟨Nat.le_of_ble_eq_true rfl, Nat.le_of_ble_eq_true rfl⟩) hS (fun q _ h => hFc q h) hFc (fun u_ t H locs ht hvm hw hB hz1 hk1 hS => ?_)
          obtain ⟨hP1, hD1⟩ := hB
          rw [ht] at hP1
          have hJ := vb_join (ws' := (cwX cI a (tW.1, r36, tW.2.2.1, tW.2.2.2.1, tW.2.2.2.2.1, tW.2.2.2.2.2.1, tW.2.2.2.2.2.2.1, tW.2.2.2.2.2.2.2.1, tW.2.2.2.2.2.2.2.2))) hP hD [7, 8, 9, 10, 11, 12] [0, 1, 2, 3, 4, 5, 6, 13, 14, 15, 16, 17, 18, 19, 20, 21, 22, 23] [0, 1, 2, 3, 4, 5, 6, 18, 19, 20, 21, 22, 23, 7, 8, 9, 10, 11, 12, 13, 14, 15, 16, 17] rfl rfl (by decide) (by decide) hk1 hFc hP1 hD1 rfl (by decide) rfl
          clear hP hD hPc hDc hFc hP1 hD1 hk1 hz1 ht hvm hG
          obtain ⟨hP, hD⟩ := hJ
          refine lv_iinc (v := x3 + (nI 1)) (lv' := [(3, .int (x3 + (nI 1))), (0, .ref (a 0)), (1, .int x1), (2, .int x2)]) hx hb dX2_mindSaysRow_39 hl (k := 3) rfl (by rfl) (by decide) rfl (fun ls hl => ?_)
          refine lv_goto (tgt := 2) hx hb dX2_mindSaysRow_42 (by decide) ?_
          exact ih2 (tW.1, r36, tW.2.2.1, tW.2.2.2.1, tW.2.2.2.2.1, tW.2.2.2.2.2.1, tW.2.2.2.2.2.2.1, tW.2.2.2.2.2.2.2.1, tW.2.2.2.2.2.2.2.2) x1 x2 (x3 + (nI 1)) _ _ _ hF hP hD hS (lv_sub hl [1, 2, 3, 0] rfl)
        · have hF := iff_ hc hF
          refine lv_iconst (v := nI 0) hx hb dX2_mindSaysRow_28 (by decide) ?_
          obtain rfl := Option.some.inj hF
          exact W.zret (v := (nI 0)) (ty := .boolean) hx hb hr (by decide +kernel) (fun t ht hW => ⟨⟨(nI 0), (), rfl, rfl, QB.of ht hP hD⟩, hS.F ht⟩) hS.2.2 dX2_mindSaysRow_29
  refine lv_istore_n (lv' := [(3, .int (nI 0)), (0, .ref (a 0)), (1, .int p1), (2, .int p2)]) hx hb dX2_mindSaysRow_1 rfl hl (by decide) rfl (fun ls hl => ?_)
  exact kJ2 N tW p1 p2 (nI 0) _ _ _ hF hP hD hS (lv_sub hl [1, 2, 3, 0] rfl)
theorem inw_X2_on_X2 : ∀ w ∈ u_ws RX2 TX2 9, w ∈ wsX2_on := fun _ h => List.mem_cons_of_mem _ (List.mem_append_left _ (List.mem_append_right _ h))
theorem inw_X2_on_X1 : ∀ w ∈ u_ws RX1 TX1 8, w ∈ wsX2_on := fun _ h => List.mem_cons_of_mem _ (List.mem_append_right _ h)
set_option maxHeartbeats 4000000 in
set_option maxRecDepth 100000 in
theorem c_X2_on (l : Launch) (dC : Nat → ClassId) (dI : Nat → Nat → Nat) (cI : ClassId) (sf : SFP) (sz : Nat) (N : Nat) (a : Nat → Nat) (tW : XS) (r : (Int32 × XS)) (hF : F_X2_on N tW = some r) : Met l yX2_on wsX2_on ({ frames := 2, cells := 0, slots := 0, locals := 81 }) (va_Pc [.ref (a 0)] (PB (dC, dI) cI (cwX cI a tW) sz sf)) (va_Qi (fun (z : Int32) (_ : Unit) => z = r.1) (fun _ t => QB (dC, dI) (cwX cI a r.2) (va_A (cwX cI a tW) sz) t) (va_A (cwX cI a tW) sz)) 0 0 (va_A (cwX cI a tW) sz) := by
  refine Met.ofW (cc := cX2_on) (maxL := 1) (ret := (some .int)) (by decide) rfl ?_
  intro p e s m args below meth c s₁ B hml hv
  obtain ⟨rfl, hsz, hP, hK, hD0, hNN, hSF⟩ := hv
  have hx := B.exec
  have hb := B.bytes
  have hr := B.returns
  have hts := atoms_spec (ws := wsX2_on) B.pre
  have hown : s.vm.findClass RX2 = some m.cls := findClass_of_methodNamed B.named
  have hlocks := B.notSynchronized
  subst hsz
  have hD := hD0.self (sz := s.heap.size)
  generalize hAe : va_A (cwX cI a tW) s.heap.size = A at hD hSF ⊢
  have hA : ∀ q : Nat, s.heap.size ≤ q → A q := fun q h => by rw [← hAe]; exact Or.inr h
  clear hAe hD0
  have hS : va_S A s.heap s.heap [] := va_S.rf
  have hl := lv_entry ([.ref (a 0)]) (n := 1) (Nat.le_of_ble_eq_true rfl)
  rw [lg_entry_eq]
  generalize (lg_sl ([.ref (a 0)]) ++ List.replicate (1 - (lg_sl ([.ref (a 0)])).length) Slot.unset).toArray = ls at hl ⊢
  have hl : lv_has ls 1 [(0, .ref (a 0))] := hl
  rw [F_X2_on] at hF
  refine lv_aload_n hx hb dX2_on_0 rfl (lv_at hl 0 rfl) ?_
  refine va_get (D := (dC, dI)) (ci := 2) (v := .int tW.2.2.2.1) (C := RX2) (T := TX2) (N := 9) hx hb hts inw_X2_on_X2 hown hK hP 0 rfl rfl 3 (by decide) (hts (.fieldLink RX2 22 "DeniedOfEachOther" "isTaken" "Z") (List.mem_of_getElem? (i := 1) rfl)) (fun _ h9 => h9) rfl dX2_on_1 ?_
  refine lv_if_ne (tgt := 14) hx hb dX2_on_4 (by decide) (fun hc => ?_) (fun hc => ?_)
  · have hF := ift hc hF
    refine lv_aload_n hx hb dX2_on_14 rfl (lv_at hl 0 rfl) ?_
    refine va_get (D := (dC, dI)) (ci := 2) (v := .ref (a 1)) (C := RX2) (T := TX2) (N := 9) hx hb hts inw_X2_on_X2 hown hK hP 0 rfl rfl 0 (by decide) (hts (.fieldLink RX2 10 "DeniedOfEachOther" "now" "LDeniedOfEachOther$Town;") (List.mem_of_getElem? (i := 2) rfl)) (fun _ h9 => h9) rfl dX2_on_15 ?_
    refine lv_aload_n hx hb dX2_on_18 rfl (lv_at hl 0 rfl) ?_
    refine va_get (D := (dC, dI)) (ci := 2) (v := .ref (a 13)) (C := RX2) (T := TX2) (N := 9) hx hb hts inw_X2_on_X2 hown hK hP 0 rfl rfl 2 (by decide) (hts (.fieldLink RX2 19 "DeniedOfEachOther" "taken" "LDeniedOfEachOther$Town;") (List.mem_of_getElem? (i := 3) rfl)) (fun _ h9 => h9) rfl dX2_on_19 ?_
    have hPc := hP.sub (ws' := (cwT cI (a 1) (a 2) (a 3) (a 4) (a 5) (a 6) tW.1 ++ cwT cI (a 13) (a 14) (a 15) (a 16) (a 17) (a 18) tW.2.2.1)) [1, 2, 3, 4, 5, 6, 13, 14, 15, 16, 17, 18] rfl
    have hDc := hD.sub (ws' := (cwT cI (a 1) (a 2) (a 3) (a 4) (a 5) (a 6) tW.1 ++ cwT cI (a 13) (a 14) (a 15) (a 16) (a 17) (a 18) tW.2.2.1)) [1, 2, 3, 4, 5, 6, 13, 14, 15, 16, 17, 18] (by decide) rfl
    have hFc := va_free (wc := (cwT cI (a 1) (a 2) (a 3) (a 4) (a 5) (a 6) tW.1 ++ cwT cI (a 13) (a 14) (a 15) (a 16) (a 17) (a 18) tW.2.2.1)) hD hS hA [1, 2, 3, 4, 5, 6, 13, 14, 15, 16, 17, 18] rfl
    refine bd hF (fun r22 hG hF => ?_)
    refine va_callv (va_runVN (As := [.ref (a 13)]) (rest := []) ⟨hx, hb, hml, hown, hts⟩ (c_X1_become l dC dI cI sf s.heap.size N (a 1) (a 2) (a 3) (a 4) (a 5) (a 6) (a 13) (a 14) (a 15) (a 16) (a 17) (a 18) tW.1 tW.2.2.1 r22 hG) ⟨va_cnB 1 hts gX2_on_X1_become_n61 rfl rfl rfl (hNN.at 2 rfl) (hts (.initialized RX1) (List.mem_of_getElem? (i := 11) rfl)) (by decide +kernel) ⟨Nat.le_of_ble_eq_true rfl, Nat.le_of_ble_eq_true rfl⟩, hts (.instanceMethod yX1_become) (List.mem_of_getElem? (i := 10) rfl), hts (.selects RX1 yX1_become yX1_become) (List.mem_of_getElem? (i := 12) rfl)⟩ ⟨fun a U g mk q => ⟨q.1, q.2.call⟩, va_recv hK hP (ci := 1) (q0 := 1) rfl rfl, fun U hU hW => ⟨rfl, PB.of hU hW hPc hK hDc hNN hSF hS hFc⟩⟩ rfl rfl hl.1 rfl (lv_room (Nat.le_of_ble_eq_true rfl)) dX2_on_22 ⟨Nat.le_of_ble_eq_true rfl, Nat.le_of_ble_eq_true rfl⟩) hS (fun q _ h => hFc q h) hFc (fun u_ t H locs ht hvm hw hB hz1 hk1 hS => ?_)
    obtain ⟨hP1, hD1⟩ := hB
    rw [ht] at hP1
    have hJ := vb_join (ws' := (cwX cI a (r22, tW.2.1, tW.2.2.1, tW.2.2.2.1, tW.2.2.2.2.1, tW.2.2.2.2.2.1, tW.2.2.2.2.2.2.1, tW.2.2.2.2.2.2.2.1, tW.2.2.2.2.2.2.2.2))) hP hD [1, 2, 3, 4, 5, 6, 13, 14, 15, 16, 17, 18] [0, 7, 8, 9, 10, 11, 12, 19, 20, 21, 22, 23] [0, 12, 13, 14, 15, 16, 17, 1, 2, 3, 4, 5, 6, 18, 19, 20, 21, 22, 23, 7, 8, 9, 10, 11] rfl rfl (by decide) (by decide) hk1 hFc hP1 hD1 rfl (by decide) rfl
    clear hP hD hPc hDc hFc hP1 hD1 hk1 hz1 ht hvm hG
    obtain ⟨hP, hD⟩ := hJ
    refine lv_aload_n hx hb dX2_on_25 rfl (lv_at hl 0 rfl) ?_
    refine va_get (D := (dC, dI)) (ci := 2) (v := .ref (a 1)) (C := RX2) (T := TX2) (N := 9) hx hb hts inw_X2_on_X2 hown hK hP 0 rfl rfl 0 (by decide) (hts (.fieldLink RX2 10 "DeniedOfEachOther" "now" "LDeniedOfEachOther$Town;") (List.mem_of_getElem? (i := 2) rfl)) (fun _ h9 => h9) rfl dX2_on_26 ?_
    refine va_getN (D := (dC, dI)) (ci := 1) (v := .int r22.2.2.2.2.2.2.2) (C := RX1) (T := TX1) (N := 8) hx hb hts inw_X2_on_X1 hown hK hP 1 rfl rfl 7 (by decide) (hNN.use 39 rfl) (fun _ h9 => h9) rfl dX2_on_29 ?_
    obtain rfl := Option.some.inj hF
    exact W.iret (v := r22.2.2.2.2.2.2.2) hx hb hr (fun t ht hW => ⟨⟨r22.2.2.2.2.2.2.2, (), rfl, rfl, QB.of ht hP hD⟩, hS.F ht⟩) hS.2.2 dX2_on_32
  · have hF := iff_ (fun h => h hc) hF
    refine lv_aload_n hx hb dX2_on_7 rfl (lv_at hl 0 rfl) ?_
    refine lv_bipush (v := (-3)) hx hb dX2_on_8 (by decide) ?_
    have hPc := hP.sub (ws' := (cwX cI a tW)) [0, 1, 2, 3, 4, 5, 6, 7, 8, 9, 10, 11, 12, 13, 14, 15, 16, 17, 18, 19, 20, 21, 22, 23] rfl
    have hDc := hD.sub (ws' := (cwX cI a tW)) [0, 1, 2, 3, 4, 5, 6, 7, 8, 9, 10, 11, 12, 13, 14, 15, 16, 17, 18, 19, 20, 21, 22, 23] (by decide) rfl
    have hFc := va_free (wc := (cwX cI a tW)) hD hS hA [0, 1, 2, 3, 4, 5, 6, 7, 8, 9, 10, 11, 12, 13, 14, 15, 16, 17, 18, 19, 20, 21, 22, 23] rfl
    refine bd hF (fun r10 hG hF => ?_)
    refine va_calli (va_runV (As := [.int (-3)]) (rest := []) ⟨hx, hb, hml, hown, hts⟩ (c_X2_refuse l dC dI cI sf s.heap.size N a tW (-3) r10 hG) (cwV 1 hts gX2_on_X2_refuse rfl rfl rfl (by decide +kernel) ⟨Nat.le_of_ble_eq_true rfl, Nat.le_of_ble_eq_true rfl⟩) ⟨fun a U g mk q => ⟨q.1, q.2.call⟩, va_recv hK hP (ci := 2) (q0 := 0) rfl rfl, fun U hU hW => ⟨rfl, PB.of hU hW hPc hK hDc hNN hSF hS hFc⟩⟩ rfl rfl hl.1 rfl (lv_room (Nat.le_of_ble_eq_true rfl)) dX2_on_10 ⟨Nat.le_of_ble_eq_true rfl, Nat.le_of_ble_eq_true rfl⟩) hS (fun q _ h => hFc q h) hFc (fun z_ u_ t H locs ht hvm hw hB hz1 hk1 hS => ?_)
    subst z_
    obtain ⟨hP1, hD1⟩ := hB
    rw [ht] at hP1
    have hJ := vb_join (ws' := (cwX cI a r10.2)) hP hD [0, 1, 2, 3, 4, 5, 6, 7, 8, 9, 10, 11, 12, 13, 14, 15, 16, 17, 18, 19, 20, 21, 22, 23] [] [0, 1, 2, 3, 4, 5, 6, 7, 8, 9, 10, 11, 12, 13, 14, 15, 16, 17, 18, 19, 20, 21, 22, 23] rfl rfl (by decide) (by decide) hk1 hFc hP1 hD1 rfl (by decide) rfl
    clear hP hD hPc hDc hFc hP1 hD1 hk1 hz1 ht hvm hG
    obtain ⟨hP, hD⟩ := hJ
    obtain rfl := Option.some.inj hF
    exact W.iret (v := r10.1) hx hb hr (fun t ht hW => ⟨⟨r10.1, (), rfl, rfl, QB.of ht hP hD⟩, hS.F ht⟩) hS.2.2 dX2_on_13
theorem inw_X2_quarrel_X2 : ∀ w ∈ u_ws RX2 TX2 9, w ∈ wsX2_quarrel := fun _ h => List.mem_cons_of_mem _ (List.mem_append_left _ (List.mem_append_right _ h))
theorem inw_X2_quarrel_X1 : ∀ w ∈ u_ws RX1 TX1 8, w ∈ wsX2_quarrel := fun _ h => List.mem_cons_of_mem _ (List.mem_append_right _ h)
set_option maxHeartbeats 4000000 in
set_option maxRecDepth 100000 in
theorem c_X2_quarrel (l : Launch) (dC : Nat → ClassId) (dI : Nat → Nat → Nat) (cI : ClassId) (sf : SFP) (sz : Nat) (N : Nat) (a : Nat → Nat) (tW : XS) (p1 : Int32) (r : (Int32 × XS)) (hF : F_X2_quarrel N tW p1 = some r) : Met l yX2_quarrel wsX2_quarrel ({ frames := 6, cells := 0, slots := 0, locals := 144 }) (va_Pc [.ref (a 0), .int p1] (PB (dC, dI) cI (cwX cI a tW) sz sf)) (va_Qi (fun (z : Int32) (_ : Unit) => z = r.1) (fun _ t => QB (dC, dI) (cwX cI a r.2) (va_A (cwX cI a tW) sz) t) (va_A (cwX cI a tW) sz)) 0 0 (va_A (cwX cI a tW) sz) := by
  refine Met.ofW (cc := cX2_quarrel) (maxL := 7) (ret := (some .int)) (by decide) rfl ?_
  intro p e s m args below meth c s₁ B hml hv
  obtain ⟨rfl, hsz, hP, hK, hD0, hNN, hSF⟩ := hv
  have hx := B.exec
  have hb := B.bytes
  have hr := B.returns
  have hts := atoms_spec (ws := wsX2_quarrel) B.pre
  have hown : s.vm.findClass RX2 = some m.cls := findClass_of_methodNamed B.named
  have hlocks := B.notSynchronized
  subst hsz
  have hD := hD0.self (sz := s.heap.size)
  generalize hAe : va_A (cwX cI a tW) s.heap.size = A at hD hSF ⊢
  have hA : ∀ q : Nat, s.heap.size ≤ q → A q := fun q h => by rw [← hAe]; exact Or.inr h
  clear hAe hD0
  have hS : va_S A s.heap s.heap [] := va_S.rf
  have hl := lv_entry ([.ref (a 0), .int p1]) (n := 7) (Nat.le_of_ble_eq_true rfl)
  rw [lg_entry_eq]
  generalize (lg_sl ([.ref (a 0), .int p1]) ++ List.replicate (7 - (lg_sl ([.ref (a 0), .int p1])).length) Slot.unset).toArray = ls at hl ⊢
  have hl : lv_has ls 7 [(0, .ref (a 0)), (1, .int p1)] := hl
  rw [F_X2_quarrel] at hF
  refine lv_iload_n hx hb dX2_quarrel_0 rfl (lv_at hl 1 rfl) ?_
  have hPc := hP.sub (ws' := ([] : va_W)) [] rfl
  have hDc := hD.sub (ws' := ([] : va_W)) [] (by decide) rfl
  have hFc := va_free (wc := ([] : va_W)) hD hS hA [] rfl
  refine bd hF (fun r1 hG hF => ?_)
  refine va_calli (va_runS (As := [.int p1]) (rest := []) ⟨hx, hb, hml, hown, hts⟩ (c_X2_noTopic l dC dI cI sf s.heap.size N  p1 r1 hG) (va_cwS 1 hts gX2_quarrel_X2_noTopic rfl rfl rfl (by decide +kernel) ⟨Nat.le_of_ble_eq_true rfl, Nat.le_of_ble_eq_true rfl⟩) ⟨fun a U g mk q => ⟨q.1, q.2.call⟩, fun U hU hW => ⟨rfl, PB.of hU hW hPc hK hDc hNN hSF hS hFc⟩⟩ rfl rfl hl.1 rfl (lv_room (Nat.le_of_ble_eq_true rfl)) dX2_quarrel_1 ⟨Nat.le_of_ble_eq_true rfl, Nat.le_of_ble_eq_true rfl⟩) hS (fun q _ h => hFc q h) hFc (fun z_ u_ t H locs ht hvm hw hB hz1 hk1 hS => ?_)
  subst z_
  obtain ⟨hP1, hD1⟩ := hB
  rw [ht] at hP1
  have hJ := vb_join (ws' := (cwX cI a tW)) hP hD [] [0, 1, 2, 3, 4, 5, 6, 7, 8, 9, 10, 11, 12, 13, 14, 15, 16, 17, 18, 19, 20, 21, 22, 23] [0, 1, 2, 3, 4, 5, 6, 7, 8, 9, 10, 11, 12, 13, 14, 15, 16, 17, 18, 19, 20, 21, 22, 23] rfl rfl (by decide) (by decide) hk1 hFc hP1 hD1 rfl (by decide) rfl
  clear hP hD hPc hDc hFc hP1 hD1 hk1 hz1 ht hvm hG
  obtain ⟨hP, hD⟩ := hJ
  refine lv_if_eq (tgt := 13) hx hb dX2_quarrel_4 (by decide) (fun hc => ?_) (fun hc => ?_)
  · have hF := ift hc hF
    refine lv_bipush (v := (-9)) hx hb dX2_quarrel_13 (by decide) ?_
    refine lv_istore_n (lv' := [(2, .int (-9)), (0, .ref (a 0)), (1, .int p1)]) hx hb dX2_quarrel_15 rfl hl (by decide) rfl (fun ls hl => ?_)
    refine lv_bipush (v := (-9)) hx hb dX2_quarrel_16 (by decide) ?_
    refine lv_istore_n (lv' := [(3, .int (-9)), (2, .int (-9)), (0, .ref (a 0)), (1, .int p1)]) hx hb dX2_quarrel_18 rfl hl (by decide) rfl (fun ls hl => ?_)
    refine lv_iconst (v := nI 0) hx hb dX2_quarrel_19 (by decide) ?_
    refine vW_have (fun R av Q => ∀ (n22 : Nat) (tW : XS) (x1 : Int32) (x2 : Int32) (x3 : Int32) (x4 : Int32) (H : Heap) (locs : List Loc) (ls : Array Slot), F_X2_quarrel_22 N n22 tW x1 x2 x3 x4 = some r → va_P (dC, dI) vwCl (cwX cI a tW) H → va_D A (cwX cI a tW) → va_S A s.heap H locs → lv_has ls 7 [(0, .ref (a 0)), (1, .int x1), (2, .int x2), (3, .int x3), (4, .int x4)] → W p l e R s m av below meth c H locs 0 0 Q (F0 m 22 ls [])) ?_ (fun kJ22 => ?_)
    · intro n22
      induction n22 with
      | zero => intro tW x1 x2 x3 x4 H locs ls hF; exact nn hF
      | succ n22 ih22 =>
        intro tW x1 x2 x3 x4 H locs ls hF hP hD hS hl
        rw [F_X2_quarrel_22] at hF
        refine lv_iload hx hb dX2_quarrel_22 (lv_at hl 4 rfl) ?_
        refine lv_aload_n hx hb dX2_quarrel_24 rfl (lv_at hl 0 rfl) ?_
        refine va_get (D := (dC, dI)) (ci := 2) (v := .ref (a 1)) (C := RX2) (T := TX2) (N := 9) hx hb hts inw_X2_quarrel_X2 hown hK hP 0 rfl rfl 0 (by decide) (hts (.fieldLink RX2 10 "DeniedOfEachOther" "now" "LDeniedOfEachOther$Town;") (List.mem_of_getElem? (i := 1) rfl)) (fun _ h9 => h9) rfl dX2_quarrel_25 ?_
        refine va_getN (D := (dC, dI)) (ci := 1) (v := .int tW.1.2.2.2.2.2.1) (C := RX1) (T := TX1) (N := 8) hx hb hts inw_X2_quarrel_X1 hown hK hP 1 rfl rfl 5 (by decide) (hNN.use 37 rfl) (fun _ h9 => h9) rfl dX2_quarrel_28 ?_
        refine lv_icmp_ge (tgt := 124) hx hb dX2_quarrel_31 (by decide) (fun hc => ?_) (fun hc => ?_)
        · have hF := ift hc hF
          refine lv_iload_n hx hb dX2_quarrel_124 rfl (lv_at hl 3 rfl) ?_
          obtain rfl := Option.some.inj hF
          exact W.iret (v := x3) hx hb hr (fun t ht hW => ⟨⟨x3, (), rfl, rfl, QB.of ht hP hD⟩, hS.F ht⟩) hS.2.2 dX2_quarrel_125
        · have hF := iff_ hc hF
          refine lv_iconst (v := nI 0) hx hb dX2_quarrel_34 (by decide) ?_
          refine vW_have (fun R av Q => ∀ (n37 : Nat) (tW : XS) (x1 : Int32) (x2 : Int32) (x3 : Int32) (x4 : Int32) (x5 : Int32) (H : Heap) (locs : List Loc) (ls : Array Slot), F_X2_quarrel_37 N (fun ctW cx1 cx2 cx3 cx4 => F_X2_quarrel_22 N n22 ctW cx1 cx2 cx3 cx4) n37 tW x1 x2 x3 x4 x5 = some r → va_P (dC, dI) vwCl (cwX cI a tW) H → va_D A (cwX cI a tW) → va_S A s.heap H locs → lv_has ls 7 [(0, .ref (a 0)), (1, .int x1), (2, .int x2), (3, .int x3), (4, .int x4), (5, .int x5)] → W p l e R s m av below meth c H locs 0 0 Q (F0 m 37 ls [])) ?_ (fun kJ37 => ?_)
          · intro n37
            induction n37 with
            | zero => intro tW x1 x2 x3 x4 x5 H locs ls hF; exact nn hF
            | succ n37 ih37 =>
              intro tW x1 x2 x3 x4 x5 H locs ls hF hP hD hS hl
              rw [F_X2_quarrel_37] at hF
              refine lv_iload hx hb dX2_quarrel_37 (lv_at hl 5 rfl) ?_
              refine lv_aload_n hx hb dX2_quarrel_39 rfl (lv_at hl 0 rfl) ?_
              refine va_get (D := (dC, dI)) (ci := 2) (v := .ref (a 1)) (C := RX2) (T := TX2) (N := 9) hx hb hts inw_X2_quarrel_X2 hown hK hP 0 rfl rfl 0 (by decide) (hts (.fieldLink RX2 10 "DeniedOfEachOther" "now" "LDeniedOfEachOther$Town;") (List.mem_of_getElem? (i := 1) rfl)) (fun _ h9 => h9) rfl dX2_quarrel_40 ?_
              refine va_getN (D := (dC, dI)) (ci := 1) (v := .int tW.1.2.2.2.2.2.1) (C := RX1) (T := TX1) (N := 8) hx hb hts inw_X2_quarrel_X1 hown hK hP 1 rfl rfl 5 (by decide) (hNN.use 37 rfl) (fun _ h9 => h9) rfl dX2_quarrel_43 ?_
              refine vW_have (fun R av Q => ∀ (tW : XS) (x1 : Int32) (x2 : Int32) (x3 : Int32) (x4 : Int32) (H : Heap) (locs : List Loc) (ls : Array Slot), F_X2_quarrel_118 N (fun ctW cx1 cx2 cx3 cx4 => F_X2_quarrel_22 N n22 ctW cx1 cx2 cx3 cx4) tW x1 x2 x3 x4 = some r → va_P (dC, dI) vwCl (cwX cI a tW) H → va_D A (cwX cI a tW) → va_S A s.heap H locs → lv_has ls 7 [(0, .ref (a 0)), (1, .int x1), (2, .int x2), (3, .int x3), (4, .int x4)] → W p l e R s m av below meth c H locs 0 0 Q (F0 m 118 ls [])) ?_ (fun kJ118 => ?_)
              · 
                intro tW x1 x2 x3 x4 H locs ls hF hP hD hS hl
                rw [F_X2_quarrel_118] at hF
                refine lv_iinc (v := x4 + (nI 1)) (lv' := [(4, .int (x4 + (nI 1))), (0, .ref (a 0)), (1, .int x1), (2, .int x2), (3, .int x3)]) hx hb dX2_quarrel_118 hl (k := 4) rfl (by rfl) (by decide) rfl (fun ls hl => ?_)
                refine lv_goto (tgt := 22) hx hb dX2_quarrel_121 (by decide) ?_
                exact ih22 tW x1 x2 x3 (x4 + (nI 1)) _ _ _ hF hP hD hS (lv_sub hl [1, 2, 3, 4, 0] rfl)
              refine lv_icmp_ge (tgt := 118) hx hb dX2_quarrel_46 (by decide) (fun hc => ?_) (fun hc => ?_)
              · have hF := ift hc hF
                exact kJ118 tW x1 x2 x3 x4 _ _ _ hF hP hD hS (lv_sub hl [0, 1, 2, 3, 4] rfl)
              · have hF := iff_ hc hF
                refine lv_iload hx hb dX2_quarrel_49 (lv_at hl 4 rfl) ?_
                refine lv_iload hx hb dX2_quarrel_51 (lv_at hl 5 rfl) ?_
                refine vW_have (fun R av Q => ∀ (tW : XS) (x1 : Int32) (x2 : Int32) (x3 : Int32) (x4 : Int32) (x5 : Int32) (H : Heap) (locs : List Loc) (ls : Array Slot), F_X2_quarrel_112 N (fun ctW cx1 cx2 cx3 cx4 => F_X2_quarrel_22 N n22 ctW cx1 cx2 cx3 cx4) (fun ctW cx1 cx2 cx3 cx4 cx5 => F_X2_quarrel_37 N (fun ctW cx1 cx2 cx3 cx4 => F_X2_quarrel_22 N n22 ctW cx1 cx2 cx3 cx4) n37 ctW cx1 cx2 cx3 cx4 cx5) tW x1 x2 x3 x4 x5 = some r → va_P (dC, dI) vwCl (cwX cI a tW) H → va_D A (cwX cI a tW) → va_S A s.heap H locs → lv_has ls 7 [(0, .ref (a 0)), (1, .int x1), (2, .int x2), (3, .int x3), (4, .int x4), (5, .int x5)] → W p l e R s m av below meth c H locs 0 0 Q (F0 m 112 ls [])) ?_ (fun kJ112 => ?_)
                · 
                  intro tW x1 x2 x3 x4 x5 H locs ls hF hP hD hS hl
                  rw [F_X2_quarrel_112] at hF
                  refine lv_iinc (v := x5 + (nI 1)) (lv' := [(5, .int (x5 + (nI 1))), (0, .ref (a 0)), (1, .int x1), (2, .int x2), (3, .int x3), (4, .int x4)]) hx hb dX2_quarrel_112 hl (k := 5) rfl (by rfl) (by decide) rfl (fun ls hl => ?_)
                  refine lv_goto (tgt := 37) hx hb dX2_quarrel_115 (by decide) ?_
                  exact ih37 tW x1 x2 x3 x4 (x5 + (nI 1)) _ _ _ hF hP hD hS (lv_sub hl [1, 2, 3, 4, 5, 0] rfl)
                refine lv_icmp_eq (tgt := 112) hx hb dX2_quarrel_53 (by decide) (fun hc => ?_) (fun hc => ?_)
                · have hF := ift hc hF
                  exact kJ112 tW x1 x2 x3 x4 x5 _ _ _ hF hP hD hS (lv_sub hl [0, 1, 2, 3, 4, 5] rfl)
                · have hF := iff_ hc hF
                  refine lv_aload_n hx hb dX2_quarrel_56 rfl (lv_at hl 0 rfl) ?_
                  refine va_get (D := (dC, dI)) (ci := 2) (v := .ref (a 1)) (C := RX2) (T := TX2) (N := 9) hx hb hts inw_X2_quarrel_X2 hown hK hP 0 rfl rfl 0 (by decide) (hts (.fieldLink RX2 10 "DeniedOfEachOther" "now" "LDeniedOfEachOther$Town;") (List.mem_of_getElem? (i := 1) rfl)) (fun _ h9 => h9) rfl dX2_quarrel_57 ?_
                  refine lv_iload hx hb dX2_quarrel_60 (lv_at hl 4 rfl) ?_
                  have hPc := hP.sub (ws' := (cwT cI (a 1) (a 2) (a 3) (a 4) (a 5) (a 6) tW.1)) [1, 2, 3, 4, 5, 6] rfl
                  have hDc := hD.sub (ws' := (cwT cI (a 1) (a 2) (a 3) (a 4) (a 5) (a 6) tW.1)) [1, 2, 3, 4, 5, 6] (by decide) rfl
                  have hFc := va_free (wc := (cwT cI (a 1) (a 2) (a 3) (a 4) (a 5) (a 6) tW.1)) hD hS hA [1, 2, 3, 4, 5, 6] rfl
                  refine bd hF (fun r62 hG hF => ?_)
                  refine va_calli (va_runVN (As := [.int x4]) (rest := []) ⟨hx, hb, hml, hown, hts⟩ (c_X1_isLiving l dC dI cI sf H.size N (a 1) (a 2) (a 3) (a 4) (a 5) (a 6) tW.1 x4 r62 hG) ⟨va_cnB 1 hts gX2_quarrel_X1_isLiving_n85 rfl rfl rfl (hNN.at 10 rfl) (hts (.initialized RX1) (List.mem_of_getElem? (i := 12) rfl)) (by decide +kernel) ⟨Nat.le_of_ble_eq_true rfl, Nat.le_of_ble_eq_true rfl⟩, hts (.instanceMethod yX1_isLiving) (List.mem_of_getElem? (i := 11) rfl), hts (.selects RX1 yX1_isLiving yX1_isLiving) (List.mem_of_getElem? (i := 13) rfl)⟩ ⟨fun a U g mk q => ⟨q.1, q.2.call⟩, va_recv hK hP (ci := 1) (q0 := 1) rfl rfl, fun U hU hW => ⟨rfl, PB.of hU hW hPc hK hDc hNN hSF hS hFc⟩⟩ rfl rfl hl.1 rfl (lv_room (Nat.le_of_ble_eq_true rfl)) dX2_quarrel_62 ⟨Nat.le_of_ble_eq_true rfl, Nat.le_of_ble_eq_true rfl⟩) hS (fun q _ h => hFc q h) hFc (fun z_ u_ t H locs ht hvm hw hB hz1 hk1 hS => ?_)
                  subst z_
                  obtain ⟨hP1, hD1⟩ := hB
                  rw [ht] at hP1
                  have hJ := vb_join (ws' := (cwX cI a tW)) hP hD [1, 2, 3, 4, 5, 6] [0, 7, 8, 9, 10, 11, 12, 13, 14, 15, 16, 17, 18, 19, 20, 21, 22, 23] [0, 18, 19, 20, 21, 22, 23, 1, 2, 3, 4, 5, 6, 7, 8, 9, 10, 11, 12, 13, 14, 15, 16, 17] rfl rfl (by decide) (by decide) hk1 hFc hP1 hD1 rfl (by decide) rfl
                  clear hP hD hPc hDc hFc hP1 hD1 hk1 hz1 ht hvm hG
                  obtain ⟨hP, hD⟩ := hJ
                  refine lv_if_eq (tgt := 112) hx hb dX2_quarrel_65 (by decide) (fun hc => ?_) (fun hc => ?_)
                  · have hF := ift hc hF
                    exact kJ112 tW x1 x2 x3 x4 x5 _ _ _ hF hP hD hS (lv_sub hl [0, 1, 2, 3, 4, 5] rfl)
                  · have hF := iff_ hc hF
                    refine lv_aload_n hx hb dX2_quarrel_68 rfl (lv_at hl 0 rfl) ?_
                    refine va_get (D := (dC, dI)) (ci := 2) (v := .ref (a 1)) (C := RX2) (T := TX2) (N := 9) hx hb hts inw_X2_quarrel_X2 hown hK hP 0 rfl rfl 0 (by decide) (hts (.fieldLink RX2 10 "DeniedOfEachOther" "now" "LDeniedOfEachOther$Town;") (List.mem_of_getElem? (i := 1) rfl)) (fun _ h9 => h9) rfl dX2_quarrel_69 ?_
                    refine lv_iload hx hb dX2_quarrel_72 (lv_at hl 5 rfl) ?_
                    have hPc := hP.sub (ws' := (cwT cI (a 1) (a 2) (a 3) (a 4) (a 5) (a 6) tW.1)) [1, 2, 3, 4, 5, 6] rfl
                    have hDc := hD.sub (ws' := (cwT cI (a 1) (a 2) (a 3) (a 4) (a 5) (a 6) tW.1)) [1, 2, 3, 4, 5, 6] (by decide) rfl
                    have hFc := va_free (wc := (cwT cI (a 1) (a 2) (a 3) (a 4) (a 5) (a 6) tW.1)) hD hS hA [1, 2, 3, 4, 5, 6] rfl
                    refine bd hF (fun r74 hG hF => ?_)
                    refine va_calli (va_runVN (As := [.int x5]) (rest := []) ⟨hx, hb, hml, hown, hts⟩ (c_X1_isLiving l dC dI cI sf H.size N (a 1) (a 2) (a 3) (a 4) (a 5) (a 6) tW.1 x5 r74 hG) ⟨va_cnB 1 hts gX2_quarrel_X1_isLiving_n85 rfl rfl rfl (hNN.at 10 rfl) (hts (.initialized RX1) (List.mem_of_getElem? (i := 12) rfl)) (by decide +kernel) ⟨Nat.le_of_ble_eq_true rfl, Nat.le_of_ble_eq_true rfl⟩, hts (.instanceMethod yX1_isLiving) (List.mem_of_getElem? (i := 11) rfl), hts (.selects RX1 yX1_isLiving yX1_isLiving) (List.mem_of_getElem? (i := 13) rfl)⟩ ⟨fun a U g mk q => ⟨q.1, q.2.call⟩, va_recv hK hP (ci := 1) (q0 := 1) rfl rfl, fun U hU hW => ⟨rfl, PB.of hU hW hPc hK hDc hNN hSF hS hFc⟩⟩ rfl rfl hl.1 rfl (lv_room (Nat.le_of_ble_eq_true rfl)) dX2_quarrel_74 ⟨Nat.le_of_ble_eq_true rfl, Nat.le_of_ble_eq_true rfl⟩) hS (fun q _ h => hFc q h) hFc (fun z_ u_ t H locs ht hvm hw hB hz1 hk1 hS => ?_)
                    subst z_
                    obtain ⟨hP1, hD1⟩ := hB
                    rw [ht] at hP1
                    have hJ := vb_join (ws' := (cwX cI a tW)) hP hD [1, 2, 3, 4, 5, 6] [0, 7, 8, 9, 10, 11, 12, 13, 14, 15, 16, 17, 18, 19, 20, 21, 22, 23] [0, 18, 19, 20, 21, 22, 23, 1, 2, 3, 4, 5, 6, 7, 8, 9, 10, 11, 12, 13, 14, 15, 16, 17] rfl rfl (by decide) (by decide) hk1 hFc hP1 hD1 rfl (by decide) rfl
                    clear hP hD hPc hDc hFc hP1 hD1 hk1 hz1 ht hvm hG
                    obtain ⟨hP, hD⟩ := hJ
                    refine lv_if_ne (tgt := 83) hx hb dX2_quarrel_77 (by decide) (fun hc => ?_) (fun hc => ?_)
                    · have hF := ift hc hF
                      refine lv_aload_n hx hb dX2_quarrel_83 rfl (lv_at hl 0 rfl) ?_
                      refine lv_iload hx hb dX2_quarrel_84 (lv_at hl 4 rfl) ?_
                      refine lv_iload hx hb dX2_quarrel_86 (lv_at hl 5 rfl) ?_
                      refine lv_iload_n hx hb dX2_quarrel_88 rfl (lv_at hl 1 rfl) ?_
                      have hPc := hP.sub (ws' := (cwX cI a tW)) [0, 1, 2, 3, 4, 5, 6, 7, 8, 9, 10, 11, 12, 13, 14, 15, 16, 17, 18, 19, 20, 21, 22, 23] rfl
                      have hDc := hD.sub (ws' := (cwX cI a tW)) [0, 1, 2, 3, 4, 5, 6, 7, 8, 9, 10, 11, 12, 13, 14, 15, 16, 17, 18, 19, 20, 21, 22, 23] (by decide) rfl
                      have hFc := va_free (wc := (cwX cI a tW)) hD hS hA [0, 1, 2, 3, 4, 5, 6, 7, 8, 9, 10, 11, 12, 13, 14, 15, 16, 17, 18, 19, 20, 21, 22, 23] rfl
                      refine bd hF (fun r89 hG hF => ?_)
                      refine va_calli (va_runV (As := [.int x4, .int x5, .int x1]) (rest := []) ⟨hx, hb, hml, hown, hts⟩ (c_X2_endOfQuarrel l dC dI cI sf H.size N a tW x4 x5 x1 r89 hG) (cwV 3 hts gX2_quarrel_X2_endOfQuarrel rfl rfl rfl (by decide +kernel) ⟨Nat.le_of_ble_eq_true rfl, Nat.le_of_ble_eq_true rfl⟩) ⟨fun a U g mk q => ⟨q.1, q.2.call⟩, va_recv hK hP (ci := 2) (q0 := 0) rfl rfl, fun U hU hW => ⟨rfl, PB.of hU hW hPc hK hDc hNN hSF hS hFc⟩⟩ rfl rfl hl.1 rfl (lv_room (Nat.le_of_ble_eq_true rfl)) dX2_quarrel_89 ⟨Nat.le_of_ble_eq_true rfl, Nat.le_of_ble_eq_true rfl⟩) hS (fun q _ h => hFc q h) hFc (fun z_ u_ t H locs ht hvm hw hB hz1 hk1 hS => ?_)
                      subst z_
                      obtain ⟨hP1, hD1⟩ := hB
                      rw [ht] at hP1
                      have hJ := vb_join (ws' := (cwX cI a r89.2)) hP hD [0, 1, 2, 3, 4, 5, 6, 7, 8, 9, 10, 11, 12, 13, 14, 15, 16, 17, 18, 19, 20, 21, 22, 23] [] [0, 1, 2, 3, 4, 5, 6, 7, 8, 9, 10, 11, 12, 13, 14, 15, 16, 17, 18, 19, 20, 21, 22, 23] rfl rfl (by decide) (by decide) hk1 hFc hP1 hD1 rfl (by decide) rfl
                      clear hP hD hPc hDc hFc hP1 hD1 hk1 hz1 ht hvm hG
                      obtain ⟨hP, hD⟩ := hJ
                      refine lv_istore (lv' := [(6, .int r89.1), (0, .ref (a 0)), (1, .int x1), (2, .int x2), (3, .int x3), (4, .int x4), (5, .int x5)]) hx hb dX2_quarrel_92 hl (by decide) rfl (fun ls hl => ?_)
                      refine lv_iload hx hb dX2_quarrel_94 (lv_at hl 0 rfl) ?_
                      refine lv_iload_n hx hb dX2_quarrel_96 rfl (lv_at hl 3 rfl) ?_
                      refine lv_icmp_le (tgt := 112) hx hb dX2_quarrel_97 (by decide) (fun hc => ?_) (fun hc => ?_)
                      · have hF := ift hc hF
                        exact kJ112 r89.2 x1 x2 x3 x4 x5 _ _ _ hF hP hD hS (lv_sub hl [1, 2, 3, 4, 5, 6] rfl)
                      · have hF := iff_ hc hF
                        refine lv_iload hx hb dX2_quarrel_100 (lv_at hl 0 rfl) ?_
                        refine lv_istore_n (lv' := [(2, .int r89.1), (6, .int r89.1), (0, .ref (a 0)), (1, .int x1), (3, .int x3), (4, .int x4), (5, .int x5)]) hx hb dX2_quarrel_102 rfl hl (by decide) rfl (fun ls hl => ?_)
                        refine lv_bipush (v := nI 10) hx hb dX2_quarrel_103 (by decide) ?_
                        refine lv_iload hx hb dX2_quarrel_105 (lv_at hl 5 rfl) ?_
                        refine lv_imul hx hb dX2_quarrel_107 ?_
                        refine lv_iload hx hb dX2_quarrel_108 (lv_at hl 6 rfl) ?_
                        refine lv_iadd hx hb dX2_quarrel_110 ?_
                        refine lv_istore_n (lv' := [(3, .int (((nI 10) * x4) + x5)), (2, .int r89.1), (6, .int r89.1), (0, .ref (a 0)), (1, .int x1), (4, .int x4), (5, .int x5)]) hx hb dX2_quarrel_111 rfl hl (by decide) rfl (fun ls hl => ?_)
                        exact kJ112 r89.2 x1 r89.1 (((nI 10) * x4) + x5) x4 x5 _ _ _ hF hP hD hS (lv_sub hl [3, 4, 1, 0, 5, 6] rfl)
                    · have hF := iff_ (fun h => h hc) hF
                      refine lv_goto (tgt := 112) hx hb dX2_quarrel_80 (by decide) ?_
                      exact kJ112 tW x1 x2 x3 x4 x5 _ _ _ hF hP hD hS (lv_sub hl [0, 1, 2, 3, 4, 5] rfl)
          refine lv_istore (lv' := [(5, .int (nI 0)), (0, .ref (a 0)), (1, .int x1), (2, .int x2), (3, .int x3), (4, .int x4)]) hx hb dX2_quarrel_35 hl (by decide) rfl (fun ls hl => ?_)
          exact kJ37 N tW x1 x2 x3 x4 (nI 0) _ _ _ hF hP hD hS (lv_sub hl [1, 2, 3, 4, 5, 0] rfl)
    refine lv_istore (lv' := [(4, .int (nI 0)), (3, .int (-9)), (2, .int (-9)), (0, .ref (a 0)), (1, .int p1)]) hx hb dX2_quarrel_20 hl (by decide) rfl (fun ls hl => ?_)
    exact kJ22 N tW p1 (-9) (-9) (nI 0) _ _ _ hF hP hD hS (lv_sub hl [3, 4, 2, 1, 0] rfl)
  · have hF := iff_ hc hF
    refine lv_aload_n hx hb dX2_quarrel_7 rfl (lv_at hl 0 rfl) ?_
    refine lv_iconst (v := (-1)) hx hb dX2_quarrel_8 (by decide) ?_
    have hPc := hP.sub (ws' := (cwX cI a tW)) [0, 1, 2, 3, 4, 5, 6, 7, 8, 9, 10, 11, 12, 13, 14, 15, 16, 17, 18, 19, 20, 21, 22, 23] rfl
    have hDc := hD.sub (ws' := (cwX cI a tW)) [0, 1, 2, 3, 4, 5, 6, 7, 8, 9, 10, 11, 12, 13, 14, 15, 16, 17, 18, 19, 20, 21, 22, 23] (by decide) rfl
    have hFc := va_free (wc := (cwX cI a tW)) hD hS hA [0, 1, 2, 3, 4, 5, 6, 7, 8, 9, 10, 11, 12, 13, 14, 15, 16, 17, 18, 19, 20, 21, 22, 23] rfl
    refine bd hF (fun r9 hG hF => ?_)
    refine va_calli (va_runV (As := [.int (-1)]) (rest := []) ⟨hx, hb, hml, hown, hts⟩ (c_X2_refuse l dC dI cI sf H.size N a tW (-1) r9 hG) (cwV 1 hts gX2_quarrel_X2_refuse rfl rfl rfl (by decide +kernel) ⟨Nat.le_of_ble_eq_true rfl, Nat.le_of_ble_eq_true rfl⟩) ⟨fun a U g mk q => ⟨q.1, q.2.call⟩, va_recv hK hP (ci := 2) (q0 := 0) rfl rfl, fun U hU hW => ⟨rfl, PB.of hU hW hPc hK hDc hNN hSF hS hFc⟩⟩ rfl rfl hl.1 rfl (lv_room (Nat.le_of_ble_eq_true rfl)) dX2_quarrel_9 ⟨Nat.le_of_ble_eq_true rfl, Nat.le_of_ble_eq_true rfl⟩) hS (fun q _ h => hFc q h) hFc (fun z_ u_ t H locs ht hvm hw hB hz1 hk1 hS => ?_)
    subst z_
    obtain ⟨hP1, hD1⟩ := hB
    rw [ht] at hP1
    have hJ := vb_join (ws' := (cwX cI a r9.2)) hP hD [0, 1, 2, 3, 4, 5, 6, 7, 8, 9, 10, 11, 12, 13, 14, 15, 16, 17, 18, 19, 20, 21, 22, 23] [] [0, 1, 2, 3, 4, 5, 6, 7, 8, 9, 10, 11, 12, 13, 14, 15, 16, 17, 18, 19, 20, 21, 22, 23] rfl rfl (by decide) (by decide) hk1 hFc hP1 hD1 rfl (by decide) rfl
    clear hP hD hPc hDc hFc hP1 hD1 hk1 hz1 ht hvm hG
    obtain ⟨hP, hD⟩ := hJ
    obtain rfl := Option.some.inj hF
    exact W.iret (v := r9.1) hx hb hr (fun t ht hW => ⟨⟨r9.1, (), rfl, rfl, QB.of ht hP hD⟩, hS.F ht⟩) hS.2.2 dX2_quarrel_12
theorem inw_X2_row_X2 : ∀ w ∈ u_ws RX2 TX2 9, w ∈ wsX2_row := fun _ h => List.mem_cons_of_mem _ (List.mem_append_right _ h)
set_option maxHeartbeats 4000000 in
set_option maxRecDepth 100000 in
theorem c_X2_row (l : Launch) (dC : Nat → ClassId) (dI : Nat → Nat → Nat) (cI : ClassId) (sf : SFP) (sz : Nat) (N : Nat) (a : Nat → Nat) (tW : XS) (p1 : Int32) (r : (Int32 × XS)) (hF : F_X2_row N tW p1 = some r) : Met l yX2_row wsX2_row ({ frames := 1, cells := 0, slots := 0, locals := 22 }) (va_Pc [.ref (a 0), .int p1] (PB (dC, dI) cI (cwX cI a tW) sz sf)) (va_Qi (fun (z : Int32) (_ : Unit) => z = r.1) (fun _ t => QB (dC, dI) (cwX cI a r.2) (va_A (cwX cI a tW) sz) t) (va_A (cwX cI a tW) sz)) 0 0 (va_A (cwX cI a tW) sz) := by
  refine Met.ofW (cc := cX2_row) (maxL := 2) (ret := (some .int)) (by decide) rfl ?_
  intro p e s m args below meth c s₁ B hml hv
  obtain ⟨rfl, hsz, hP, hK, hD0, hNN, hSF⟩ := hv
  have hx := B.exec
  have hb := B.bytes
  have hr := B.returns
  have hts := atoms_spec (ws := wsX2_row) B.pre
  have hown : s.vm.findClass RX2 = some m.cls := findClass_of_methodNamed B.named
  have hlocks := B.notSynchronized
  subst hsz
  have hD := hD0.self (sz := s.heap.size)
  generalize hAe : va_A (cwX cI a tW) s.heap.size = A at hD hSF ⊢
  have hA : ∀ q : Nat, s.heap.size ≤ q → A q := fun q h => by rw [← hAe]; exact Or.inr h
  clear hAe hD0
  have hS : va_S A s.heap s.heap [] := va_S.rf
  have hl := lv_entry ([.ref (a 0), .int p1]) (n := 2) (Nat.le_of_ble_eq_true rfl)
  rw [lg_entry_eq]
  generalize (lg_sl ([.ref (a 0), .int p1]) ++ List.replicate (2 - (lg_sl ([.ref (a 0), .int p1])).length) Slot.unset).toArray = ls at hl ⊢
  have hl : lv_has ls 2 [(0, .ref (a 0)), (1, .int p1)] := hl
  rw [F_X2_row] at hF
  refine lv_iload_n hx hb dX2_row_0 rfl (lv_at hl 1 rfl) ?_
  refine lv_if_ge (tgt := 11) hx hb dX2_row_1 (by decide) (fun hc => ?_) (fun hc => ?_)
  · have hF := ift hc hF
    refine lv_iload_n hx hb dX2_row_11 rfl (lv_at hl 1 rfl) ?_
    refine lv_bipush (v := nI 99) hx hb dX2_row_12 (by decide) ?_
    refine vW_have (fun R av Q => ∀ (tW : XS) (H : Heap) (locs : List Loc) (ls : Array Slot), F_X2_row_26 N tW = some r → va_P (dC, dI) vwCl (cwX cI a tW) H → va_D A (cwX cI a tW) → va_S A s.heap H locs → lv_has ls 2 [(0, .ref (a 0))] → W p l e R s m av below meth c H locs 0 0 Q (F0 m 26 ls [])) ?_ (fun kJ26 => ?_)
    · 
      intro tW H locs ls hF hP hD hS hl
      rw [F_X2_row_26] at hF
      refine lv_aload_n hx hb dX2_row_26 rfl (lv_at hl 0 rfl) ?_
      refine lv_bipush (v := (-6)) hx hb dX2_row_27 (by decide) ?_
      have hPc := hP.sub (ws' := (cwX cI a tW)) [0, 1, 2, 3, 4, 5, 6, 7, 8, 9, 10, 11, 12, 13, 14, 15, 16, 17, 18, 19, 20, 21, 22, 23] rfl
      have hDc := hD.sub (ws' := (cwX cI a tW)) [0, 1, 2, 3, 4, 5, 6, 7, 8, 9, 10, 11, 12, 13, 14, 15, 16, 17, 18, 19, 20, 21, 22, 23] (by decide) rfl
      have hFc := va_free (wc := (cwX cI a tW)) hD hS hA [0, 1, 2, 3, 4, 5, 6, 7, 8, 9, 10, 11, 12, 13, 14, 15, 16, 17, 18, 19, 20, 21, 22, 23] rfl
      refine bd hF (fun r29 hG hF => ?_)
      refine va_calli (va_runV (As := [.int (-6)]) (rest := []) ⟨hx, hb, hml, hown, hts⟩ (c_X2_refuse l dC dI cI sf H.size N a tW (-6) r29 hG) (cwV 1 hts gX2_row_X2_refuse rfl rfl rfl (by decide +kernel) ⟨Nat.le_of_ble_eq_true rfl, Nat.le_of_ble_eq_true rfl⟩) ⟨fun a U g mk q => ⟨q.1, q.2.call⟩, va_recv hK hP (ci := 2) (q0 := 0) rfl rfl, fun U hU hW => ⟨rfl, PB.of hU hW hPc hK hDc hNN hSF hS hFc⟩⟩ rfl rfl hl.1 rfl (lv_room (Nat.le_of_ble_eq_true rfl)) dX2_row_29 ⟨Nat.le_of_ble_eq_true rfl, Nat.le_of_ble_eq_true rfl⟩) hS (fun q _ h => hFc q h) hFc (fun z_ u_ t H locs ht hvm hw hB hz1 hk1 hS => ?_)
      subst z_
      obtain ⟨hP1, hD1⟩ := hB
      rw [ht] at hP1
      have hJ := vb_join (ws' := (cwX cI a r29.2)) hP hD [0, 1, 2, 3, 4, 5, 6, 7, 8, 9, 10, 11, 12, 13, 14, 15, 16, 17, 18, 19, 20, 21, 22, 23] [] [0, 1, 2, 3, 4, 5, 6, 7, 8, 9, 10, 11, 12, 13, 14, 15, 16, 17, 18, 19, 20, 21, 22, 23] rfl rfl (by decide) (by decide) hk1 hFc hP1 hD1 rfl (by decide) rfl
      clear hP hD hPc hDc hFc hP1 hD1 hk1 hz1 ht hvm hG
      obtain ⟨hP, hD⟩ := hJ
      obtain rfl := Option.some.inj hF
      exact W.iret (v := r29.1) hx hb hr (fun t ht hW => ⟨⟨r29.1, (), rfl, rfl, QB.of ht hP hD⟩, hS.F ht⟩) hS.2.2 dX2_row_32
    refine lv_icmp_gt (tgt := 26) hx hb dX2_row_14 (by decide) (fun hc => ?_) (fun hc => ?_)
    · have hF := ift hc hF
      exact kJ26 tW _ _ _ hF hP hD hS (lv_sub hl [0] rfl)
    · have hF := iff_ hc hF
      refine lv_aload_n hx hb dX2_row_17 rfl (lv_at hl 0 rfl) ?_
      refine va_get (D := (dC, dI)) (ci := 2) (v := .int tW.2.2.2.2.2.2.1) (C := RX2) (T := TX2) (N := 9) hx hb hts inw_X2_row_X2 hown hK hP 0 rfl rfl 6 (by decide) (hts (.fieldLink RX2 37 "DeniedOfEachOther" "rowSize" "I") (List.mem_of_getElem? (i := 1) rfl)) (fun _ h9 => h9) rfl dX2_row_18 ?_
      refine lv_bipush (v := nI 16) hx hb dX2_row_21 (by decide) ?_
      refine lv_icmp_lt (tgt := 33) hx hb dX2_row_23 (by decide) (fun hc => ?_) (fun hc => ?_)
      · have hF := ift hc hF
        refine lv_aload_n hx hb dX2_row_33 rfl (lv_at hl 0 rfl) ?_
        refine va_get (D := (dC, dI)) (ci := 2) (v := .ref (a 21)) (C := RX2) (T := TX2) (N := 9) hx hb hts inw_X2_row_X2 hown hK hP 0 rfl rfl 5 (by decide) (hts (.fieldLink RX2 33 "DeniedOfEachOther" "row" "[I") (List.mem_of_getElem? (i := 2) rfl)) (fun _ h9 => h9) rfl dX2_row_34 ?_
        refine lv_aload_n hx hb dX2_row_37 rfl (lv_at hl 0 rfl) ?_
        refine va_get (D := (dC, dI)) (ci := 2) (v := .int tW.2.2.2.2.2.2.1) (C := RX2) (T := TX2) (N := 9) hx hb hts inw_X2_row_X2 hown hK hP 0 rfl rfl 6 (by decide) (hts (.fieldLink RX2 37 "DeniedOfEachOther" "rowSize" "I") (List.mem_of_getElem? (i := 1) rfl)) (fun _ h9 => h9) rfl dX2_row_38 ?_
        refine lv_iload_n hx hb dX2_row_41 rfl (lv_at hl 1 rfl) ?_
        refine cki hF (fun hi hF => ?_)
        refine va_iast (D := (dC, dI)) hx hb hK hP hD hS 21 0 rfl rfl hi dX2_row_42 (fun H locs hP hD hS => ?_)
        have hP : va_P (dC, dI) vwCl (cwX cI a (tW.1, tW.2.1, tW.2.2.1, tW.2.2.2.1, tW.2.2.2.2.1, (upd tW.2.2.2.2.2.1 tW.2.2.2.2.2.2.1.toNatClampNeg p1), tW.2.2.2.2.2.2.1, tW.2.2.2.2.2.2.2.1, tW.2.2.2.2.2.2.2.2)) H := hP
        have hD : va_D A (cwX cI a (tW.1, tW.2.1, tW.2.2.1, tW.2.2.2.1, tW.2.2.2.2.1, (upd tW.2.2.2.2.2.1 tW.2.2.2.2.2.2.1.toNatClampNeg p1), tW.2.2.2.2.2.2.1, tW.2.2.2.2.2.2.2.1, tW.2.2.2.2.2.2.2.2)) := hD
        refine lv_aload_n hx hb dX2_row_43 rfl (lv_at hl 0 rfl) ?_
        refine lv_dup hx hb dX2_row_44 rfl ?_
        refine va_get (D := (dC, dI)) (ci := 2) (v := .int tW.2.2.2.2.2.2.1) (C := RX2) (T := TX2) (N := 9) hx hb hts inw_X2_row_X2 hown hK hP 0 rfl rfl 6 (by decide) (hts (.fieldLink RX2 37 "DeniedOfEachOther" "rowSize" "I") (List.mem_of_getElem? (i := 1) rfl)) (fun _ h9 => h9) rfl dX2_row_45 ?_
        refine lv_iconst (v := nI 1) hx hb dX2_row_48 (by decide) ?_
        refine lv_iadd hx hb dX2_row_49 ?_
        refine va_put (D := (dC, dI)) (ci := 2) (v := .int (tW.2.2.2.2.2.2.1 + (nI 1))) (ty := .int) (C := RX2) (T := TX2) (N := 9) hx hb hts inw_X2_row_X2 tyX2 tyX2_ok nmX2 hown hK hP hD hS 0 rfl rfl 6 (by decide) (hts (.fieldLink RX2 37 "DeniedOfEachOther" "rowSize" "I") (List.mem_of_getElem? (i := 1) rfl)) (fun _ h9 => h9) rfl (by decide +kernel) rfl rfl (Nat.le_of_ble_eq_true rfl) dX2_row_50 (fun H locs hP hD hS => ?_)
        have hP : va_P (dC, dI) vwCl (cwX cI a (tW.1, tW.2.1, tW.2.2.1, tW.2.2.2.1, tW.2.2.2.2.1, (upd tW.2.2.2.2.2.1 tW.2.2.2.2.2.2.1.toNatClampNeg p1), (tW.2.2.2.2.2.2.1 + (nI 1)), tW.2.2.2.2.2.2.2.1, tW.2.2.2.2.2.2.2.2)) H := hP
        have hD : va_D A (cwX cI a (tW.1, tW.2.1, tW.2.2.1, tW.2.2.2.1, tW.2.2.2.2.1, (upd tW.2.2.2.2.2.1 tW.2.2.2.2.2.2.1.toNatClampNeg p1), (tW.2.2.2.2.2.2.1 + (nI 1)), tW.2.2.2.2.2.2.2.1, tW.2.2.2.2.2.2.2.2)) := hD
        refine lv_aload_n hx hb dX2_row_53 rfl (lv_at hl 0 rfl) ?_
        refine va_get (D := (dC, dI)) (ci := 2) (v := .int (tW.2.2.2.2.2.2.1 + (nI 1))) (C := RX2) (T := TX2) (N := 9) hx hb hts inw_X2_row_X2 hown hK hP 0 rfl rfl 6 (by decide) (hts (.fieldLink RX2 37 "DeniedOfEachOther" "rowSize" "I") (List.mem_of_getElem? (i := 1) rfl)) (fun _ h9 => h9) rfl dX2_row_54 ?_
        obtain rfl := Option.some.inj hF
        exact W.iret (v := (tW.2.2.2.2.2.2.1 + (nI 1))) hx hb hr (fun t ht hW => ⟨⟨(tW.2.2.2.2.2.2.1 + (nI 1)), (), rfl, rfl, QB.of ht hP hD⟩, hS.F ht⟩) hS.2.2 dX2_row_57
      · have hF := iff_ hc hF
        exact kJ26 tW _ _ _ hF hP hD hS (lv_sub hl [0] rfl)
  · have hF := iff_ hc hF
    refine lv_aload_n hx hb dX2_row_4 rfl (lv_at hl 0 rfl) ?_
    refine lv_bipush (v := (-4)) hx hb dX2_row_5 (by decide) ?_
    have hPc := hP.sub (ws' := (cwX cI a tW)) [0, 1, 2, 3, 4, 5, 6, 7, 8, 9, 10, 11, 12, 13, 14, 15, 16, 17, 18, 19, 20, 21, 22, 23] rfl
    have hDc := hD.sub (ws' := (cwX cI a tW)) [0, 1, 2, 3, 4, 5, 6, 7, 8, 9, 10, 11, 12, 13, 14, 15, 16, 17, 18, 19, 20, 21, 22, 23] (by decide) rfl
    have hFc := va_free (wc := (cwX cI a tW)) hD hS hA [0, 1, 2, 3, 4, 5, 6, 7, 8, 9, 10, 11, 12, 13, 14, 15, 16, 17, 18, 19, 20, 21, 22, 23] rfl
    refine bd hF (fun r7 hG hF => ?_)
    refine va_calli (va_runV (As := [.int (-4)]) (rest := []) ⟨hx, hb, hml, hown, hts⟩ (c_X2_refuse l dC dI cI sf s.heap.size N a tW (-4) r7 hG) (cwV 1 hts gX2_row_X2_refuse rfl rfl rfl (by decide +kernel) ⟨Nat.le_of_ble_eq_true rfl, Nat.le_of_ble_eq_true rfl⟩) ⟨fun a U g mk q => ⟨q.1, q.2.call⟩, va_recv hK hP (ci := 2) (q0 := 0) rfl rfl, fun U hU hW => ⟨rfl, PB.of hU hW hPc hK hDc hNN hSF hS hFc⟩⟩ rfl rfl hl.1 rfl (lv_room (Nat.le_of_ble_eq_true rfl)) dX2_row_7 ⟨Nat.le_of_ble_eq_true rfl, Nat.le_of_ble_eq_true rfl⟩) hS (fun q _ h => hFc q h) hFc (fun z_ u_ t H locs ht hvm hw hB hz1 hk1 hS => ?_)
    subst z_
    obtain ⟨hP1, hD1⟩ := hB
    rw [ht] at hP1
    have hJ := vb_join (ws' := (cwX cI a r7.2)) hP hD [0, 1, 2, 3, 4, 5, 6, 7, 8, 9, 10, 11, 12, 13, 14, 15, 16, 17, 18, 19, 20, 21, 22, 23] [] [0, 1, 2, 3, 4, 5, 6, 7, 8, 9, 10, 11, 12, 13, 14, 15, 16, 17, 18, 19, 20, 21, 22, 23] rfl rfl (by decide) (by decide) hk1 hFc hP1 hD1 rfl (by decide) rfl
    clear hP hD hPc hDc hFc hP1 hD1 hk1 hz1 ht hvm hG
    obtain ⟨hP, hD⟩ := hJ
    obtain rfl := Option.some.inj hF
    exact W.iret (v := r7.1) hx hb hr (fun t ht hW => ⟨⟨r7.1, (), rfl, rfl, QB.of ht hP hD⟩, hS.F ht⟩) hS.2.2 dX2_row_10
theorem inw_X2_says_X2 : ∀ w ∈ u_ws RX2 TX2 9, w ∈ wsX2_says := fun _ h => List.mem_cons_of_mem _ (List.mem_append_left _ (List.mem_append_right _ h))
theorem inw_X2_says_X1 : ∀ w ∈ u_ws RX1 TX1 8, w ∈ wsX2_says := fun _ h => List.mem_cons_of_mem _ (List.mem_append_right _ h)
set_option maxHeartbeats 4000000 in
set_option maxRecDepth 100000 in
theorem c_X2_says (l : Launch) (dC : Nat → ClassId) (dI : Nat → Nat → Nat) (cI : ClassId) (sf : SFP) (sz : Nat) (N : Nat) (a : Nat → Nat) (tW : XS) (p1 : Int32) (p2 : Int32) (p3 : Int32) (r : (Int32 × XS)) (hF : F_X2_says N tW p1 p2 p3 = some r) : Met l yX2_says wsX2_says ({ frames := 1, cells := 0, slots := 0, locals := 24 }) (va_Pc [.ref (a 0), .int p1, .int p2, .int p3] (PB (dC, dI) cI (cwX cI a tW) sz sf)) (va_Qi (fun (z : Int32) (_ : Unit) => z = r.1) (fun _ t => QB (dC, dI) (cwX cI a r.2) (va_A (cwX cI a tW) sz) t) (va_A (cwX cI a tW) sz)) 0 0 (va_A (cwX cI a tW) sz) := by
  refine Met.ofW (cc := cX2_says) (maxL := 5) (ret := (some .int)) (by decide) rfl ?_
  intro p e s m args below meth c s₁ B hml hv
  obtain ⟨rfl, hsz, hP, hK, hD0, hNN, hSF⟩ := hv
  have hx := B.exec
  have hb := B.bytes
  have hr := B.returns
  have hts := atoms_spec (ws := wsX2_says) B.pre
  have hown : s.vm.findClass RX2 = some m.cls := findClass_of_methodNamed B.named
  have hlocks := B.notSynchronized
  subst hsz
  have hD := hD0.self (sz := s.heap.size)
  generalize hAe : va_A (cwX cI a tW) s.heap.size = A at hD hSF ⊢
  have hA : ∀ q : Nat, s.heap.size ≤ q → A q := fun q h => by rw [← hAe]; exact Or.inr h
  clear hAe hD0
  have hS : va_S A s.heap s.heap [] := va_S.rf
  have hl := lv_entry ([.ref (a 0), .int p1, .int p2, .int p3]) (n := 5) (Nat.le_of_ble_eq_true rfl)
  rw [lg_entry_eq]
  generalize (lg_sl ([.ref (a 0), .int p1, .int p2, .int p3]) ++ List.replicate (5 - (lg_sl ([.ref (a 0), .int p1, .int p2, .int p3])).length) Slot.unset).toArray = ls at hl ⊢
  have hl : lv_has ls 5 [(0, .ref (a 0)), (1, .int p1), (2, .int p2), (3, .int p3)] := hl
  rw [F_X2_says] at hF
  refine lv_aload_n hx hb dX2_says_0 rfl (lv_at hl 0 rfl) ?_
  refine lv_iload_n hx hb dX2_says_1 rfl (lv_at hl 1 rfl) ?_
  have hPc := hP.sub (ws' := (cwX cI a tW)) [0, 1, 2, 3, 4, 5, 6, 7, 8, 9, 10, 11, 12, 13, 14, 15, 16, 17, 18, 19, 20, 21, 22, 23] rfl
  have hDc := hD.sub (ws' := (cwX cI a tW)) [0, 1, 2, 3, 4, 5, 6, 7, 8, 9, 10, 11, 12, 13, 14, 15, 16, 17, 18, 19, 20, 21, 22, 23] (by decide) rfl
  have hFc := va_free (wc := (cwX cI a tW)) hD hS hA [0, 1, 2, 3, 4, 5, 6, 7, 8, 9, 10, 11, 12, 13, 14, 15, 16, 17, 18, 19, 20, 21, 22, 23] rfl
  refine bd hF (fun r2 hG hF => ?_)
  refine va_calli (va_runV (As := [.int p1]) (rest := []) ⟨hx, hb, hml, hown, hts⟩ (c_X2_noCitizen l dC dI cI sf s.heap.size N a tW p1 r2 hG) (cwV 1 hts gX2_says_X2_noCitizen rfl rfl rfl (by decide +kernel) ⟨Nat.le_of_ble_eq_true rfl, Nat.le_of_ble_eq_true rfl⟩) ⟨fun a U g mk q => ⟨q.1, q.2.call⟩, va_recv hK hP (ci := 2) (q0 := 0) rfl rfl, fun U hU hW => ⟨rfl, PB.of hU hW hPc hK hDc hNN hSF hS hFc⟩⟩ rfl rfl hl.1 rfl (lv_room (Nat.le_of_ble_eq_true rfl)) dX2_says_2 ⟨Nat.le_of_ble_eq_true rfl, Nat.le_of_ble_eq_true rfl⟩) hS (fun q _ h => hFc q h) hFc (fun z_ u_ t H locs ht hvm hw hB hz1 hk1 hS => ?_)
  subst z_
  obtain ⟨hP1, hD1⟩ := hB
  rw [ht] at hP1
  have hJ := vb_join (ws' := (cwX cI a tW)) hP hD [0, 1, 2, 3, 4, 5, 6, 7, 8, 9, 10, 11, 12, 13, 14, 15, 16, 17, 18, 19, 20, 21, 22, 23] [] [0, 1, 2, 3, 4, 5, 6, 7, 8, 9, 10, 11, 12, 13, 14, 15, 16, 17, 18, 19, 20, 21, 22, 23] rfl rfl (by decide) (by decide) hk1 hFc hP1 hD1 rfl (by decide) rfl
  clear hP hD hPc hDc hFc hP1 hD1 hk1 hz1 ht hvm hG
  obtain ⟨hP, hD⟩ := hJ
  refine vW_have (fun R av Q => ∀ (tW : XS) (H : Heap) (locs : List Loc) (ls : Array Slot), F_X2_says_15 N tW = some r → va_P (dC, dI) vwCl (cwX cI a tW) H → va_D A (cwX cI a tW) → va_S A s.heap H locs → lv_has ls 5 [(0, .ref (a 0))] → W p l e R s m av below meth c H locs 0 0 Q (F0 m 15 ls [])) ?_ (fun kJ15 => ?_)
  · 
    intro tW H locs ls hF hP hD hS hl
    rw [F_X2_says_15] at hF
    refine lv_aload_n hx hb dX2_says_15 rfl (lv_at hl 0 rfl) ?_
    refine lv_iconst (v := (-1)) hx hb dX2_says_16 (by decide) ?_
    have hPc := hP.sub (ws' := (cwX cI a tW)) [0, 1, 2, 3, 4, 5, 6, 7, 8, 9, 10, 11, 12, 13, 14, 15, 16, 17, 18, 19, 20, 21, 22, 23] rfl
    have hDc := hD.sub (ws' := (cwX cI a tW)) [0, 1, 2, 3, 4, 5, 6, 7, 8, 9, 10, 11, 12, 13, 14, 15, 16, 17, 18, 19, 20, 21, 22, 23] (by decide) rfl
    have hFc := va_free (wc := (cwX cI a tW)) hD hS hA [0, 1, 2, 3, 4, 5, 6, 7, 8, 9, 10, 11, 12, 13, 14, 15, 16, 17, 18, 19, 20, 21, 22, 23] rfl
    refine bd hF (fun r17 hG hF => ?_)
    refine va_calli (va_runV (As := [.int (-1)]) (rest := []) ⟨hx, hb, hml, hown, hts⟩ (c_X2_refuse l dC dI cI sf H.size N a tW (-1) r17 hG) (cwV 1 hts gX2_says_X2_refuse rfl rfl rfl (by decide +kernel) ⟨Nat.le_of_ble_eq_true rfl, Nat.le_of_ble_eq_true rfl⟩) ⟨fun a U g mk q => ⟨q.1, q.2.call⟩, va_recv hK hP (ci := 2) (q0 := 0) rfl rfl, fun U hU hW => ⟨rfl, PB.of hU hW hPc hK hDc hNN hSF hS hFc⟩⟩ rfl rfl hl.1 rfl (lv_room (Nat.le_of_ble_eq_true rfl)) dX2_says_17 ⟨Nat.le_of_ble_eq_true rfl, Nat.le_of_ble_eq_true rfl⟩) hS (fun q _ h => hFc q h) hFc (fun z_ u_ t H locs ht hvm hw hB hz1 hk1 hS => ?_)
    subst z_
    obtain ⟨hP1, hD1⟩ := hB
    rw [ht] at hP1
    have hJ := vb_join (ws' := (cwX cI a r17.2)) hP hD [0, 1, 2, 3, 4, 5, 6, 7, 8, 9, 10, 11, 12, 13, 14, 15, 16, 17, 18, 19, 20, 21, 22, 23] [] [0, 1, 2, 3, 4, 5, 6, 7, 8, 9, 10, 11, 12, 13, 14, 15, 16, 17, 18, 19, 20, 21, 22, 23] rfl rfl (by decide) (by decide) hk1 hFc hP1 hD1 rfl (by decide) rfl
    clear hP hD hPc hDc hFc hP1 hD1 hk1 hz1 ht hvm hG
    obtain ⟨hP, hD⟩ := hJ
    obtain rfl := Option.some.inj hF
    exact W.iret (v := r17.1) hx hb hr (fun t ht hW => ⟨⟨r17.1, (), rfl, rfl, QB.of ht hP hD⟩, hS.F ht⟩) hS.2.2 dX2_says_20
  refine lv_if_ne (tgt := 15) hx hb dX2_says_5 (by decide) (fun hc => ?_) (fun hc => ?_)
  · have hF := ift hc hF
    exact kJ15 tW _ _ _ hF hP hD hS (lv_sub hl [0] rfl)
  · have hF := iff_ (fun h => h hc) hF
    refine lv_iload_n hx hb dX2_says_8 rfl (lv_at hl 2 rfl) ?_
    have hPc := hP.sub (ws' := ([] : va_W)) [] rfl
    have hDc := hD.sub (ws' := ([] : va_W)) [] (by decide) rfl
    have hFc := va_free (wc := ([] : va_W)) hD hS hA [] rfl
    refine bd hF (fun r9 hG hF => ?_)
    refine va_calli (va_runS (As := [.int p2]) (rest := []) ⟨hx, hb, hml, hown, hts⟩ (c_X2_noTopic l dC dI cI sf H.size N  p2 r9 hG) (va_cwS 1 hts gX2_says_X2_noTopic rfl rfl rfl (by decide +kernel) ⟨Nat.le_of_ble_eq_true rfl, Nat.le_of_ble_eq_true rfl⟩) ⟨fun a U g mk q => ⟨q.1, q.2.call⟩, fun U hU hW => ⟨rfl, PB.of hU hW hPc hK hDc hNN hSF hS hFc⟩⟩ rfl rfl hl.1 rfl (lv_room (Nat.le_of_ble_eq_true rfl)) dX2_says_9 ⟨Nat.le_of_ble_eq_true rfl, Nat.le_of_ble_eq_true rfl⟩) hS (fun q _ h => hFc q h) hFc (fun z_ u_ t H locs ht hvm hw hB hz1 hk1 hS => ?_)
    subst z_
    obtain ⟨hP1, hD1⟩ := hB
    rw [ht] at hP1
    have hJ := vb_join (ws' := (cwX cI a tW)) hP hD [] [0, 1, 2, 3, 4, 5, 6, 7, 8, 9, 10, 11, 12, 13, 14, 15, 16, 17, 18, 19, 20, 21, 22, 23] [0, 1, 2, 3, 4, 5, 6, 7, 8, 9, 10, 11, 12, 13, 14, 15, 16, 17, 18, 19, 20, 21, 22, 23] rfl rfl (by decide) (by decide) hk1 hFc hP1 hD1 rfl (by decide) rfl
    clear hP hD hPc hDc hFc hP1 hD1 hk1 hz1 ht hvm hG
    obtain ⟨hP, hD⟩ := hJ
    refine lv_if_eq (tgt := 21) hx hb dX2_says_12 (by decide) (fun hc => ?_) (fun hc => ?_)
    · have hF := ift hc hF
      refine lv_iload_n hx hb dX2_says_21 rfl (lv_at hl 3 rfl) ?_
      refine vW_have (fun R av Q => ∀ (tW : XS) (H : Heap) (locs : List Loc) (ls : Array Slot), F_X2_says_30 N tW = some r → va_P (dC, dI) vwCl (cwX cI a tW) H → va_D A (cwX cI a tW) → va_S A s.heap H locs → lv_has ls 5 [(0, .ref (a 0))] → W p l e R s m av below meth c H locs 0 0 Q (F0 m 30 ls [])) ?_ (fun kJ30 => ?_)
      · 
        intro tW H locs ls hF hP hD hS hl
        rw [F_X2_says_30] at hF
        refine lv_aload_n hx hb dX2_says_30 rfl (lv_at hl 0 rfl) ?_
        refine lv_bipush (v := (-2)) hx hb dX2_says_31 (by decide) ?_
        have hPc := hP.sub (ws' := (cwX cI a tW)) [0, 1, 2, 3, 4, 5, 6, 7, 8, 9, 10, 11, 12, 13, 14, 15, 16, 17, 18, 19, 20, 21, 22, 23] rfl
        have hDc := hD.sub (ws' := (cwX cI a tW)) [0, 1, 2, 3, 4, 5, 6, 7, 8, 9, 10, 11, 12, 13, 14, 15, 16, 17, 18, 19, 20, 21, 22, 23] (by decide) rfl
        have hFc := va_free (wc := (cwX cI a tW)) hD hS hA [0, 1, 2, 3, 4, 5, 6, 7, 8, 9, 10, 11, 12, 13, 14, 15, 16, 17, 18, 19, 20, 21, 22, 23] rfl
        refine bd hF (fun r33 hG hF => ?_)
        refine va_calli (va_runV (As := [.int (-2)]) (rest := []) ⟨hx, hb, hml, hown, hts⟩ (c_X2_refuse l dC dI cI sf H.size N a tW (-2) r33 hG) (cwV 1 hts gX2_says_X2_refuse rfl rfl rfl (by decide +kernel) ⟨Nat.le_of_ble_eq_true rfl, Nat.le_of_ble_eq_true rfl⟩) ⟨fun a U g mk q => ⟨q.1, q.2.call⟩, va_recv hK hP (ci := 2) (q0 := 0) rfl rfl, fun U hU hW => ⟨rfl, PB.of hU hW hPc hK hDc hNN hSF hS hFc⟩⟩ rfl rfl hl.1 rfl (lv_room (Nat.le_of_ble_eq_true rfl)) dX2_says_33 ⟨Nat.le_of_ble_eq_true rfl, Nat.le_of_ble_eq_true rfl⟩) hS (fun q _ h => hFc q h) hFc (fun z_ u_ t H locs ht hvm hw hB hz1 hk1 hS => ?_)
        subst z_
        obtain ⟨hP1, hD1⟩ := hB
        rw [ht] at hP1
        have hJ := vb_join (ws' := (cwX cI a r33.2)) hP hD [0, 1, 2, 3, 4, 5, 6, 7, 8, 9, 10, 11, 12, 13, 14, 15, 16, 17, 18, 19, 20, 21, 22, 23] [] [0, 1, 2, 3, 4, 5, 6, 7, 8, 9, 10, 11, 12, 13, 14, 15, 16, 17, 18, 19, 20, 21, 22, 23] rfl rfl (by decide) (by decide) hk1 hFc hP1 hD1 rfl (by decide) rfl
        clear hP hD hPc hDc hFc hP1 hD1 hk1 hz1 ht hvm hG
        obtain ⟨hP, hD⟩ := hJ
        obtain rfl := Option.some.inj hF
        exact W.iret (v := r33.1) hx hb hr (fun t ht hW => ⟨⟨r33.1, (), rfl, rfl, QB.of ht hP hD⟩, hS.F ht⟩) hS.2.2 dX2_says_36
      refine lv_if_lt (tgt := 30) hx hb dX2_says_22 (by decide) (fun hc => ?_) (fun hc => ?_)
      · have hF := ift hc hF
        exact kJ30 tW _ _ _ hF hP hD hS (lv_sub hl [0] rfl)
      · have hF := iff_ hc hF
        refine lv_iload_n hx hb dX2_says_25 rfl (lv_at hl 3 rfl) ?_
        refine lv_iconst (v := nI 3) hx hb dX2_says_26 (by decide) ?_
        refine lv_icmp_lt (tgt := 37) hx hb dX2_says_27 (by decide) (fun hc => ?_) (fun hc => ?_)
        · have hF := ift hc hF
          refine lv_aload_n hx hb dX2_says_37 rfl (lv_at hl 0 rfl) ?_
          refine va_get (D := (dC, dI)) (ci := 2) (v := .ref (a 1)) (C := RX2) (T := TX2) (N := 9) hx hb hts inw_X2_says_X2 hown hK hP 0 rfl rfl 0 (by decide) (hts (.fieldLink RX2 10 "DeniedOfEachOther" "now" "LDeniedOfEachOther$Town;") (List.mem_of_getElem? (i := 1) rfl)) (fun _ h9 => h9) rfl dX2_says_38 ?_
          refine lv_iload_n hx hb dX2_says_41 rfl (lv_at hl 1 rfl) ?_
          have hPc := hP.sub (ws' := (cwT cI (a 1) (a 2) (a 3) (a 4) (a 5) (a 6) tW.1)) [1, 2, 3, 4, 5, 6] rfl
          have hDc := hD.sub (ws' := (cwT cI (a 1) (a 2) (a 3) (a 4) (a 5) (a 6) tW.1)) [1, 2, 3, 4, 5, 6] (by decide) rfl
          have hFc := va_free (wc := (cwT cI (a 1) (a 2) (a 3) (a 4) (a 5) (a 6) tW.1)) hD hS hA [1, 2, 3, 4, 5, 6] rfl
          refine bd hF (fun r42 hG hF => ?_)
          refine va_calli (va_runVN (As := [.int p1]) (rest := []) ⟨hx, hb, hml, hown, hts⟩ (c_X1_isLiving l dC dI cI sf H.size N (a 1) (a 2) (a 3) (a 4) (a 5) (a 6) tW.1 p1 r42 hG) ⟨va_cnB 1 hts gX2_says_X1_isLiving_n85 rfl rfl rfl (hNN.at 10 rfl) (hts (.initialized RX1) (List.mem_of_getElem? (i := 16) rfl)) (by decide +kernel) ⟨Nat.le_of_ble_eq_true rfl, Nat.le_of_ble_eq_true rfl⟩, hts (.instanceMethod yX1_isLiving) (List.mem_of_getElem? (i := 15) rfl), hts (.selects RX1 yX1_isLiving yX1_isLiving) (List.mem_of_getElem? (i := 17) rfl)⟩ ⟨fun a U g mk q => ⟨q.1, q.2.call⟩, va_recv hK hP (ci := 1) (q0 := 1) rfl rfl, fun U hU hW => ⟨rfl, PB.of hU hW hPc hK hDc hNN hSF hS hFc⟩⟩ rfl rfl hl.1 rfl (lv_room (Nat.le_of_ble_eq_true rfl)) dX2_says_42 ⟨Nat.le_of_ble_eq_true rfl, Nat.le_of_ble_eq_true rfl⟩) hS (fun q _ h => hFc q h) hFc (fun z_ u_ t H locs ht hvm hw hB hz1 hk1 hS => ?_)
          subst z_
          obtain ⟨hP1, hD1⟩ := hB
          rw [ht] at hP1
          have hJ := vb_join (ws' := (cwX cI a tW)) hP hD [1, 2, 3, 4, 5, 6] [0, 7, 8, 9, 10, 11, 12, 13, 14, 15, 16, 17, 18, 19, 20, 21, 22, 23] [0, 18, 19, 20, 21, 22, 23, 1, 2, 3, 4, 5, 6, 7, 8, 9, 10, 11, 12, 13, 14, 15, 16, 17] rfl rfl (by decide) (by decide) hk1 hFc hP1 hD1 rfl (by decide) rfl
          clear hP hD hPc hDc hFc hP1 hD1 hk1 hz1 ht hvm hG
          obtain ⟨hP, hD⟩ := hJ
          refine lv_if_ne (tgt := 55) hx hb dX2_says_45 (by decide) (fun hc => ?_) (fun hc => ?_)
          · have hF := ift hc hF
            refine lv_aload_n hx hb dX2_says_55 rfl (lv_at hl 0 rfl) ?_
            refine va_get (D := (dC, dI)) (ci := 2) (v := .ref (a 1)) (C := RX2) (T := TX2) (N := 9) hx hb hts inw_X2_says_X2 hown hK hP 0 rfl rfl 0 (by decide) (hts (.fieldLink RX2 10 "DeniedOfEachOther" "now" "LDeniedOfEachOther$Town;") (List.mem_of_getElem? (i := 1) rfl)) (fun _ h9 => h9) rfl dX2_says_56 ?_
            refine lv_iload_n hx hb dX2_says_59 rfl (lv_at hl 1 rfl) ?_
            refine lv_iload_n hx hb dX2_says_60 rfl (lv_at hl 2 rfl) ?_
            have hPc := hP.sub (ws' := (cwT cI (a 1) (a 2) (a 3) (a 4) (a 5) (a 6) tW.1)) [1, 2, 3, 4, 5, 6] rfl
            have hDc := hD.sub (ws' := (cwT cI (a 1) (a 2) (a 3) (a 4) (a 5) (a 6) tW.1)) [1, 2, 3, 4, 5, 6] (by decide) rfl
            have hFc := va_free (wc := (cwT cI (a 1) (a 2) (a 3) (a 4) (a 5) (a 6) tW.1)) hD hS hA [1, 2, 3, 4, 5, 6] rfl
            refine bd hF (fun r61 hG hF => ?_)
            refine va_calli (va_runVN (As := [.int p1, .int p2]) (rest := []) ⟨hx, hb, hml, hown, hts⟩ (c_X1_wordOf l dC dI cI sf H.size N (a 1) (a 2) (a 3) (a 4) (a 5) (a 6) tW.1 p1 p2 r61 hG) ⟨va_cnB 2 hts gX2_says_X1_wordOf_n97 rfl rfl rfl (hNN.at 13 rfl) (hts (.initialized RX1) (List.mem_of_getElem? (i := 16) rfl)) (by decide +kernel) ⟨Nat.le_of_ble_eq_true rfl, Nat.le_of_ble_eq_true rfl⟩, hts (.instanceMethod yX1_wordOf) (List.mem_of_getElem? (i := 21) rfl), hts (.selects RX1 yX1_wordOf yX1_wordOf) (List.mem_of_getElem? (i := 22) rfl)⟩ ⟨fun a U g mk q => ⟨q.1, q.2.call⟩, va_recv hK hP (ci := 1) (q0 := 1) rfl rfl, fun U hU hW => ⟨rfl, PB.of hU hW hPc hK hDc hNN hSF hS hFc⟩⟩ rfl rfl hl.1 rfl (lv_room (Nat.le_of_ble_eq_true rfl)) dX2_says_61 ⟨Nat.le_of_ble_eq_true rfl, Nat.le_of_ble_eq_true rfl⟩) hS (fun q _ h => hFc q h) hFc (fun z_ u_ t H locs ht hvm hw hB hz1 hk1 hS => ?_)
            subst z_
            obtain ⟨hP1, hD1⟩ := hB
            rw [ht] at hP1
            have hJ := vb_join (ws' := (cwX cI a tW)) hP hD [1, 2, 3, 4, 5, 6] [0, 7, 8, 9, 10, 11, 12, 13, 14, 15, 16, 17, 18, 19, 20, 21, 22, 23] [0, 18, 19, 20, 21, 22, 23, 1, 2, 3, 4, 5, 6, 7, 8, 9, 10, 11, 12, 13, 14, 15, 16, 17] rfl rfl (by decide) (by decide) hk1 hFc hP1 hD1 rfl (by decide) rfl
            clear hP hD hPc hDc hFc hP1 hD1 hk1 hz1 ht hvm hG
            obtain ⟨hP, hD⟩ := hJ
            refine lv_istore (lv' := [(4, .int r61), (0, .ref (a 0)), (1, .int p1), (2, .int p2), (3, .int p3)]) hx hb dX2_says_64 hl (by decide) rfl (fun ls hl => ?_)
            refine lv_aload_n hx hb dX2_says_66 rfl (lv_at hl 1 rfl) ?_
            refine va_get (D := (dC, dI)) (ci := 2) (v := .ref (a 1)) (C := RX2) (T := TX2) (N := 9) hx hb hts inw_X2_says_X2 hown hK hP 0 rfl rfl 0 (by decide) (hts (.fieldLink RX2 10 "DeniedOfEachOther" "now" "LDeniedOfEachOther$Town;") (List.mem_of_getElem? (i := 1) rfl)) (fun _ h9 => h9) rfl dX2_says_67 ?_
            refine lv_iload_n hx hb dX2_says_70 rfl (lv_at hl 2 rfl) ?_
            refine lv_iload_n hx hb dX2_says_71 rfl (lv_at hl 3 rfl) ?_
            refine lv_iload_n hx hb dX2_says_72 rfl (lv_at hl 4 rfl) ?_
            have hPc := hP.sub (ws' := (cwT cI (a 1) (a 2) (a 3) (a 4) (a 5) (a 6) tW.1)) [1, 2, 3, 4, 5, 6] rfl
            have hDc := hD.sub (ws' := (cwT cI (a 1) (a 2) (a 3) (a 4) (a 5) (a 6) tW.1)) [1, 2, 3, 4, 5, 6] (by decide) rfl
            have hFc := va_free (wc := (cwT cI (a 1) (a 2) (a 3) (a 4) (a 5) (a 6) tW.1)) hD hS hA [1, 2, 3, 4, 5, 6] rfl
            refine bd hF (fun r73 hG hF => ?_)
            refine va_callv (va_runVN (As := [.int p1, .int p2, .int p3]) (rest := []) ⟨hx, hb, hml, hown, hts⟩ (c_X1_put l dC dI cI sf H.size N (a 1) (a 2) (a 3) (a 4) (a 5) (a 6) tW.1 p1 p2 p3 r73 hG) ⟨va_cnB 3 hts gX2_says_X1_put_n104 rfl rfl rfl (hNN.at 15 rfl) (hts (.initialized RX1) (List.mem_of_getElem? (i := 16) rfl)) (by decide +kernel) ⟨Nat.le_of_ble_eq_true rfl, Nat.le_of_ble_eq_true rfl⟩, hts (.instanceMethod yX1_put) (List.mem_of_getElem? (i := 26) rfl), hts (.selects RX1 yX1_put yX1_put) (List.mem_of_getElem? (i := 27) rfl)⟩ ⟨fun a U g mk q => ⟨q.1, q.2.call⟩, va_recv hK hP (ci := 1) (q0 := 1) rfl rfl, fun U hU hW => ⟨rfl, PB.of hU hW hPc hK hDc hNN hSF hS hFc⟩⟩ rfl rfl hl.1 rfl (lv_room (Nat.le_of_ble_eq_true rfl)) dX2_says_73 ⟨Nat.le_of_ble_eq_true rfl, Nat.le_of_ble_eq_true rfl⟩) hS (fun q _ h => hFc q h) hFc (fun u_ t H locs ht hvm hw hB hz1 hk1 hS => ?_)
            obtain ⟨hP1, hD1⟩ := hB
            rw [ht] at hP1
            have hJ := vb_join (ws' := (cwX cI a (r73, tW.2.1, tW.2.2.1, tW.2.2.2.1, tW.2.2.2.2.1, tW.2.2.2.2.2.1, tW.2.2.2.2.2.2.1, tW.2.2.2.2.2.2.2.1, tW.2.2.2.2.2.2.2.2))) hP hD [1, 2, 3, 4, 5, 6] [0, 7, 8, 9, 10, 11, 12, 13, 14, 15, 16, 17, 18, 19, 20, 21, 22, 23] [0, 18, 19, 20, 21, 22, 23, 1, 2, 3, 4, 5, 6, 7, 8, 9, 10, 11, 12, 13, 14, 15, 16, 17] rfl rfl (by decide) (by decide) hk1 hFc hP1 hD1 rfl (by decide) rfl
            clear hP hD hPc hDc hFc hP1 hD1 hk1 hz1 ht hvm hG
            obtain ⟨hP, hD⟩ := hJ
            refine lv_iload hx hb dX2_says_76 (lv_at hl 0 rfl) ?_
            obtain rfl := Option.some.inj hF
            exact W.iret (v := r61) hx hb hr (fun t ht hW => ⟨⟨r61, (), rfl, rfl, QB.of ht hP hD⟩, hS.F ht⟩) hS.2.2 dX2_says_78
          · have hF := iff_ (fun h => h hc) hF
            refine lv_aload_n hx hb dX2_says_48 rfl (lv_at hl 0 rfl) ?_
            refine lv_bipush (v := (-3)) hx hb dX2_says_49 (by decide) ?_
            have hPc := hP.sub (ws' := (cwX cI a tW)) [0, 1, 2, 3, 4, 5, 6, 7, 8, 9, 10, 11, 12, 13, 14, 15, 16, 17, 18, 19, 20, 21, 22, 23] rfl
            have hDc := hD.sub (ws' := (cwX cI a tW)) [0, 1, 2, 3, 4, 5, 6, 7, 8, 9, 10, 11, 12, 13, 14, 15, 16, 17, 18, 19, 20, 21, 22, 23] (by decide) rfl
            have hFc := va_free (wc := (cwX cI a tW)) hD hS hA [0, 1, 2, 3, 4, 5, 6, 7, 8, 9, 10, 11, 12, 13, 14, 15, 16, 17, 18, 19, 20, 21, 22, 23] rfl
            refine bd hF (fun r51 hG hF => ?_)
            refine va_calli (va_runV (As := [.int (-3)]) (rest := []) ⟨hx, hb, hml, hown, hts⟩ (c_X2_refuse l dC dI cI sf H.size N a tW (-3) r51 hG) (cwV 1 hts gX2_says_X2_refuse rfl rfl rfl (by decide +kernel) ⟨Nat.le_of_ble_eq_true rfl, Nat.le_of_ble_eq_true rfl⟩) ⟨fun a U g mk q => ⟨q.1, q.2.call⟩, va_recv hK hP (ci := 2) (q0 := 0) rfl rfl, fun U hU hW => ⟨rfl, PB.of hU hW hPc hK hDc hNN hSF hS hFc⟩⟩ rfl rfl hl.1 rfl (lv_room (Nat.le_of_ble_eq_true rfl)) dX2_says_51 ⟨Nat.le_of_ble_eq_true rfl, Nat.le_of_ble_eq_true rfl⟩) hS (fun q _ h => hFc q h) hFc (fun z_ u_ t H locs ht hvm hw hB hz1 hk1 hS => ?_)
            subst z_
            obtain ⟨hP1, hD1⟩ := hB
            rw [ht] at hP1
            have hJ := vb_join (ws' := (cwX cI a r51.2)) hP hD [0, 1, 2, 3, 4, 5, 6, 7, 8, 9, 10, 11, 12, 13, 14, 15, 16, 17, 18, 19, 20, 21, 22, 23] [] [0, 1, 2, 3, 4, 5, 6, 7, 8, 9, 10, 11, 12, 13, 14, 15, 16, 17, 18, 19, 20, 21, 22, 23] rfl rfl (by decide) (by decide) hk1 hFc hP1 hD1 rfl (by decide) rfl
            clear hP hD hPc hDc hFc hP1 hD1 hk1 hz1 ht hvm hG
            obtain ⟨hP, hD⟩ := hJ
            obtain rfl := Option.some.inj hF
            exact W.iret (v := r51.1) hx hb hr (fun t ht hW => ⟨⟨r51.1, (), rfl, rfl, QB.of ht hP hD⟩, hS.F ht⟩) hS.2.2 dX2_says_54
        · have hF := iff_ hc hF
          exact kJ30 tW _ _ _ hF hP hD hS (lv_sub hl [0] rfl)
    · have hF := iff_ hc hF
      exact kJ15 tW _ _ _ hF hP hD hS (lv_sub hl [0] rfl)
theorem inw_X2_silent_X2 : ∀ w ∈ u_ws RX2 TX2 9, w ∈ wsX2_silent := fun _ h => List.mem_cons_of_mem _ (List.mem_append_left _ (List.mem_append_right _ h))
theorem inw_X2_silent_X1 : ∀ w ∈ u_ws RX1 TX1 8, w ∈ wsX2_silent := fun _ h => List.mem_cons_of_mem _ (List.mem_append_right _ h)
set_option maxHeartbeats 4000000 in
set_option maxRecDepth 100000 in
theorem c_X2_silent (l : Launch) (dC : Nat → ClassId) (dI : Nat → Nat → Nat) (cI : ClassId) (sf : SFP) (sz : Nat) (N : Nat) (a : Nat → Nat) (tW : XS) (p1 : Int32) (r : (Int32 × XS)) (hF : F_X2_silent N tW p1 = some r) : Met l yX2_silent wsX2_silent ({ frames := 2, cells := 0, slots := 0, locals := 42 }) (va_Pc [.ref (a 0), .int p1] (PB (dC, dI) cI (cwX cI a tW) sz sf)) (va_Qi (fun (z : Int32) (_ : Unit) => z = r.1) (fun _ t => QB (dC, dI) (cwX cI a r.2) (va_A (cwX cI a tW) sz) t) (va_A (cwX cI a tW) sz)) 0 0 (va_A (cwX cI a tW) sz) := by
  refine Met.ofW (cc := cX2_silent) (maxL := 6) (ret := (some .int)) (by decide) rfl ?_
  intro p e s m args below meth c s₁ B hml hv
  obtain ⟨rfl, hsz, hP, hK, hD0, hNN, hSF⟩ := hv
  have hx := B.exec
  have hb := B.bytes
  have hr := B.returns
  have hts := atoms_spec (ws := wsX2_silent) B.pre
  have hown : s.vm.findClass RX2 = some m.cls := findClass_of_methodNamed B.named
  have hlocks := B.notSynchronized
  subst hsz
  have hD := hD0.self (sz := s.heap.size)
  generalize hAe : va_A (cwX cI a tW) s.heap.size = A at hD hSF ⊢
  have hA : ∀ q : Nat, s.heap.size ≤ q → A q := fun q h => by rw [← hAe]; exact Or.inr h
  clear hAe hD0
  have hS : va_S A s.heap s.heap [] := va_S.rf
  have hl := lv_entry ([.ref (a 0), .int p1]) (n := 6) (Nat.le_of_ble_eq_true rfl)
  rw [lg_entry_eq]
  generalize (lg_sl ([.ref (a 0), .int p1]) ++ List.replicate (6 - (lg_sl ([.ref (a 0), .int p1])).length) Slot.unset).toArray = ls at hl ⊢
  have hl : lv_has ls 6 [(0, .ref (a 0)), (1, .int p1)] := hl
  rw [F_X2_silent] at hF
  refine lv_iload_n hx hb dX2_silent_0 rfl (lv_at hl 1 rfl) ?_
  refine vW_have (fun R av Q => ∀ (tW : XS) (H : Heap) (locs : List Loc) (ls : Array Slot), F_X2_silent_9 N tW = some r → va_P (dC, dI) vwCl (cwX cI a tW) H → va_D A (cwX cI a tW) → va_S A s.heap H locs → lv_has ls 6 [(0, .ref (a 0))] → W p l e R s m av below meth c H locs 0 0 Q (F0 m 9 ls [])) ?_ (fun kJ9 => ?_)
  · 
    intro tW H locs ls hF hP hD hS hl
    rw [F_X2_silent_9] at hF
    refine lv_aload_n hx hb dX2_silent_9 rfl (lv_at hl 0 rfl) ?_
    refine lv_bipush (v := (-2)) hx hb dX2_silent_10 (by decide) ?_
    have hPc := hP.sub (ws' := (cwX cI a tW)) [0, 1, 2, 3, 4, 5, 6, 7, 8, 9, 10, 11, 12, 13, 14, 15, 16, 17, 18, 19, 20, 21, 22, 23] rfl
    have hDc := hD.sub (ws' := (cwX cI a tW)) [0, 1, 2, 3, 4, 5, 6, 7, 8, 9, 10, 11, 12, 13, 14, 15, 16, 17, 18, 19, 20, 21, 22, 23] (by decide) rfl
    have hFc := va_free (wc := (cwX cI a tW)) hD hS hA [0, 1, 2, 3, 4, 5, 6, 7, 8, 9, 10, 11, 12, 13, 14, 15, 16, 17, 18, 19, 20, 21, 22, 23] rfl
    refine bd hF (fun r12 hG hF => ?_)
    refine va_calli (va_runV (As := [.int (-2)]) (rest := []) ⟨hx, hb, hml, hown, hts⟩ (c_X2_refuse l dC dI cI sf H.size N a tW (-2) r12 hG) (cwV 1 hts gX2_silent_X2_refuse rfl rfl rfl (by decide +kernel) ⟨Nat.le_of_ble_eq_true rfl, Nat.le_of_ble_eq_true rfl⟩) ⟨fun a U g mk q => ⟨q.1, q.2.call⟩, va_recv hK hP (ci := 2) (q0 := 0) rfl rfl, fun U hU hW => ⟨rfl, PB.of hU hW hPc hK hDc hNN hSF hS hFc⟩⟩ rfl rfl hl.1 rfl (lv_room (Nat.le_of_ble_eq_true rfl)) dX2_silent_12 ⟨Nat.le_of_ble_eq_true rfl, Nat.le_of_ble_eq_true rfl⟩) hS (fun q _ h => hFc q h) hFc (fun z_ u_ t H locs ht hvm hw hB hz1 hk1 hS => ?_)
    subst z_
    obtain ⟨hP1, hD1⟩ := hB
    rw [ht] at hP1
    have hJ := vb_join (ws' := (cwX cI a r12.2)) hP hD [0, 1, 2, 3, 4, 5, 6, 7, 8, 9, 10, 11, 12, 13, 14, 15, 16, 17, 18, 19, 20, 21, 22, 23] [] [0, 1, 2, 3, 4, 5, 6, 7, 8, 9, 10, 11, 12, 13, 14, 15, 16, 17, 18, 19, 20, 21, 22, 23] rfl rfl (by decide) (by decide) hk1 hFc hP1 hD1 rfl (by decide) rfl
    clear hP hD hPc hDc hFc hP1 hD1 hk1 hz1 ht hvm hG
    obtain ⟨hP, hD⟩ := hJ
    obtain rfl := Option.some.inj hF
    exact W.iret (v := r12.1) hx hb hr (fun t ht hW => ⟨⟨r12.1, (), rfl, rfl, QB.of ht hP hD⟩, hS.F ht⟩) hS.2.2 dX2_silent_15
  refine lv_if_lt (tgt := 9) hx hb dX2_silent_1 (by decide) (fun hc => ?_) (fun hc => ?_)
  · have hF := ift hc hF
    exact kJ9 tW _ _ _ hF hP hD hS (lv_sub hl [0] rfl)
  · have hF := iff_ hc hF
    refine lv_iload_n hx hb dX2_silent_4 rfl (lv_at hl 1 rfl) ?_
    refine lv_iconst (v := nI 1) hx hb dX2_silent_5 (by decide) ?_
    refine lv_icmp_le (tgt := 16) hx hb dX2_silent_6 (by decide) (fun hc => ?_) (fun hc => ?_)
    · have hF := ift hc hF
      refine lv_iconst (v := nI 0) hx hb dX2_silent_16 (by decide) ?_
      refine lv_istore_n (lv' := [(2, .int (nI 0)), (0, .ref (a 0)), (1, .int p1)]) hx hb dX2_silent_17 rfl hl (by decide) rfl (fun ls hl => ?_)
      refine lv_iconst (v := nI 0) hx hb dX2_silent_18 (by decide) ?_
      refine vW_have (fun R av Q => ∀ (n20 : Nat) (tW : XS) (x1 : Int32) (x2 : Int32) (x3 : Int32) (H : Heap) (locs : List Loc) (ls : Array Slot), F_X2_silent_20 N n20 tW x1 x2 x3 = some r → va_P (dC, dI) vwCl (cwX cI a tW) H → va_D A (cwX cI a tW) → va_S A s.heap H locs → lv_has ls 6 [(0, .ref (a 0)), (1, .int x1), (2, .int x2), (3, .int x3)] → W p l e R s m av below meth c H locs 0 0 Q (F0 m 20 ls [])) ?_ (fun kJ20 => ?_)
      · intro n20
        induction n20 with
        | zero => intro tW x1 x2 x3 H locs ls hF; exact nn hF
        | succ n20 ih20 =>
          intro tW x1 x2 x3 H locs ls hF hP hD hS hl
          rw [F_X2_silent_20] at hF
          refine lv_iload_n hx hb dX2_silent_20 rfl (lv_at hl 3 rfl) ?_
          refine lv_bipush (v := nI 8) hx hb dX2_silent_21 (by decide) ?_
          refine lv_icmp_ge (tgt := 110) hx hb dX2_silent_23 (by decide) (fun hc => ?_) (fun hc => ?_)
          · have hF := ift hc hF
            refine lv_iload_n hx hb dX2_silent_110 rfl (lv_at hl 2 rfl) ?_
            obtain rfl := Option.some.inj hF
            exact W.iret (v := x2) hx hb hr (fun t ht hW => ⟨⟨x2, (), rfl, rfl, QB.of ht hP hD⟩, hS.F ht⟩) hS.2.2 dX2_silent_111
          · have hF := iff_ hc hF
            refine lv_aload_n hx hb dX2_silent_26 rfl (lv_at hl 0 rfl) ?_
            refine va_get (D := (dC, dI)) (ci := 2) (v := .ref (a 1)) (C := RX2) (T := TX2) (N := 9) hx hb hts inw_X2_silent_X2 hown hK hP 0 rfl rfl 0 (by decide) (hts (.fieldLink RX2 10 "DeniedOfEachOther" "now" "LDeniedOfEachOther$Town;") (List.mem_of_getElem? (i := 1) rfl)) (fun _ h9 => h9) rfl dX2_silent_27 ?_
            refine lv_iload_n hx hb dX2_silent_30 rfl (lv_at hl 3 rfl) ?_
            have hPc := hP.sub (ws' := (cwT cI (a 1) (a 2) (a 3) (a 4) (a 5) (a 6) tW.1)) [1, 2, 3, 4, 5, 6] rfl
            have hDc := hD.sub (ws' := (cwT cI (a 1) (a 2) (a 3) (a 4) (a 5) (a 6) tW.1)) [1, 2, 3, 4, 5, 6] (by decide) rfl
            have hFc := va_free (wc := (cwT cI (a 1) (a 2) (a 3) (a 4) (a 5) (a 6) tW.1)) hD hS hA [1, 2, 3, 4, 5, 6] rfl
            refine bd hF (fun r31 hG hF => ?_)
            refine va_calli (va_runVN (As := [.int x3]) (rest := []) ⟨hx, hb, hml, hown, hts⟩ (c_X1_livingYes l dC dI cI sf H.size N (a 1) (a 2) (a 3) (a 4) (a 5) (a 6) tW.1 x3 r31 hG) ⟨va_cnB 1 hts gX2_silent_X1_livingYes_n157 rfl rfl rfl (hNN.at 26 rfl) (hts (.initialized RX1) (List.mem_of_getElem? (i := 9) rfl)) (by decide +kernel) ⟨Nat.le_of_ble_eq_true rfl, Nat.le_of_ble_eq_true rfl⟩, hts (.instanceMethod yX1_livingYes) (List.mem_of_getElem? (i := 8) rfl), hts (.selects RX1 yX1_livingYes yX1_livingYes) (List.mem_of_getElem? (i := 10) rfl)⟩ ⟨fun a U g mk q => ⟨q.1, q.2.call⟩, va_recv hK hP (ci := 1) (q0 := 1) rfl rfl, fun U hU hW => ⟨rfl, PB.of hU hW hPc hK hDc hNN hSF hS hFc⟩⟩ rfl rfl hl.1 rfl (lv_room (Nat.le_of_ble_eq_true rfl)) dX2_silent_31 ⟨Nat.le_of_ble_eq_true rfl, Nat.le_of_ble_eq_true rfl⟩) hS (fun q _ h => hFc q h) hFc (fun z_ u_ t H locs ht hvm hw hB hz1 hk1 hS => ?_)
            subst z_
            obtain ⟨hP1, hD1⟩ := hB
            rw [ht] at hP1
            have hJ := vb_join (ws' := (cwX cI a tW)) hP hD [1, 2, 3, 4, 5, 6] [0, 7, 8, 9, 10, 11, 12, 13, 14, 15, 16, 17, 18, 19, 20, 21, 22, 23] [0, 18, 19, 20, 21, 22, 23, 1, 2, 3, 4, 5, 6, 7, 8, 9, 10, 11, 12, 13, 14, 15, 16, 17] rfl rfl (by decide) (by decide) hk1 hFc hP1 hD1 rfl (by decide) rfl
            clear hP hD hPc hDc hFc hP1 hD1 hk1 hz1 ht hvm hG
            obtain ⟨hP, hD⟩ := hJ
            refine lv_aload_n hx hb dX2_silent_34 rfl (lv_at hl 0 rfl) ?_
            refine va_get (D := (dC, dI)) (ci := 2) (v := .ref (a 1)) (C := RX2) (T := TX2) (N := 9) hx hb hts inw_X2_silent_X2 hown hK hP 0 rfl rfl 0 (by decide) (hts (.fieldLink RX2 10 "DeniedOfEachOther" "now" "LDeniedOfEachOther$Town;") (List.mem_of_getElem? (i := 1) rfl)) (fun _ h9 => h9) rfl dX2_silent_35 ?_
            refine lv_iload_n hx hb dX2_silent_38 rfl (lv_at hl 3 rfl) ?_
            have hPc := hP.sub (ws' := (cwT cI (a 1) (a 2) (a 3) (a 4) (a 5) (a 6) tW.1)) [1, 2, 3, 4, 5, 6] rfl
            have hDc := hD.sub (ws' := (cwT cI (a 1) (a 2) (a 3) (a 4) (a 5) (a 6) tW.1)) [1, 2, 3, 4, 5, 6] (by decide) rfl
            have hFc := va_free (wc := (cwT cI (a 1) (a 2) (a 3) (a 4) (a 5) (a 6) tW.1)) hD hS hA [1, 2, 3, 4, 5, 6] rfl
            refine bd hF (fun r39 hG hF => ?_)
            refine va_calli (va_runVN (As := [.int x3]) (rest := [.int r31]) ⟨hx, hb, hml, hown, hts⟩ (c_X1_livingNo l dC dI cI sf H.size N (a 1) (a 2) (a 3) (a 4) (a 5) (a 6) tW.1 x3 r39 hG) ⟨va_cnB 1 hts gX2_silent_X1_livingNo_n160 rfl rfl rfl (hNN.at 27 rfl) (hts (.initialized RX1) (List.mem_of_getElem? (i := 9) rfl)) (by decide +kernel) ⟨Nat.le_of_ble_eq_true rfl, Nat.le_of_ble_eq_true rfl⟩, hts (.instanceMethod yX1_livingNo) (List.mem_of_getElem? (i := 14) rfl), hts (.selects RX1 yX1_livingNo yX1_livingNo) (List.mem_of_getElem? (i := 15) rfl)⟩ ⟨fun a U g mk q => ⟨q.1, q.2.call⟩, va_recv hK hP (ci := 1) (q0 := 1) rfl rfl, fun U hU hW => ⟨rfl, PB.of hU hW hPc hK hDc hNN hSF hS hFc⟩⟩ rfl rfl hl.1 rfl (lv_room (Nat.le_of_ble_eq_true rfl)) dX2_silent_39 ⟨Nat.le_of_ble_eq_true rfl, Nat.le_of_ble_eq_true rfl⟩) hS (fun q _ h => hFc q h) hFc (fun z_ u_ t H locs ht hvm hw hB hz1 hk1 hS => ?_)
            subst z_
            obtain ⟨hP1, hD1⟩ := hB
            rw [ht] at hP1
            have hJ := vb_join (ws' := (cwX cI a tW)) hP hD [1, 2, 3, 4, 5, 6] [0, 7, 8, 9, 10, 11, 12, 13, 14, 15, 16, 17, 18, 19, 20, 21, 22, 23] [0, 18, 19, 20, 21, 22, 23, 1, 2, 3, 4, 5, 6, 7, 8, 9, 10, 11, 12, 13, 14, 15, 16, 17] rfl rfl (by decide) (by decide) hk1 hFc hP1 hD1 rfl (by decide) rfl
            clear hP hD hPc hDc hFc hP1 hD1 hk1 hz1 ht hvm hG
            obtain ⟨hP, hD⟩ := hJ
            refine lv_ior hx hb dX2_silent_42 ?_
            refine vW_have (fun R av Q => ∀ (tW : XS) (x1 : Int32) (x2 : Int32) (x3 : Int32) (z0 : Int32) (H : Heap) (locs : List Loc) (ls : Array Slot), F_X2_silent_51 N (fun ctW cx1 cx2 cx3 => F_X2_silent_20 N n20 ctW cx1 cx2 cx3) tW x1 x2 x3 z0 = some r → va_P (dC, dI) vwCl (cwX cI a tW) H → va_D A (cwX cI a tW) → va_S A s.heap H locs → lv_has ls 6 [(0, .ref (a 0)), (1, .int x1), (2, .int x2), (3, .int x3)] → W p l e R s m av below meth c H locs 0 0 Q (F0 m 51 ls [.int z0])) ?_ (fun kJ51 => ?_)
            · 
              intro tW x1 x2 x3 z0 H locs ls hF hP hD hS hl
              rw [F_X2_silent_51] at hF
              refine lv_istore (lv' := [(4, .int z0), (0, .ref (a 0)), (1, .int x1), (2, .int x2), (3, .int x3)]) hx hb dX2_silent_51 hl (by decide) rfl (fun ls hl => ?_)
              refine lv_iload_n hx hb dX2_silent_53 rfl (lv_at hl 2 rfl) ?_
              refine vW_have (fun R av Q => ∀ (tW : XS) (x1 : Int32) (x2 : Int32) (x3 : Int32) (z0 : Int32) (H : Heap) (locs : List Loc) (ls : Array Slot), F_X2_silent_91 N (fun ctW cx1 cx2 cx3 => F_X2_silent_20 N n20 ctW cx1 cx2 cx3) tW x1 x2 x3 z0 = some r → va_P (dC, dI) vwCl (cwX cI a tW) H → va_D A (cwX cI a tW) → va_S A s.heap H locs → lv_has ls 6 [(0, .ref (a 0)), (1, .int x1), (2, .int x2), (3, .int x3)] → W p l e R s m av below meth c H locs 0 0 Q (F0 m 91 ls [.int z0])) ?_ (fun kJ91 => ?_)
              · 
                intro tW x1 x2 x3 z0 H locs ls hF hP hD hS hl
                rw [F_X2_silent_91] at hF
                refine lv_istore (lv' := [(5, .int z0), (0, .ref (a 0)), (1, .int x1), (2, .int x2), (3, .int x3)]) hx hb dX2_silent_91 hl (by decide) rfl (fun ls hl => ?_)
                refine lv_iload hx hb dX2_silent_93 (lv_at hl 0 rfl) ?_
                refine vW_have (fun R av Q => ∀ (tW : XS) (x1 : Int32) (x2 : Int32) (x3 : Int32) (H : Heap) (locs : List Loc) (ls : Array Slot), F_X2_silent_104 N (fun ctW cx1 cx2 cx3 => F_X2_silent_20 N n20 ctW cx1 cx2 cx3) tW x1 x2 x3 = some r → va_P (dC, dI) vwCl (cwX cI a tW) H → va_D A (cwX cI a tW) → va_S A s.heap H locs → lv_has ls 6 [(0, .ref (a 0)), (1, .int x1), (2, .int x2), (3, .int x3)] → W p l e R s m av below meth c H locs 0 0 Q (F0 m 104 ls [])) ?_ (fun kJ104 => ?_)
                · 
                  intro tW x1 x2 x3 H locs ls hF hP hD hS hl
                  rw [F_X2_silent_104] at hF
                  refine lv_iinc (v := x3 + (nI 1)) (lv' := [(3, .int (x3 + (nI 1))), (0, .ref (a 0)), (1, .int x1), (2, .int x2)]) hx hb dX2_silent_104 hl (k := 3) rfl (by rfl) (by decide) rfl (fun ls hl => ?_)
                  refine lv_goto (tgt := 20) hx hb dX2_silent_107 (by decide) ?_
                  exact ih20 tW x1 x2 (x3 + (nI 1)) _ _ _ hF hP hD hS (lv_sub hl [1, 2, 3, 0] rfl)
                refine lv_if_eq (tgt := 104) hx hb dX2_silent_95 (by decide) (fun hc => ?_) (fun hc => ?_)
                · have hF := ift hc hF
                  exact kJ104 tW x1 x2 x3 _ _ _ hF hP hD hS (lv_sub hl [1, 2, 3, 4] rfl)
                · have hF := iff_ hc hF
                  refine lv_iload_n hx hb dX2_silent_98 rfl (lv_at hl 3 rfl) ?_
                  refine lv_iconst (v := nI 1) hx hb dX2_silent_99 (by decide) ?_
                  refine lv_iload_n hx hb dX2_silent_100 rfl (lv_at hl 4 rfl) ?_
                  refine lv_ishl hx hb dX2_silent_101 ?_
                  refine lv_ior hx hb dX2_silent_102 ?_
                  refine lv_istore_n (lv' := [(2, .int (x2 ||| ((nI 1) <<< (x3 &&& 31)))), (5, .int z0), (0, .ref (a 0)), (1, .int x1), (3, .int x3)]) hx hb dX2_silent_103 rfl hl (by decide) rfl (fun ls hl => ?_)
                  exact kJ104 tW x1 (x2 ||| ((nI 1) <<< (x3 &&& 31))) x3 _ _ _ hF hP hD hS (lv_sub hl [2, 3, 0, 4] rfl)
              refine lv_if_ne (tgt := 70) hx hb dX2_silent_54 (by decide) (fun hc => ?_) (fun hc => ?_)
              · have hF := ift hc hF
                refine lv_iload hx hb dX2_silent_70 (lv_at hl 0 rfl) ?_
                refine lv_if_eq (tgt := 90) hx hb dX2_silent_72 (by decide) (fun hc => ?_) (fun hc => ?_)
                · have hF := ift hc hF
                  refine lv_iconst (v := nI 0) hx hb dX2_silent_90 (by decide) ?_
                  exact kJ91 tW x1 x2 x3 (nI 0) _ _ _ hF hP hD hS (lv_sub hl [1, 2, 3, 4] rfl)
                · have hF := iff_ hc hF
                  refine lv_aload_n hx hb dX2_silent_75 rfl (lv_at hl 1 rfl) ?_
                  refine va_get (D := (dC, dI)) (ci := 2) (v := .ref (a 1)) (C := RX2) (T := TX2) (N := 9) hx hb hts inw_X2_silent_X2 hown hK hP 0 rfl rfl 0 (by decide) (hts (.fieldLink RX2 10 "DeniedOfEachOther" "now" "LDeniedOfEachOther$Town;") (List.mem_of_getElem? (i := 1) rfl)) (fun _ h9 => h9) rfl dX2_silent_76 ?_
                  refine lv_iload_n hx hb dX2_silent_79 rfl (lv_at hl 4 rfl) ?_
                  have hPc := hP.sub (ws' := (cwT cI (a 1) (a 2) (a 3) (a 4) (a 5) (a 6) tW.1)) [1, 2, 3, 4, 5, 6] rfl
                  have hDc := hD.sub (ws' := (cwT cI (a 1) (a 2) (a 3) (a 4) (a 5) (a 6) tW.1)) [1, 2, 3, 4, 5, 6] (by decide) rfl
                  have hFc := va_free (wc := (cwT cI (a 1) (a 2) (a 3) (a 4) (a 5) (a 6) tW.1)) hD hS hA [1, 2, 3, 4, 5, 6] rfl
                  refine bd hF (fun r80 hG hF => ?_)
                  refine va_calli (va_runVN (As := [.int x3]) (rest := []) ⟨hx, hb, hml, hown, hts⟩ (c_X1_isWritten l dC dI cI sf H.size N (a 1) (a 2) (a 3) (a 4) (a 5) (a 6) tW.1 x3 r80 hG) ⟨va_cnB 1 hts gX2_silent_X1_isWritten_n163 rfl rfl rfl (hNN.at 28 rfl) (hts (.initialized RX1) (List.mem_of_getElem? (i := 9) rfl)) (by decide +kernel) ⟨Nat.le_of_ble_eq_true rfl, Nat.le_of_ble_eq_true rfl⟩, hts (.instanceMethod yX1_isWritten) (List.mem_of_getElem? (i := 18) rfl), hts (.selects RX1 yX1_isWritten yX1_isWritten) (List.mem_of_getElem? (i := 19) rfl)⟩ ⟨fun a U g mk q => ⟨q.1, q.2.call⟩, va_recv hK hP (ci := 1) (q0 := 1) rfl rfl, fun U hU hW => ⟨rfl, PB.of hU hW hPc hK hDc hNN hSF hS hFc⟩⟩ rfl rfl hl.1 rfl (lv_room (Nat.le_of_ble_eq_true rfl)) dX2_silent_80 ⟨Nat.le_of_ble_eq_true rfl, Nat.le_of_ble_eq_true rfl⟩) hS (fun q _ h => hFc q h) hFc (fun z_ u_ t H locs ht hvm hw hB hz1 hk1 hS => ?_)
                  subst z_
                  obtain ⟨hP1, hD1⟩ := hB
                  rw [ht] at hP1
                  have hJ := vb_join (ws' := (cwX cI a tW)) hP hD [1, 2, 3, 4, 5, 6] [0, 7, 8, 9, 10, 11, 12, 13, 14, 15, 16, 17, 18, 19, 20, 21, 22, 23] [0, 18, 19, 20, 21, 22, 23, 1, 2, 3, 4, 5, 6, 7, 8, 9, 10, 11, 12, 13, 14, 15, 16, 17] rfl rfl (by decide) (by decide) hk1 hFc hP1 hD1 rfl (by decide) rfl
                  clear hP hD hPc hDc hFc hP1 hD1 hk1 hz1 ht hvm hG
                  obtain ⟨hP, hD⟩ := hJ
                  refine lv_if_ne (tgt := 90) hx hb dX2_silent_83 (by decide) (fun hc => ?_) (fun hc => ?_)
                  · have hF := ift hc hF
                    refine lv_iconst (v := nI 0) hx hb dX2_silent_90 (by decide) ?_
                    exact kJ91 tW x1 x2 x3 (nI 0) _ _ _ hF hP hD hS (lv_sub hl [1, 2, 3, 4] rfl)
                  · have hF := iff_ (fun h => h hc) hF
                    refine lv_iconst (v := nI 1) hx hb dX2_silent_86 (by decide) ?_
                    refine lv_goto (tgt := 91) hx hb dX2_silent_87 (by decide) ?_
                    exact kJ91 tW x1 x2 x3 (nI 1) _ _ _ hF hP hD hS (lv_sub hl [1, 2, 3, 4] rfl)
              · have hF := iff_ (fun h => h hc) hF
                refine lv_iload hx hb dX2_silent_57 (lv_at hl 0 rfl) ?_
                refine lv_if_ne (tgt := 66) hx hb dX2_silent_59 (by decide) (fun hc => ?_) (fun hc => ?_)
                · have hF := ift hc hF
                  refine lv_iconst (v := nI 0) hx hb dX2_silent_66 (by decide) ?_
                  refine lv_goto (tgt := 91) hx hb dX2_silent_67 (by decide) ?_
                  exact kJ91 tW x1 x2 x3 (nI 0) _ _ _ hF hP hD hS (lv_sub hl [1, 2, 3, 4] rfl)
                · have hF := iff_ (fun h => h hc) hF
                  refine lv_iconst (v := nI 1) hx hb dX2_silent_62 (by decide) ?_
                  refine lv_goto (tgt := 91) hx hb dX2_silent_63 (by decide) ?_
                  exact kJ91 tW x1 x2 x3 (nI 1) _ _ _ hF hP hD hS (lv_sub hl [1, 2, 3, 4] rfl)
            refine lv_if_eq (tgt := 50) hx hb dX2_silent_43 (by decide) (fun hc => ?_) (fun hc => ?_)
            · have hF := ift hc hF
              refine lv_iconst (v := nI 0) hx hb dX2_silent_50 (by decide) ?_
              exact kJ51 tW x1 x2 x3 (nI 0) _ _ _ hF hP hD hS (lv_sub hl [0, 1, 2, 3] rfl)
            · have hF := iff_ hc hF
              refine lv_iconst (v := nI 1) hx hb dX2_silent_46 (by decide) ?_
              refine lv_goto (tgt := 51) hx hb dX2_silent_47 (by decide) ?_
              exact kJ51 tW x1 x2 x3 (nI 1) _ _ _ hF hP hD hS (lv_sub hl [0, 1, 2, 3] rfl)
      refine lv_istore_n (lv' := [(3, .int (nI 0)), (2, .int (nI 0)), (0, .ref (a 0)), (1, .int p1)]) hx hb dX2_silent_19 rfl hl (by decide) rfl (fun ls hl => ?_)
      exact kJ20 N tW p1 (nI 0) (nI 0) _ _ _ hF hP hD hS (lv_sub hl [2, 3, 1, 0] rfl)
    · have hF := iff_ hc hF
      exact kJ9 tW _ _ _ hF hP hD hS (lv_sub hl [0] rfl)
