theorem inw_X2_two_X2 : ∀ w ∈ u_ws RX2 TX2 9, w ∈ wsX2_two := fun _ h => List.mem_cons_of_mem _ (List.mem_append_left _ (List.mem_append_right _ h))
theorem inw_X2_two_X1 : ∀ w ∈ u_ws RX1 TX1 8, w ∈ wsX2_two := fun _ h => List.mem_cons_of_mem _ (List.mem_append_right _ h)
set_option maxHeartbeats 4000000 in
set_option maxRecDepth 100000 in
theorem c_X2_two (l : Launch) (dC : Nat → ClassId) (dI : Nat → Nat → Nat) (cI : ClassId) (sf : SFP) (sz : Nat) (N : Nat) (a : Nat → Nat) (tW : XS) (p1 : Int32) (p2 : Int32) (p3 : Int32) (p4 : Int32) (r : (Int32 × XS)) (hF : F_X2_two N tW p1 p2 p3 p4 = some r) : Met l yX2_two wsX2_two ({ frames := 6, cells := 0, slots := 0, locals := 147 }) (va_Pc [.ref (a 0), .int p1, .int p2, .int p3, .int p4] (PB (dC, dI) cI (cwX cI a tW) sz sf)) (va_Qi (fun (z : Int32) (_ : Unit) => z = r.1) (fun _ t => QB (dC, dI) (cwX cI a r.2) (va_A (cwX cI a tW) sz) t) (va_A (cwX cI a tW) sz)) 0 0 (va_A (cwX cI a tW) sz) := by
  refine Met.ofW (cc := cX2_two) (maxL := 9) (ret := (some .int)) (by decide) rfl ?_
  intro p e s m args below meth c s₁ B hml hv
  obtain ⟨rfl, hsz, hP, hK, hD0, hNN, hSF⟩ := hv
  have hx := B.exec
  have hb := B.bytes
  have hr := B.returns
  have hts := atoms_spec (ws := wsX2_two) B.pre
  have hown : s.vm.findClass RX2 = some m.cls := findClass_of_methodNamed B.named
  have hlocks := B.notSynchronized
  subst hsz
  have hD := hD0.self (sz := s.heap.size)
  generalize hAe : va_A (cwX cI a tW) s.heap.size = A at hD hSF ⊢
  have hA : ∀ q : Nat, s.heap.size ≤ q → A q := fun q h => by rw [← hAe]; exact Or.inr h
  clear hAe hD0
  have hS : va_S A s.heap s.heap [] := va_S.rf
  have hl := lv_entry ([.ref (a 0), .int p1, .int p2, .int p3, .int p4]) (n := 9) (Nat.le_of_ble_eq_true rfl)
  rw [lg_entry_eq]
  generalize (lg_sl ([.ref (a 0), .int p1, .int p2, .int p3, .int p4]) ++ List.replicate (9 - (lg_sl ([.ref (a 0), .int p1, .int p2, .int p3, .int p4])).length) Slot.unset).toArray = ls at hl ⊢
  have hl : lv_has ls 9 [(0, .ref (a 0)), (1, .int p1), (2, .int p2), (3, .int p3), (4, .int p4)] := hl
  rw [F_X2_two] at hF
  refine lv_aload_n hx hb dX2_two_0 rfl (lv_at hl 0 rfl) ?_
  refine lv_iload_n hx hb dX2_two_1 rfl (lv_at hl 1 rfl) ?_
  have hPc := hP.sub (ws' := (cwX cI a tW)) [0, 1, 2, 3, 4, 5, 6, 7, 8, 9, 10, 11, 12, 13, 14, 15, 16, 17, 18, 19, 20, 21, 22, 23] rfl
  have hDc := hD.sub (ws' := (cwX cI a tW)) [0, 1, 2, 3, 4, 5, 6, 7, 8, 9, 10, 11, 12, 13, 14, 15, 16, 17, 18, 19, 20, 21, 22, 23] (by decide) rfl
  have hFc := va_free (wc := (cwX cI a tW)) hD hS hA [0, 1, 2, 3, 4, 5, 6, 7, 8, 9, 10, 11, 12, 13, 14, 15, 16, 17, 18, 19, 20, 21, 22, 23] rfl
  refine bd hF (fun r2 hG hF => ?_)
  refine va_calli (va_runV (As := [.int p1]) (rest := []) ⟨hx, hb, hml, hown, hts⟩ (c_X2_noCitizen l dC dI cI sf s.heap.size N a tW p1 r2 hG) (cwV 1 hts gX2_two_X2_noCitizen rfl rfl rfl (by decide +kernel) ⟨Nat.le_of_ble_eq_true rfl, Nat.le_of_ble_eq_true rfl⟩) ⟨fun a U g mk q => ⟨q.1, q.2.call⟩, va_recv hK hP (ci := 2) (q0 := 0) rfl rfl, fun U hU hW => ⟨rfl, PB.of hU hW hPc hK hDc hNN hSF hS hFc⟩⟩ rfl rfl hl.1 rfl (lv_room (Nat.le_of_ble_eq_true rfl)) dX2_two_2 ⟨Nat.le_of_ble_eq_true rfl, Nat.le_of_ble_eq_true rfl⟩) hS (fun q _ h => hFc q h) hFc (fun z_ u_ t H locs ht hvm hw hB hz1 hk1 hS => ?_)
  subst z_
  obtain ⟨hP1, hD1⟩ := hB
  rw [ht] at hP1
  have hJ := vb_join (ws' := (cwX cI a tW)) hP hD [0, 1, 2, 3, 4, 5, 6, 7, 8, 9, 10, 11, 12, 13, 14, 15, 16, 17, 18, 19, 20, 21, 22, 23] [] [0, 1, 2, 3, 4, 5, 6, 7, 8, 9, 10, 11, 12, 13, 14, 15, 16, 17, 18, 19, 20, 21, 22, 23] rfl rfl (by decide) (by decide) hk1 hFc hP1 hD1 rfl (by decide) rfl
  clear hP hD hPc hDc hFc hP1 hD1 hk1 hz1 ht hvm hG
  obtain ⟨hP, hD⟩ := hJ
  refine vW_have (fun R av Q => ∀ (tW : XS) (H : Heap) (locs : List Loc) (ls : Array Slot), F_X2_two_28 N tW = some r → va_P (dC, dI) vwCl (cwX cI a tW) H → va_D A (cwX cI a tW) → va_S A s.heap H locs → lv_has ls 9 [(0, .ref (a 0))] → W p l e R s m av below meth c H locs 0 0 Q (F0 m 28 ls [])) ?_ (fun kJ28 => ?_)
  · 
    intro tW H locs ls hF hP hD hS hl
    rw [F_X2_two_28] at hF
    refine lv_aload_n hx hb dX2_two_28 rfl (lv_at hl 0 rfl) ?_
    refine lv_iconst (v := (-1)) hx hb dX2_two_29 (by decide) ?_
    have hPc := hP.sub (ws' := (cwX cI a tW)) [0, 1, 2, 3, 4, 5, 6, 7, 8, 9, 10, 11, 12, 13, 14, 15, 16, 17, 18, 19, 20, 21, 22, 23] rfl
    have hDc := hD.sub (ws' := (cwX cI a tW)) [0, 1, 2, 3, 4, 5, 6, 7, 8, 9, 10, 11, 12, 13, 14, 15, 16, 17, 18, 19, 20, 21, 22, 23] (by decide) rfl
    have hFc := va_free (wc := (cwX cI a tW)) hD hS hA [0, 1, 2, 3, 4, 5, 6, 7, 8, 9, 10, 11, 12, 13, 14, 15, 16, 17, 18, 19, 20, 21, 22, 23] rfl
    refine bd hF (fun r30 hG hF => ?_)
    refine va_calli (va_runV (As := [.int (-1)]) (rest := []) ⟨hx, hb, hml, hown, hts⟩ (c_X2_refuse l dC dI cI sf H.size N a tW (-1) r30 hG) (cwV 1 hts gX2_two_X2_refuse rfl rfl rfl (by decide +kernel) ⟨Nat.le_of_ble_eq_true rfl, Nat.le_of_ble_eq_true rfl⟩) ⟨fun a U g mk q => ⟨q.1, q.2.call⟩, va_recv hK hP (ci := 2) (q0 := 0) rfl rfl, fun U hU hW => ⟨rfl, PB.of hU hW hPc hK hDc hNN hSF hS hFc⟩⟩ rfl rfl hl.1 rfl (lv_room (Nat.le_of_ble_eq_true rfl)) dX2_two_30 ⟨Nat.le_of_ble_eq_true rfl, Nat.le_of_ble_eq_true rfl⟩) hS (fun q _ h => hFc q h) hFc (fun z_ u_ t H locs ht hvm hw hB hz1 hk1 hS => ?_)
    subst z_
    obtain ⟨hP1, hD1⟩ := hB
    rw [ht] at hP1
    have hJ := vb_join (ws' := (cwX cI a r30.2)) hP hD [0, 1, 2, 3, 4, 5, 6, 7, 8, 9, 10, 11, 12, 13, 14, 15, 16, 17, 18, 19, 20, 21, 22, 23] [] [0, 1, 2, 3, 4, 5, 6, 7, 8, 9, 10, 11, 12, 13, 14, 15, 16, 17, 18, 19, 20, 21, 22, 23] rfl rfl (by decide) (by decide) hk1 hFc hP1 hD1 rfl (by decide) rfl
    clear hP hD hPc hDc hFc hP1 hD1 hk1 hz1 ht hvm hG
    obtain ⟨hP, hD⟩ := hJ
    obtain rfl := Option.some.inj hF
    exact W.iret (v := r30.1) hx hb hr (fun t ht hW => ⟨⟨r30.1, (), rfl, rfl, QB.of ht hP hD⟩, hS.F ht⟩) hS.2.2 dX2_two_33
  refine lv_if_ne (tgt := 28) hx hb dX2_two_5 (by decide) (fun hc => ?_) (fun hc => ?_)
  · have hF := ift hc hF
    exact kJ28 tW _ _ _ hF hP hD hS (lv_sub hl [0] rfl)
  · have hF := iff_ (fun h => h hc) hF
    refine lv_aload_n hx hb dX2_two_8 rfl (lv_at hl 0 rfl) ?_
    refine lv_iload_n hx hb dX2_two_9 rfl (lv_at hl 2 rfl) ?_
    have hPc := hP.sub (ws' := (cwX cI a tW)) [0, 1, 2, 3, 4, 5, 6, 7, 8, 9, 10, 11, 12, 13, 14, 15, 16, 17, 18, 19, 20, 21, 22, 23] rfl
    have hDc := hD.sub (ws' := (cwX cI a tW)) [0, 1, 2, 3, 4, 5, 6, 7, 8, 9, 10, 11, 12, 13, 14, 15, 16, 17, 18, 19, 20, 21, 22, 23] (by decide) rfl
    have hFc := va_free (wc := (cwX cI a tW)) hD hS hA [0, 1, 2, 3, 4, 5, 6, 7, 8, 9, 10, 11, 12, 13, 14, 15, 16, 17, 18, 19, 20, 21, 22, 23] rfl
    refine bd hF (fun r10 hG hF => ?_)
    refine va_calli (va_runV (As := [.int p2]) (rest := []) ⟨hx, hb, hml, hown, hts⟩ (c_X2_noCitizen l dC dI cI sf H.size N a tW p2 r10 hG) (cwV 1 hts gX2_two_X2_noCitizen rfl rfl rfl (by decide +kernel) ⟨Nat.le_of_ble_eq_true rfl, Nat.le_of_ble_eq_true rfl⟩) ⟨fun a U g mk q => ⟨q.1, q.2.call⟩, va_recv hK hP (ci := 2) (q0 := 0) rfl rfl, fun U hU hW => ⟨rfl, PB.of hU hW hPc hK hDc hNN hSF hS hFc⟩⟩ rfl rfl hl.1 rfl (lv_room (Nat.le_of_ble_eq_true rfl)) dX2_two_10 ⟨Nat.le_of_ble_eq_true rfl, Nat.le_of_ble_eq_true rfl⟩) hS (fun q _ h => hFc q h) hFc (fun z_ u_ t H locs ht hvm hw hB hz1 hk1 hS => ?_)
    subst z_
    obtain ⟨hP1, hD1⟩ := hB
    rw [ht] at hP1
    have hJ := vb_join (ws' := (cwX cI a tW)) hP hD [0, 1, 2, 3, 4, 5, 6, 7, 8, 9, 10, 11, 12, 13, 14, 15, 16, 17, 18, 19, 20, 21, 22, 23] [] [0, 1, 2, 3, 4, 5, 6, 7, 8, 9, 10, 11, 12, 13, 14, 15, 16, 17, 18, 19, 20, 21, 22, 23] rfl rfl (by decide) (by decide) hk1 hFc hP1 hD1 rfl (by decide) rfl
    clear hP hD hPc hDc hFc hP1 hD1 hk1 hz1 ht hvm hG
    obtain ⟨hP, hD⟩ := hJ
    refine lv_if_ne (tgt := 28) hx hb dX2_two_13 (by decide) (fun hc => ?_) (fun hc => ?_)
    · have hF := ift hc hF
      exact kJ28 tW _ _ _ hF hP hD hS (lv_sub hl [0] rfl)
    · have hF := iff_ (fun h => h hc) hF
      refine lv_iload_n hx hb dX2_two_16 rfl (lv_at hl 1 rfl) ?_
      refine lv_iload_n hx hb dX2_two_17 rfl (lv_at hl 2 rfl) ?_
      refine lv_icmp_eq (tgt := 28) hx hb dX2_two_18 (by decide) (fun hc => ?_) (fun hc => ?_)
      · have hF := ift hc hF
        exact kJ28 tW _ _ _ hF hP hD hS (lv_sub hl [0] rfl)
      · have hF := iff_ hc hF
        refine lv_iload_n hx hb dX2_two_21 rfl (lv_at hl 3 rfl) ?_
        have hPc := hP.sub (ws' := ([] : va_W)) [] rfl
        have hDc := hD.sub (ws' := ([] : va_W)) [] (by decide) rfl
        have hFc := va_free (wc := ([] : va_W)) hD hS hA [] rfl
        refine bd hF (fun r22 hG hF => ?_)
        refine va_calli (va_runS (As := [.int p3]) (rest := []) ⟨hx, hb, hml, hown, hts⟩ (c_X2_noTopic l dC dI cI sf H.size N  p3 r22 hG) (va_cwS 1 hts gX2_two_X2_noTopic rfl rfl rfl (by decide +kernel) ⟨Nat.le_of_ble_eq_true rfl, Nat.le_of_ble_eq_true rfl⟩) ⟨fun a U g mk q => ⟨q.1, q.2.call⟩, fun U hU hW => ⟨rfl, PB.of hU hW hPc hK hDc hNN hSF hS hFc⟩⟩ rfl rfl hl.1 rfl (lv_room (Nat.le_of_ble_eq_true rfl)) dX2_two_22 ⟨Nat.le_of_ble_eq_true rfl, Nat.le_of_ble_eq_true rfl⟩) hS (fun q _ h => hFc q h) hFc (fun z_ u_ t H locs ht hvm hw hB hz1 hk1 hS => ?_)
        subst z_
        obtain ⟨hP1, hD1⟩ := hB
        rw [ht] at hP1
        have hJ := vb_join (ws' := (cwX cI a tW)) hP hD [] [0, 1, 2, 3, 4, 5, 6, 7, 8, 9, 10, 11, 12, 13, 14, 15, 16, 17, 18, 19, 20, 21, 22, 23] [0, 1, 2, 3, 4, 5, 6, 7, 8, 9, 10, 11, 12, 13, 14, 15, 16, 17, 18, 19, 20, 21, 22, 23] rfl rfl (by decide) (by decide) hk1 hFc hP1 hD1 rfl (by decide) rfl
        clear hP hD hPc hDc hFc hP1 hD1 hk1 hz1 ht hvm hG
        obtain ⟨hP, hD⟩ := hJ
        refine lv_if_eq (tgt := 34) hx hb dX2_two_25 (by decide) (fun hc => ?_) (fun hc => ?_)
        · have hF := ift hc hF
          refine lv_iload hx hb dX2_two_34 (lv_at hl 4 rfl) ?_
          refine lv_if_ge (tgt := 46) hx hb dX2_two_36 (by decide) (fun hc => ?_) (fun hc => ?_)
          · have hF := ift hc hF
            refine lv_iload hx hb dX2_two_46 (lv_at hl 4 rfl) ?_
            refine lv_bipush (v := nI 60) hx hb dX2_two_48 (by decide) ?_
            refine lv_icmp_le (tgt := 60) hx hb dX2_two_50 (by decide) (fun hc => ?_) (fun hc => ?_)
            · have hF := ift hc hF
              refine lv_aload_n hx hb dX2_two_60 rfl (lv_at hl 0 rfl) ?_
              refine va_get (D := (dC, dI)) (ci := 2) (v := .ref (a 1)) (C := RX2) (T := TX2) (N := 9) hx hb hts inw_X2_two_X2 hown hK hP 0 rfl rfl 0 (by decide) (hts (.fieldLink RX2 10 "DeniedOfEachOther" "now" "LDeniedOfEachOther$Town;") (List.mem_of_getElem? (i := 1) rfl)) (fun _ h9 => h9) rfl dX2_two_61 ?_
              refine lv_iload_n hx hb dX2_two_64 rfl (lv_at hl 1 rfl) ?_
              have hPc := hP.sub (ws' := (cwT cI (a 1) (a 2) (a 3) (a 4) (a 5) (a 6) tW.1)) [1, 2, 3, 4, 5, 6] rfl
              have hDc := hD.sub (ws' := (cwT cI (a 1) (a 2) (a 3) (a 4) (a 5) (a 6) tW.1)) [1, 2, 3, 4, 5, 6] (by decide) rfl
              have hFc := va_free (wc := (cwT cI (a 1) (a 2) (a 3) (a 4) (a 5) (a 6) tW.1)) hD hS hA [1, 2, 3, 4, 5, 6] rfl
              refine bd hF (fun r65 hG hF => ?_)
              refine va_calli (va_runVN (As := [.int p1]) (rest := []) ⟨hx, hb, hml, hown, hts⟩ (c_X1_isLiving l dC dI cI sf H.size N (a 1) (a 2) (a 3) (a 4) (a 5) (a 6) tW.1 p1 r65 hG) ⟨va_cnB 1 hts gX2_two_X1_isLiving_n85 rfl rfl rfl (hNN.at 10 rfl) (hts (.initialized RX1) (List.mem_of_getElem? (i := 17) rfl)) (by decide +kernel) ⟨Nat.le_of_ble_eq_true rfl, Nat.le_of_ble_eq_true rfl⟩, hts (.instanceMethod yX1_isLiving) (List.mem_of_getElem? (i := 16) rfl), hts (.selects RX1 yX1_isLiving yX1_isLiving) (List.mem_of_getElem? (i := 18) rfl)⟩ ⟨fun a U g mk q => ⟨q.1, q.2.call⟩, va_recv hK hP (ci := 1) (q0 := 1) rfl rfl, fun U hU hW => ⟨rfl, PB.of hU hW hPc hK hDc hNN hSF hS hFc⟩⟩ rfl rfl hl.1 rfl (lv_room (Nat.le_of_ble_eq_true rfl)) dX2_two_65 ⟨Nat.le_of_ble_eq_true rfl, Nat.le_of_ble_eq_true rfl⟩) hS (fun q _ h => hFc q h) hFc (fun z_ u_ t H locs ht hvm hw hB hz1 hk1 hS => ?_)
              subst z_
              obtain ⟨hP1, hD1⟩ := hB
              rw [ht] at hP1
              have hJ := vb_join (ws' := (cwX cI a tW)) hP hD [1, 2, 3, 4, 5, 6] [0, 7, 8, 9, 10, 11, 12, 13, 14, 15, 16, 17, 18, 19, 20, 21, 22, 23] [0, 18, 19, 20, 21, 22, 23, 1, 2, 3, 4, 5, 6, 7, 8, 9, 10, 11, 12, 13, 14, 15, 16, 17] rfl rfl (by decide) (by decide) hk1 hFc hP1 hD1 rfl (by decide) rfl
              clear hP hD hPc hDc hFc hP1 hD1 hk1 hz1 ht hvm hG
              obtain ⟨hP, hD⟩ := hJ
              refine vW_have (fun R av Q => ∀ (tW : XS) (H : Heap) (locs : List Loc) (ls : Array Slot), F_X2_two_82 N tW = some r → va_P (dC, dI) vwCl (cwX cI a tW) H → va_D A (cwX cI a tW) → va_S A s.heap H locs → lv_has ls 9 [(0, .ref (a 0))] → W p l e R s m av below meth c H locs 0 0 Q (F0 m 82 ls [])) ?_ (fun kJ82 => ?_)
              · 
                intro tW H locs ls hF hP hD hS hl
                rw [F_X2_two_82] at hF
                refine lv_aload_n hx hb dX2_two_82 rfl (lv_at hl 0 rfl) ?_
                refine lv_bipush (v := (-3)) hx hb dX2_two_83 (by decide) ?_
                have hPc := hP.sub (ws' := (cwX cI a tW)) [0, 1, 2, 3, 4, 5, 6, 7, 8, 9, 10, 11, 12, 13, 14, 15, 16, 17, 18, 19, 20, 21, 22, 23] rfl
                have hDc := hD.sub (ws' := (cwX cI a tW)) [0, 1, 2, 3, 4, 5, 6, 7, 8, 9, 10, 11, 12, 13, 14, 15, 16, 17, 18, 19, 20, 21, 22, 23] (by decide) rfl
                have hFc := va_free (wc := (cwX cI a tW)) hD hS hA [0, 1, 2, 3, 4, 5, 6, 7, 8, 9, 10, 11, 12, 13, 14, 15, 16, 17, 18, 19, 20, 21, 22, 23] rfl
                refine bd hF (fun r85 hG hF => ?_)
                refine va_calli (va_runV (As := [.int (-3)]) (rest := []) ⟨hx, hb, hml, hown, hts⟩ (c_X2_refuse l dC dI cI sf H.size N a tW (-3) r85 hG) (cwV 1 hts gX2_two_X2_refuse rfl rfl rfl (by decide +kernel) ⟨Nat.le_of_ble_eq_true rfl, Nat.le_of_ble_eq_true rfl⟩) ⟨fun a U g mk q => ⟨q.1, q.2.call⟩, va_recv hK hP (ci := 2) (q0 := 0) rfl rfl, fun U hU hW => ⟨rfl, PB.of hU hW hPc hK hDc hNN hSF hS hFc⟩⟩ rfl rfl hl.1 rfl (lv_room (Nat.le_of_ble_eq_true rfl)) dX2_two_85 ⟨Nat.le_of_ble_eq_true rfl, Nat.le_of_ble_eq_true rfl⟩) hS (fun q _ h => hFc q h) hFc (fun z_ u_ t H locs ht hvm hw hB hz1 hk1 hS => ?_)
                subst z_
                obtain ⟨hP1, hD1⟩ := hB
                rw [ht] at hP1
                have hJ := vb_join (ws' := (cwX cI a r85.2)) hP hD [0, 1, 2, 3, 4, 5, 6, 7, 8, 9, 10, 11, 12, 13, 14, 15, 16, 17, 18, 19, 20, 21, 22, 23] [] [0, 1, 2, 3, 4, 5, 6, 7, 8, 9, 10, 11, 12, 13, 14, 15, 16, 17, 18, 19, 20, 21, 22, 23] rfl rfl (by decide) (by decide) hk1 hFc hP1 hD1 rfl (by decide) rfl
                clear hP hD hPc hDc hFc hP1 hD1 hk1 hz1 ht hvm hG
                obtain ⟨hP, hD⟩ := hJ
                obtain rfl := Option.some.inj hF
                exact W.iret (v := r85.1) hx hb hr (fun t ht hW => ⟨⟨r85.1, (), rfl, rfl, QB.of ht hP hD⟩, hS.F ht⟩) hS.2.2 dX2_two_88
              refine lv_if_eq (tgt := 82) hx hb dX2_two_68 (by decide) (fun hc => ?_) (fun hc => ?_)
              · have hF := ift hc hF
                exact kJ82 tW _ _ _ hF hP hD hS (lv_sub hl [0] rfl)
              · have hF := iff_ hc hF
                refine lv_aload_n hx hb dX2_two_71 rfl (lv_at hl 0 rfl) ?_
                refine va_get (D := (dC, dI)) (ci := 2) (v := .ref (a 1)) (C := RX2) (T := TX2) (N := 9) hx hb hts inw_X2_two_X2 hown hK hP 0 rfl rfl 0 (by decide) (hts (.fieldLink RX2 10 "DeniedOfEachOther" "now" "LDeniedOfEachOther$Town;") (List.mem_of_getElem? (i := 1) rfl)) (fun _ h9 => h9) rfl dX2_two_72 ?_
                refine lv_iload_n hx hb dX2_two_75 rfl (lv_at hl 2 rfl) ?_
                have hPc := hP.sub (ws' := (cwT cI (a 1) (a 2) (a 3) (a 4) (a 5) (a 6) tW.1)) [1, 2, 3, 4, 5, 6] rfl
                have hDc := hD.sub (ws' := (cwT cI (a 1) (a 2) (a 3) (a 4) (a 5) (a 6) tW.1)) [1, 2, 3, 4, 5, 6] (by decide) rfl
                have hFc := va_free (wc := (cwT cI (a 1) (a 2) (a 3) (a 4) (a 5) (a 6) tW.1)) hD hS hA [1, 2, 3, 4, 5, 6] rfl
                refine bd hF (fun r76 hG hF => ?_)
                refine va_calli (va_runVN (As := [.int p2]) (rest := []) ⟨hx, hb, hml, hown, hts⟩ (c_X1_isLiving l dC dI cI sf H.size N (a 1) (a 2) (a 3) (a 4) (a 5) (a 6) tW.1 p2 r76 hG) ⟨va_cnB 1 hts gX2_two_X1_isLiving_n85 rfl rfl rfl (hNN.at 10 rfl) (hts (.initialized RX1) (List.mem_of_getElem? (i := 17) rfl)) (by decide +kernel) ⟨Nat.le_of_ble_eq_true rfl, Nat.le_of_ble_eq_true rfl⟩, hts (.instanceMethod yX1_isLiving) (List.mem_of_getElem? (i := 16) rfl), hts (.selects RX1 yX1_isLiving yX1_isLiving) (List.mem_of_getElem? (i := 18) rfl)⟩ ⟨fun a U g mk q => ⟨q.1, q.2.call⟩, va_recv hK hP (ci := 1) (q0 := 1) rfl rfl, fun U hU hW => ⟨rfl, PB.of hU hW hPc hK hDc hNN hSF hS hFc⟩⟩ rfl rfl hl.1 rfl (lv_room (Nat.le_of_ble_eq_true rfl)) dX2_two_76 ⟨Nat.le_of_ble_eq_true rfl, Nat.le_of_ble_eq_true rfl⟩) hS (fun q _ h => hFc q h) hFc (fun z_ u_ t H locs ht hvm hw hB hz1 hk1 hS => ?_)
                subst z_
                obtain ⟨hP1, hD1⟩ := hB
                rw [ht] at hP1
                have hJ := vb_join (ws' := (cwX cI a tW)) hP hD [1, 2, 3, 4, 5, 6] [0, 7, 8, 9, 10, 11, 12, 13, 14, 15, 16, 17, 18, 19, 20, 21, 22, 23] [0, 18, 19, 20, 21, 22, 23, 1, 2, 3, 4, 5, 6, 7, 8, 9, 10, 11, 12, 13, 14, 15, 16, 17] rfl rfl (by decide) (by decide) hk1 hFc hP1 hD1 rfl (by decide) rfl
                clear hP hD hPc hDc hFc hP1 hD1 hk1 hz1 ht hvm hG
                obtain ⟨hP, hD⟩ := hJ
                refine lv_if_ne (tgt := 89) hx hb dX2_two_79 (by decide) (fun hc => ?_) (fun hc => ?_)
                · have hF := ift hc hF
                  refine lv_iconst (v := nI 0) hx hb dX2_two_89 (by decide) ?_
                  refine vW_have (fun R av Q => ∀ (n92 : Nat) (tW : XS) (x1 : Int32) (x2 : Int32) (x3 : Int32) (x4 : Int32) (x5 : Int32) (H : Heap) (locs : List Loc) (ls : Array Slot), F_X2_two_92 N n92 tW x1 x2 x3 x4 x5 = some r → va_P (dC, dI) vwCl (cwX cI a tW) H → va_D A (cwX cI a tW) → va_S A s.heap H locs → lv_has ls 9 [(0, .ref (a 0)), (1, .int x1), (2, .int x2), (3, .int x3), (4, .int x4), (5, .int x5)] → W p l e R s m av below meth c H locs 0 0 Q (F0 m 92 ls [])) ?_ (fun kJ92 => ?_)
                  · intro n92
                    induction n92 with
                    | zero => intro tW x1 x2 x3 x4 x5 H locs ls hF; exact nn hF
                    | succ n92 ih92 =>
                      intro tW x1 x2 x3 x4 x5 H locs ls hF hP hD hS hl
                      rw [F_X2_two_92] at hF
                      refine lv_iload hx hb dX2_two_92 (lv_at hl 5 rfl) ?_
                      refine lv_iconst (v := nI 1) hx hb dX2_two_94 (by decide) ?_
                      refine lv_icmp_gt (tgt := 223) hx hb dX2_two_95 (by decide) (fun hc => ?_) (fun hc => ?_)
                      · have hF := ift hc hF
                        refine lv_bipush (v := (-9)) hx hb dX2_two_223 (by decide) ?_
                        obtain rfl := Option.some.inj hF
                        exact W.iret (v := (-9)) hx hb hr (fun t ht hW => ⟨⟨(-9), (), rfl, rfl, QB.of ht hP hD⟩, hS.F ht⟩) hS.2.2 dX2_two_225
                      · have hF := iff_ hc hF
                        refine lv_iconst (v := nI 0) hx hb dX2_two_98 (by decide) ?_
                        refine vW_have (fun R av Q => ∀ (n101 : Nat) (tW : XS) (x1 : Int32) (x2 : Int32) (x3 : Int32) (x4 : Int32) (x5 : Int32) (x6 : Int32) (H : Heap) (locs : List Loc) (ls : Array Slot), F_X2_two_101 N (fun ctW cx1 cx2 cx3 cx4 cx5 => F_X2_two_92 N n92 ctW cx1 cx2 cx3 cx4 cx5) n101 tW x1 x2 x3 x4 x5 x6 = some r → va_P (dC, dI) vwCl (cwX cI a tW) H → va_D A (cwX cI a tW) → va_S A s.heap H locs → lv_has ls 9 [(0, .ref (a 0)), (1, .int x1), (2, .int x2), (3, .int x3), (4, .int x4), (5, .int x5), (6, .int x6)] → W p l e R s m av below meth c H locs 0 0 Q (F0 m 101 ls [])) ?_ (fun kJ101 => ?_)
                        · intro n101
                          induction n101 with
                          | zero => intro tW x1 x2 x3 x4 x5 x6 H locs ls hF; exact nn hF
                          | succ n101 ih101 =>
                            intro tW x1 x2 x3 x4 x5 x6 H locs ls hF hP hD hS hl
                            rw [F_X2_two_101] at hF
                            refine lv_iload hx hb dX2_two_101 (lv_at hl 6 rfl) ?_
                            refine lv_iconst (v := nI 1) hx hb dX2_two_103 (by decide) ?_
                            refine vW_have (fun R av Q => ∀ (tW : XS) (x1 : Int32) (x2 : Int32) (x3 : Int32) (x4 : Int32) (x5 : Int32) (H : Heap) (locs : List Loc) (ls : Array Slot), F_X2_two_217 N (fun ctW cx1 cx2 cx3 cx4 cx5 => F_X2_two_92 N n92 ctW cx1 cx2 cx3 cx4 cx5) tW x1 x2 x3 x4 x5 = some r → va_P (dC, dI) vwCl (cwX cI a tW) H → va_D A (cwX cI a tW) → va_S A s.heap H locs → lv_has ls 9 [(0, .ref (a 0)), (1, .int x1), (2, .int x2), (3, .int x3), (4, .int x4), (5, .int x5)] → W p l e R s m av below meth c H locs 0 0 Q (F0 m 217 ls [])) ?_ (fun kJ217 => ?_)
                            · 
                              intro tW x1 x2 x3 x4 x5 H locs ls hF hP hD hS hl
                              rw [F_X2_two_217] at hF
                              refine lv_iinc (v := x5 + (nI 1)) (lv' := [(5, .int (x5 + (nI 1))), (0, .ref (a 0)), (1, .int x1), (2, .int x2), (3, .int x3), (4, .int x4)]) hx hb dX2_two_217 hl (k := 5) rfl (by rfl) (by decide) rfl (fun ls hl => ?_)
                              refine lv_goto (tgt := 92) hx hb dX2_two_220 (by decide) ?_
                              exact ih92 tW x1 x2 x3 x4 (x5 + (nI 1)) _ _ _ hF hP hD hS (lv_sub hl [1, 2, 3, 4, 5, 0] rfl)
                            refine lv_icmp_gt (tgt := 217) hx hb dX2_two_104 (by decide) (fun hc => ?_) (fun hc => ?_)
                            · have hF := ift hc hF
                              exact kJ217 tW x1 x2 x3 x4 x5 _ _ _ hF hP hD hS (lv_sub hl [0, 1, 2, 3, 4, 5] rfl)
                            · have hF := iff_ hc hF
                              refine lv_aload_n hx hb dX2_two_107 rfl (lv_at hl 0 rfl) ?_
                              refine lv_iload_n hx hb dX2_two_108 rfl (lv_at hl 1 rfl) ?_
                              refine lv_iload hx hb dX2_two_109 (lv_at hl 5 rfl) ?_
                              refine lv_iload_n hx hb dX2_two_111 rfl (lv_at hl 2 rfl) ?_
                              refine lv_iload hx hb dX2_two_112 (lv_at hl 6 rfl) ?_
                              refine lv_iload_n hx hb dX2_two_114 rfl (lv_at hl 3 rfl) ?_
                              refine lv_iload hx hb dX2_two_115 (lv_at hl 4 rfl) ?_
                              have hPc := hP.sub (ws' := (cwX cI a tW)) [0, 1, 2, 3, 4, 5, 6, 7, 8, 9, 10, 11, 12, 13, 14, 15, 16, 17, 18, 19, 20, 21, 22, 23] rfl
                              have hDc := hD.sub (ws' := (cwX cI a tW)) [0, 1, 2, 3, 4, 5, 6, 7, 8, 9, 10, 11, 12, 13, 14, 15, 16, 17, 18, 19, 20, 21, 22, 23] (by decide) rfl
                              have hFc := va_free (wc := (cwX cI a tW)) hD hS hA [0, 1, 2, 3, 4, 5, 6, 7, 8, 9, 10, 11, 12, 13, 14, 15, 16, 17, 18, 19, 20, 21, 22, 23] rfl
                              refine bd hF (fun r117 hG hF => ?_)
                              refine va_callv (va_runV (As := [.int x1, .int x5, .int x2, .int x6, .int x3, .int x4]) (rest := []) ⟨hx, hb, hml, hown, hts⟩ (c_X2_imagineTwo l dC dI cI sf H.size N a tW x1 x5 x2 x6 x3 x4 r117 hG) (cwV 6 hts gX2_two_X2_imagineTwo rfl rfl rfl (by decide +kernel) ⟨Nat.le_of_ble_eq_true rfl, Nat.le_of_ble_eq_true rfl⟩) ⟨fun a U g mk q => ⟨q.1, q.2.call⟩, va_recv hK hP (ci := 2) (q0 := 0) rfl rfl, fun U hU hW => ⟨rfl, PB.of hU hW hPc hK hDc hNN hSF hS hFc⟩⟩ rfl rfl hl.1 rfl (lv_room (Nat.le_of_ble_eq_true rfl)) dX2_two_117 ⟨Nat.le_of_ble_eq_true rfl, Nat.le_of_ble_eq_true rfl⟩) hS (fun q _ h => hFc q h) hFc (fun u_ t H locs ht hvm hw hB hz1 hk1 hS => ?_)
                              obtain ⟨hP1, hD1⟩ := hB
                              rw [ht] at hP1
                              have hJ := vb_join (ws' := (cwX cI a r117)) hP hD [0, 1, 2, 3, 4, 5, 6, 7, 8, 9, 10, 11, 12, 13, 14, 15, 16, 17, 18, 19, 20, 21, 22, 23] [] [0, 1, 2, 3, 4, 5, 6, 7, 8, 9, 10, 11, 12, 13, 14, 15, 16, 17, 18, 19, 20, 21, 22, 23] rfl rfl (by decide) (by decide) hk1 hFc hP1 hD1 rfl (by decide) rfl
                              clear hP hD hPc hDc hFc hP1 hD1 hk1 hz1 ht hvm hG
                              obtain ⟨hP, hD⟩ := hJ
                              refine lv_aload_n hx hb dX2_two_120 rfl (lv_at hl 0 rfl) ?_
                              refine va_get (D := (dC, dI)) (ci := 2) (v := .ref (a 7)) (C := RX2) (T := TX2) (N := 9) hx hb hts inw_X2_two_X2 hown hK hP 0 rfl rfl 1 (by decide) (hts (.fieldLink RX2 16 "DeniedOfEachOther" "mind" "LDeniedOfEachOther$Town;") (List.mem_of_getElem? (i := 2) rfl)) (fun _ h9 => h9) rfl dX2_two_121 ?_
                              refine lv_iload_n hx hb dX2_two_124 rfl (lv_at hl 1 rfl) ?_
                              have hPc := hP.sub (ws' := (cwT cI (a 7) (a 8) (a 9) (a 10) (a 11) (a 12) r117.2.1)) [7, 8, 9, 10, 11, 12] rfl
                              have hDc := hD.sub (ws' := (cwT cI (a 7) (a 8) (a 9) (a 10) (a 11) (a 12) r117.2.1)) [7, 8, 9, 10, 11, 12] (by decide) rfl
                              have hFc := va_free (wc := (cwT cI (a 7) (a 8) (a 9) (a 10) (a 11) (a 12) r117.2.1)) hD hS hA [7, 8, 9, 10, 11, 12] rfl
                              refine bd hF (fun r125 hG hF => ?_)
                              refine va_calli (va_runVN (As := [.int x1]) (rest := []) ⟨hx, hb, hml, hown, hts⟩ (c_X1_chapterOf l dC dI cI sf H.size N (a 7) (a 8) (a 9) (a 10) (a 11) (a 12) r117.2.1 x1 r125 hG) ⟨va_cnB 1 hts gX2_two_X1_chapterOf_n149 rfl rfl rfl (hNN.at 25 rfl) (hts (.initialized RX1) (List.mem_of_getElem? (i := 17) rfl)) (by decide +kernel) ⟨Nat.le_of_ble_eq_true rfl, Nat.le_of_ble_eq_true rfl⟩, hts (.instanceMethod yX1_chapterOf) (List.mem_of_getElem? (i := 102) rfl), hts (.selects RX1 yX1_chapterOf yX1_chapterOf) (List.mem_of_getElem? (i := 103) rfl)⟩ ⟨fun a U g mk q => ⟨q.1, q.2.call⟩, va_recv hK hP (ci := 1) (q0 := 7) rfl rfl, fun U hU hW => ⟨rfl, PB.of hU hW hPc hK hDc hNN hSF hS hFc⟩⟩ rfl rfl hl.1 rfl (lv_room (Nat.le_of_ble_eq_true rfl)) dX2_two_125 ⟨Nat.le_of_ble_eq_true rfl, Nat.le_of_ble_eq_true rfl⟩) hS (fun q _ h => hFc q h) hFc (fun z_ u_ t H locs ht hvm hw hB hz1 hk1 hS => ?_)
                              subst z_
                              obtain ⟨hP1, hD1⟩ := hB
                              rw [ht] at hP1
                              have hJ := vb_join (ws' := (cwX cI a r117)) hP hD [7, 8, 9, 10, 11, 12] [0, 1, 2, 3, 4, 5, 6, 13, 14, 15, 16, 17, 18, 19, 20, 21, 22, 23] [0, 1, 2, 3, 4, 5, 6, 18, 19, 20, 21, 22, 23, 7, 8, 9, 10, 11, 12, 13, 14, 15, 16, 17] rfl rfl (by decide) (by decide) hk1 hFc hP1 hD1 rfl (by decide) rfl
                              clear hP hD hPc hDc hFc hP1 hD1 hk1 hz1 ht hvm hG
                              obtain ⟨hP, hD⟩ := hJ
                              refine lv_istore (lv' := [(7, .int r125), (0, .ref (a 0)), (1, .int x1), (2, .int x2), (3, .int x3), (4, .int x4), (5, .int x5), (6, .int x6)]) hx hb dX2_two_128 hl (by decide) rfl (fun ls hl => ?_)
                              refine lv_aload_n hx hb dX2_two_130 rfl (lv_at hl 1 rfl) ?_
                              refine va_get (D := (dC, dI)) (ci := 2) (v := .ref (a 7)) (C := RX2) (T := TX2) (N := 9) hx hb hts inw_X2_two_X2 hown hK hP 0 rfl rfl 1 (by decide) (hts (.fieldLink RX2 16 "DeniedOfEachOther" "mind" "LDeniedOfEachOther$Town;") (List.mem_of_getElem? (i := 2) rfl)) (fun _ h9 => h9) rfl dX2_two_131 ?_
                              refine lv_iload_n hx hb dX2_two_134 rfl (lv_at hl 3 rfl) ?_
                              have hPc := hP.sub (ws' := (cwT cI (a 7) (a 8) (a 9) (a 10) (a 11) (a 12) r117.2.1)) [7, 8, 9, 10, 11, 12] rfl
                              have hDc := hD.sub (ws' := (cwT cI (a 7) (a 8) (a 9) (a 10) (a 11) (a 12) r117.2.1)) [7, 8, 9, 10, 11, 12] (by decide) rfl
                              have hFc := va_free (wc := (cwT cI (a 7) (a 8) (a 9) (a 10) (a 11) (a 12) r117.2.1)) hD hS hA [7, 8, 9, 10, 11, 12] rfl
                              refine bd hF (fun r135 hG hF => ?_)
                              refine va_calli (va_runVN (As := [.int x2]) (rest := []) ⟨hx, hb, hml, hown, hts⟩ (c_X1_chapterOf l dC dI cI sf H.size N (a 7) (a 8) (a 9) (a 10) (a 11) (a 12) r117.2.1 x2 r135 hG) ⟨va_cnB 1 hts gX2_two_X1_chapterOf_n149 rfl rfl rfl (hNN.at 25 rfl) (hts (.initialized RX1) (List.mem_of_getElem? (i := 17) rfl)) (by decide +kernel) ⟨Nat.le_of_ble_eq_true rfl, Nat.le_of_ble_eq_true rfl⟩, hts (.instanceMethod yX1_chapterOf) (List.mem_of_getElem? (i := 102) rfl), hts (.selects RX1 yX1_chapterOf yX1_chapterOf) (List.mem_of_getElem? (i := 103) rfl)⟩ ⟨fun a U g mk q => ⟨q.1, q.2.call⟩, va_recv hK hP (ci := 1) (q0 := 7) rfl rfl, fun U hU hW => ⟨rfl, PB.of hU hW hPc hK hDc hNN hSF hS hFc⟩⟩ rfl rfl hl.1 rfl (lv_room (Nat.le_of_ble_eq_true rfl)) dX2_two_135 ⟨Nat.le_of_ble_eq_true rfl, Nat.le_of_ble_eq_true rfl⟩) hS (fun q _ h => hFc q h) hFc (fun z_ u_ t H locs ht hvm hw hB hz1 hk1 hS => ?_)
                              subst z_
                              obtain ⟨hP1, hD1⟩ := hB
                              rw [ht] at hP1
                              have hJ := vb_join (ws' := (cwX cI a r117)) hP hD [7, 8, 9, 10, 11, 12] [0, 1, 2, 3, 4, 5, 6, 13, 14, 15, 16, 17, 18, 19, 20, 21, 22, 23] [0, 1, 2, 3, 4, 5, 6, 18, 19, 20, 21, 22, 23, 7, 8, 9, 10, 11, 12, 13, 14, 15, 16, 17] rfl rfl (by decide) (by decide) hk1 hFc hP1 hD1 rfl (by decide) rfl
                              clear hP hD hPc hDc hFc hP1 hD1 hk1 hz1 ht hvm hG
                              obtain ⟨hP, hD⟩ := hJ
                              refine lv_istore (lv' := [(8, .int r135), (7, .int r125), (0, .ref (a 0)), (1, .int x1), (2, .int x2), (3, .int x3), (4, .int x4), (5, .int x5), (6, .int x6)]) hx hb dX2_two_138 hl (by decide) rfl (fun ls hl => ?_)
                              refine lv_aload_n hx hb dX2_two_140 rfl (lv_at hl 2 rfl) ?_
                              refine lv_iload_n hx hb dX2_two_141 rfl (lv_at hl 3 rfl) ?_
                              refine lv_iconst (v := nI 1) hx hb dX2_two_142 (by decide) ?_
                              refine lv_iload hx hb dX2_two_143 (lv_at hl 7 rfl) ?_
                              refine lv_isub hx hb dX2_two_145 ?_
                              refine lv_iload_n hx hb dX2_two_146 rfl (lv_at hl 4 rfl) ?_
                              refine lv_iload hx hb dX2_two_147 (lv_at hl 8 rfl) ?_
                              refine lv_iload_n hx hb dX2_two_149 rfl (lv_at hl 5 rfl) ?_
                              refine lv_iload hx hb dX2_two_150 (lv_at hl 6 rfl) ?_
                              have hPc := hP.sub (ws' := (cwX cI a r117)) [0, 1, 2, 3, 4, 5, 6, 7, 8, 9, 10, 11, 12, 13, 14, 15, 16, 17, 18, 19, 20, 21, 22, 23] rfl
                              have hDc := hD.sub (ws' := (cwX cI a r117)) [0, 1, 2, 3, 4, 5, 6, 7, 8, 9, 10, 11, 12, 13, 14, 15, 16, 17, 18, 19, 20, 21, 22, 23] (by decide) rfl
                              have hFc := va_free (wc := (cwX cI a r117)) hD hS hA [0, 1, 2, 3, 4, 5, 6, 7, 8, 9, 10, 11, 12, 13, 14, 15, 16, 17, 18, 19, 20, 21, 22, 23] rfl
                              refine bd hF (fun r152 hG hF => ?_)
                              refine va_callv (va_runV (As := [.int x1, .int ((nI 1) - x5), .int x2, .int x6, .int x3, .int x4]) (rest := []) ⟨hx, hb, hml, hown, hts⟩ (c_X2_imagineTwo l dC dI cI sf H.size N a r117 x1 ((nI 1) - x5) x2 x6 x3 x4 r152 hG) (cwV 6 hts gX2_two_X2_imagineTwo rfl rfl rfl (by decide +kernel) ⟨Nat.le_of_ble_eq_true rfl, Nat.le_of_ble_eq_true rfl⟩) ⟨fun a U g mk q => ⟨q.1, q.2.call⟩, va_recv hK hP (ci := 2) (q0 := 0) rfl rfl, fun U hU hW => ⟨rfl, PB.of hU hW hPc hK hDc hNN hSF hS hFc⟩⟩ rfl rfl hl.1 rfl (lv_room (Nat.le_of_ble_eq_true rfl)) dX2_two_152 ⟨Nat.le_of_ble_eq_true rfl, Nat.le_of_ble_eq_true rfl⟩) hS (fun q _ h => hFc q h) hFc (fun u_ t H locs ht hvm hw hB hz1 hk1 hS => ?_)
                              obtain ⟨hP1, hD1⟩ := hB
                              rw [ht] at hP1
                              have hJ := vb_join (ws' := (cwX cI a r152)) hP hD [0, 1, 2, 3, 4, 5, 6, 7, 8, 9, 10, 11, 12, 13, 14, 15, 16, 17, 18, 19, 20, 21, 22, 23] [] [0, 1, 2, 3, 4, 5, 6, 7, 8, 9, 10, 11, 12, 13, 14, 15, 16, 17, 18, 19, 20, 21, 22, 23] rfl rfl (by decide) (by decide) hk1 hFc hP1 hD1 rfl (by decide) rfl
                              clear hP hD hPc hDc hFc hP1 hD1 hk1 hz1 ht hvm hG
                              obtain ⟨hP, hD⟩ := hJ
                              refine lv_aload_n hx hb dX2_two_155 rfl (lv_at hl 2 rfl) ?_
                              refine va_get (D := (dC, dI)) (ci := 2) (v := .ref (a 7)) (C := RX2) (T := TX2) (N := 9) hx hb hts inw_X2_two_X2 hown hK hP 0 rfl rfl 1 (by decide) (hts (.fieldLink RX2 16 "DeniedOfEachOther" "mind" "LDeniedOfEachOther$Town;") (List.mem_of_getElem? (i := 2) rfl)) (fun _ h9 => h9) rfl dX2_two_156 ?_
                              refine lv_iload_n hx hb dX2_two_159 rfl (lv_at hl 3 rfl) ?_
                              have hPc := hP.sub (ws' := (cwT cI (a 7) (a 8) (a 9) (a 10) (a 11) (a 12) r152.2.1)) [7, 8, 9, 10, 11, 12] rfl
                              have hDc := hD.sub (ws' := (cwT cI (a 7) (a 8) (a 9) (a 10) (a 11) (a 12) r152.2.1)) [7, 8, 9, 10, 11, 12] (by decide) rfl
                              have hFc := va_free (wc := (cwT cI (a 7) (a 8) (a 9) (a 10) (a 11) (a 12) r152.2.1)) hD hS hA [7, 8, 9, 10, 11, 12] rfl
                              refine bd hF (fun r160 hG hF => ?_)
                              refine va_calli (va_runVN (As := [.int x1]) (rest := []) ⟨hx, hb, hml, hown, hts⟩ (c_X1_chapterOf l dC dI cI sf H.size N (a 7) (a 8) (a 9) (a 10) (a 11) (a 12) r152.2.1 x1 r160 hG) ⟨va_cnB 1 hts gX2_two_X1_chapterOf_n149 rfl rfl rfl (hNN.at 25 rfl) (hts (.initialized RX1) (List.mem_of_getElem? (i := 17) rfl)) (by decide +kernel) ⟨Nat.le_of_ble_eq_true rfl, Nat.le_of_ble_eq_true rfl⟩, hts (.instanceMethod yX1_chapterOf) (List.mem_of_getElem? (i := 102) rfl), hts (.selects RX1 yX1_chapterOf yX1_chapterOf) (List.mem_of_getElem? (i := 103) rfl)⟩ ⟨fun a U g mk q => ⟨q.1, q.2.call⟩, va_recv hK hP (ci := 1) (q0 := 7) rfl rfl, fun U hU hW => ⟨rfl, PB.of hU hW hPc hK hDc hNN hSF hS hFc⟩⟩ rfl rfl hl.1 rfl (lv_room (Nat.le_of_ble_eq_true rfl)) dX2_two_160 ⟨Nat.le_of_ble_eq_true rfl, Nat.le_of_ble_eq_true rfl⟩) hS (fun q _ h => hFc q h) hFc (fun z_ u_ t H locs ht hvm hw hB hz1 hk1 hS => ?_)
                              subst z_
                              obtain ⟨hP1, hD1⟩ := hB
                              rw [ht] at hP1
                              have hJ := vb_join (ws' := (cwX cI a r152)) hP hD [7, 8, 9, 10, 11, 12] [0, 1, 2, 3, 4, 5, 6, 13, 14, 15, 16, 17, 18, 19, 20, 21, 22, 23] [0, 1, 2, 3, 4, 5, 6, 18, 19, 20, 21, 22, 23, 7, 8, 9, 10, 11, 12, 13, 14, 15, 16, 17] rfl rfl (by decide) (by decide) hk1 hFc hP1 hD1 rfl (by decide) rfl
                              clear hP hD hPc hDc hFc hP1 hD1 hk1 hz1 ht hvm hG
                              obtain ⟨hP, hD⟩ := hJ
                              refine lv_iload hx hb dX2_two_163 (lv_at hl 1 rfl) ?_
                              refine vW_have (fun R av Q => ∀ (tW : XS) (x1 : Int32) (x2 : Int32) (x3 : Int32) (x4 : Int32) (x5 : Int32) (x6 : Int32) (H : Heap) (locs : List Loc) (ls : Array Slot), F_X2_two_211 N (fun ctW cx1 cx2 cx3 cx4 cx5 => F_X2_two_92 N n92 ctW cx1 cx2 cx3 cx4 cx5) (fun ctW cx1 cx2 cx3 cx4 cx5 cx6 => F_X2_two_101 N (fun ctW cx1 cx2 cx3 cx4 cx5 => F_X2_two_92 N n92 ctW cx1 cx2 cx3 cx4 cx5) n101 ctW cx1 cx2 cx3 cx4 cx5 cx6) tW x1 x2 x3 x4 x5 x6 = some r → va_P (dC, dI) vwCl (cwX cI a tW) H → va_D A (cwX cI a tW) → va_S A s.heap H locs → lv_has ls 9 [(0, .ref (a 0)), (1, .int x1), (2, .int x2), (3, .int x3), (4, .int x4), (5, .int x5), (6, .int x6)] → W p l e R s m av below meth c H locs 0 0 Q (F0 m 211 ls [])) ?_ (fun kJ211 => ?_)
                              · 
                                intro tW x1 x2 x3 x4 x5 x6 H locs ls hF hP hD hS hl
                                rw [F_X2_two_211] at hF
                                refine lv_iinc (v := x6 + (nI 1)) (lv' := [(6, .int (x6 + (nI 1))), (0, .ref (a 0)), (1, .int x1), (2, .int x2), (3, .int x3), (4, .int x4), (5, .int x5)]) hx hb dX2_two_211 hl (k := 6) rfl (by rfl) (by decide) rfl (fun ls hl => ?_)
                                refine lv_goto (tgt := 101) hx hb dX2_two_214 (by decide) ?_
                                exact ih101 tW x1 x2 x3 x4 x5 (x6 + (nI 1)) _ _ _ hF hP hD hS (lv_sub hl [1, 2, 3, 4, 5, 6, 0] rfl)
                              refine lv_icmp_le (tgt := 171) hx hb dX2_two_165 (by decide) (fun hc => ?_) (fun hc => ?_)
                              · have hF := ift hc hF
                                refine lv_aload_n hx hb dX2_two_171 rfl (lv_at hl 2 rfl) ?_
                                refine lv_iload_n hx hb dX2_two_172 rfl (lv_at hl 3 rfl) ?_
                                refine lv_iload hx hb dX2_two_173 (lv_at hl 7 rfl) ?_
                                refine lv_iload_n hx hb dX2_two_175 rfl (lv_at hl 4 rfl) ?_
                                refine lv_iconst (v := nI 1) hx hb dX2_two_176 (by decide) ?_
                                refine lv_iload hx hb dX2_two_177 (lv_at hl 8 rfl) ?_
                                refine lv_isub hx hb dX2_two_179 ?_
                                refine lv_iload_n hx hb dX2_two_180 rfl (lv_at hl 5 rfl) ?_
                                refine lv_iload hx hb dX2_two_181 (lv_at hl 6 rfl) ?_
                                have hPc := hP.sub (ws' := (cwX cI a r152)) [0, 1, 2, 3, 4, 5, 6, 7, 8, 9, 10, 11, 12, 13, 14, 15, 16, 17, 18, 19, 20, 21, 22, 23] rfl
                                have hDc := hD.sub (ws' := (cwX cI a r152)) [0, 1, 2, 3, 4, 5, 6, 7, 8, 9, 10, 11, 12, 13, 14, 15, 16, 17, 18, 19, 20, 21, 22, 23] (by decide) rfl
                                have hFc := va_free (wc := (cwX cI a r152)) hD hS hA [0, 1, 2, 3, 4, 5, 6, 7, 8, 9, 10, 11, 12, 13, 14, 15, 16, 17, 18, 19, 20, 21, 22, 23] rfl
                                refine bd hF (fun r183 hG hF => ?_)
                                refine va_callv (va_runV (As := [.int x1, .int x5, .int x2, .int ((nI 1) - x6), .int x3, .int x4]) (rest := []) ⟨hx, hb, hml, hown, hts⟩ (c_X2_imagineTwo l dC dI cI sf H.size N a r152 x1 x5 x2 ((nI 1) - x6) x3 x4 r183 hG) (cwV 6 hts gX2_two_X2_imagineTwo rfl rfl rfl (by decide +kernel) ⟨Nat.le_of_ble_eq_true rfl, Nat.le_of_ble_eq_true rfl⟩) ⟨fun a U g mk q => ⟨q.1, q.2.call⟩, va_recv hK hP (ci := 2) (q0 := 0) rfl rfl, fun U hU hW => ⟨rfl, PB.of hU hW hPc hK hDc hNN hSF hS hFc⟩⟩ rfl rfl hl.1 rfl (lv_room (Nat.le_of_ble_eq_true rfl)) dX2_two_183 ⟨Nat.le_of_ble_eq_true rfl, Nat.le_of_ble_eq_true rfl⟩) hS (fun q _ h => hFc q h) hFc (fun u_ t H locs ht hvm hw hB hz1 hk1 hS => ?_)
                                obtain ⟨hP1, hD1⟩ := hB
                                rw [ht] at hP1
                                have hJ := vb_join (ws' := (cwX cI a r183)) hP hD [0, 1, 2, 3, 4, 5, 6, 7, 8, 9, 10, 11, 12, 13, 14, 15, 16, 17, 18, 19, 20, 21, 22, 23] [] [0, 1, 2, 3, 4, 5, 6, 7, 8, 9, 10, 11, 12, 13, 14, 15, 16, 17, 18, 19, 20, 21, 22, 23] rfl rfl (by decide) (by decide) hk1 hFc hP1 hD1 rfl (by decide) rfl
                                clear hP hD hPc hDc hFc hP1 hD1 hk1 hz1 ht hvm hG
                                obtain ⟨hP, hD⟩ := hJ
                                refine lv_aload_n hx hb dX2_two_186 rfl (lv_at hl 2 rfl) ?_
                                refine va_get (D := (dC, dI)) (ci := 2) (v := .ref (a 7)) (C := RX2) (T := TX2) (N := 9) hx hb hts inw_X2_two_X2 hown hK hP 0 rfl rfl 1 (by decide) (hts (.fieldLink RX2 16 "DeniedOfEachOther" "mind" "LDeniedOfEachOther$Town;") (List.mem_of_getElem? (i := 2) rfl)) (fun _ h9 => h9) rfl dX2_two_187 ?_
                                refine lv_iload_n hx hb dX2_two_190 rfl (lv_at hl 4 rfl) ?_
                                have hPc := hP.sub (ws' := (cwT cI (a 7) (a 8) (a 9) (a 10) (a 11) (a 12) r183.2.1)) [7, 8, 9, 10, 11, 12] rfl
                                have hDc := hD.sub (ws' := (cwT cI (a 7) (a 8) (a 9) (a 10) (a 11) (a 12) r183.2.1)) [7, 8, 9, 10, 11, 12] (by decide) rfl
                                have hFc := va_free (wc := (cwT cI (a 7) (a 8) (a 9) (a 10) (a 11) (a 12) r183.2.1)) hD hS hA [7, 8, 9, 10, 11, 12] rfl
                                refine bd hF (fun r191 hG hF => ?_)
                                refine va_calli (va_runVN (As := [.int x2]) (rest := []) ⟨hx, hb, hml, hown, hts⟩ (c_X1_chapterOf l dC dI cI sf H.size N (a 7) (a 8) (a 9) (a 10) (a 11) (a 12) r183.2.1 x2 r191 hG) ⟨va_cnB 1 hts gX2_two_X1_chapterOf_n149 rfl rfl rfl (hNN.at 25 rfl) (hts (.initialized RX1) (List.mem_of_getElem? (i := 17) rfl)) (by decide +kernel) ⟨Nat.le_of_ble_eq_true rfl, Nat.le_of_ble_eq_true rfl⟩, hts (.instanceMethod yX1_chapterOf) (List.mem_of_getElem? (i := 102) rfl), hts (.selects RX1 yX1_chapterOf yX1_chapterOf) (List.mem_of_getElem? (i := 103) rfl)⟩ ⟨fun a U g mk q => ⟨q.1, q.2.call⟩, va_recv hK hP (ci := 1) (q0 := 7) rfl rfl, fun U hU hW => ⟨rfl, PB.of hU hW hPc hK hDc hNN hSF hS hFc⟩⟩ rfl rfl hl.1 rfl (lv_room (Nat.le_of_ble_eq_true rfl)) dX2_two_191 ⟨Nat.le_of_ble_eq_true rfl, Nat.le_of_ble_eq_true rfl⟩) hS (fun q _ h => hFc q h) hFc (fun z_ u_ t H locs ht hvm hw hB hz1 hk1 hS => ?_)
                                subst z_
                                obtain ⟨hP1, hD1⟩ := hB
                                rw [ht] at hP1
                                have hJ := vb_join (ws' := (cwX cI a r183)) hP hD [7, 8, 9, 10, 11, 12] [0, 1, 2, 3, 4, 5, 6, 13, 14, 15, 16, 17, 18, 19, 20, 21, 22, 23] [0, 1, 2, 3, 4, 5, 6, 18, 19, 20, 21, 22, 23, 7, 8, 9, 10, 11, 12, 13, 14, 15, 16, 17] rfl rfl (by decide) (by decide) hk1 hFc hP1 hD1 rfl (by decide) rfl
                                clear hP hD hPc hDc hFc hP1 hD1 hk1 hz1 ht hvm hG
                                obtain ⟨hP, hD⟩ := hJ
                                refine lv_iload hx hb dX2_two_194 (lv_at hl 0 rfl) ?_
                                refine vW_have (fun R av Q => ∀ (tW : XS) (x5 : Int32) (x6 : Int32) (H : Heap) (locs : List Loc) (ls : Array Slot), F_X2_two_202 N tW x5 x6 = some r → va_P (dC, dI) vwCl (cwX cI a tW) H → va_D A (cwX cI a tW) → va_S A s.heap H locs → lv_has ls 9 [(5, .int x5), (6, .int x6)] → W p l e R s m av below meth c H locs 0 0 Q (F0 m 202 ls [])) ?_ (fun kJ202 => ?_)
                                · 
                                  intro tW x5 x6 H locs ls hF hP hD hS hl
                                  rw [F_X2_two_202] at hF
                                  refine lv_bipush (v := nI 10) hx hb dX2_two_202 (by decide) ?_
                                  refine lv_iload hx hb dX2_two_204 (lv_at hl 0 rfl) ?_
                                  refine lv_imul hx hb dX2_two_206 ?_
                                  refine lv_iload hx hb dX2_two_207 (lv_at hl 1 rfl) ?_
                                  refine lv_iadd hx hb dX2_two_209 ?_
                                  obtain rfl := Option.some.inj hF
                                  exact W.iret (v := (((nI 10) * x5) + x6)) hx hb hr (fun t ht hW => ⟨⟨(((nI 10) * x5) + x6), (), rfl, rfl, QB.of ht hP hD⟩, hS.F ht⟩) hS.2.2 dX2_two_210
                                refine lv_icmp_le (tgt := 202) hx hb dX2_two_196 (by decide) (fun hc => ?_) (fun hc => ?_)
                                · have hF := ift hc hF
                                  exact kJ202 r183 x5 x6 _ _ _ hF hP hD hS (lv_sub hl [7, 8] rfl)
                                · have hF := iff_ hc hF
                                  refine lv_goto (tgt := 211) hx hb dX2_two_199 (by decide) ?_
                                  exact kJ211 r183 x1 x2 x3 x4 x5 x6 _ _ _ hF hP hD hS (lv_sub hl [2, 3, 4, 5, 6, 7, 8] rfl)
                              · have hF := iff_ hc hF
                                refine lv_goto (tgt := 211) hx hb dX2_two_168 (by decide) ?_
                                exact kJ211 r152 x1 x2 x3 x4 x5 x6 _ _ _ hF hP hD hS (lv_sub hl [2, 3, 4, 5, 6, 7, 8] rfl)
                        refine lv_istore (lv' := [(6, .int (nI 0)), (0, .ref (a 0)), (1, .int x1), (2, .int x2), (3, .int x3), (4, .int x4), (5, .int x5)]) hx hb dX2_two_99 hl (by decide) rfl (fun ls hl => ?_)
                        exact kJ101 N tW x1 x2 x3 x4 x5 (nI 0) _ _ _ hF hP hD hS (lv_sub hl [1, 2, 3, 4, 5, 6, 0] rfl)
                  refine lv_istore (lv' := [(5, .int (nI 0)), (0, .ref (a 0)), (1, .int p1), (2, .int p2), (3, .int p3), (4, .int p4)]) hx hb dX2_two_90 hl (by decide) rfl (fun ls hl => ?_)
                  exact kJ92 N tW p1 p2 p3 p4 (nI 0) _ _ _ hF hP hD hS (lv_sub hl [1, 2, 3, 4, 5, 0] rfl)
                · have hF := iff_ (fun h => h hc) hF
                  exact kJ82 tW _ _ _ hF hP hD hS (lv_sub hl [0] rfl)
            · have hF := iff_ hc hF
              refine lv_aload_n hx hb dX2_two_53 rfl (lv_at hl 0 rfl) ?_
              refine lv_bipush (v := (-6)) hx hb dX2_two_54 (by decide) ?_
              have hPc := hP.sub (ws' := (cwX cI a tW)) [0, 1, 2, 3, 4, 5, 6, 7, 8, 9, 10, 11, 12, 13, 14, 15, 16, 17, 18, 19, 20, 21, 22, 23] rfl
              have hDc := hD.sub (ws' := (cwX cI a tW)) [0, 1, 2, 3, 4, 5, 6, 7, 8, 9, 10, 11, 12, 13, 14, 15, 16, 17, 18, 19, 20, 21, 22, 23] (by decide) rfl
              have hFc := va_free (wc := (cwX cI a tW)) hD hS hA [0, 1, 2, 3, 4, 5, 6, 7, 8, 9, 10, 11, 12, 13, 14, 15, 16, 17, 18, 19, 20, 21, 22, 23] rfl
              refine bd hF (fun r56 hG hF => ?_)
              refine va_calli (va_runV (As := [.int (-6)]) (rest := []) ⟨hx, hb, hml, hown, hts⟩ (c_X2_refuse l dC dI cI sf H.size N a tW (-6) r56 hG) (cwV 1 hts gX2_two_X2_refuse rfl rfl rfl (by decide +kernel) ⟨Nat.le_of_ble_eq_true rfl, Nat.le_of_ble_eq_true rfl⟩) ⟨fun a U g mk q => ⟨q.1, q.2.call⟩, va_recv hK hP (ci := 2) (q0 := 0) rfl rfl, fun U hU hW => ⟨rfl, PB.of hU hW hPc hK hDc hNN hSF hS hFc⟩⟩ rfl rfl hl.1 rfl (lv_room (Nat.le_of_ble_eq_true rfl)) dX2_two_56 ⟨Nat.le_of_ble_eq_true rfl, Nat.le_of_ble_eq_true rfl⟩) hS (fun q _ h => hFc q h) hFc (fun z_ u_ t H locs ht hvm hw hB hz1 hk1 hS => ?_)
              subst z_
              obtain ⟨hP1, hD1⟩ := hB
              rw [ht] at hP1
              have hJ := vb_join (ws' := (cwX cI a r56.2)) hP hD [0, 1, 2, 3, 4, 5, 6, 7, 8, 9, 10, 11, 12, 13, 14, 15, 16, 17, 18, 19, 20, 21, 22, 23] [] [0, 1, 2, 3, 4, 5, 6, 7, 8, 9, 10, 11, 12, 13, 14, 15, 16, 17, 18, 19, 20, 21, 22, 23] rfl rfl (by decide) (by decide) hk1 hFc hP1 hD1 rfl (by decide) rfl
              clear hP hD hPc hDc hFc hP1 hD1 hk1 hz1 ht hvm hG
              obtain ⟨hP, hD⟩ := hJ
              obtain rfl := Option.some.inj hF
              exact W.iret (v := r56.1) hx hb hr (fun t ht hW => ⟨⟨r56.1, (), rfl, rfl, QB.of ht hP hD⟩, hS.F ht⟩) hS.2.2 dX2_two_59
          · have hF := iff_ hc hF
            refine lv_aload_n hx hb dX2_two_39 rfl (lv_at hl 0 rfl) ?_
            refine lv_bipush (v := (-4)) hx hb dX2_two_40 (by decide) ?_
            have hPc := hP.sub (ws' := (cwX cI a tW)) [0, 1, 2, 3, 4, 5, 6, 7, 8, 9, 10, 11, 12, 13, 14, 15, 16, 17, 18, 19, 20, 21, 22, 23] rfl
            have hDc := hD.sub (ws' := (cwX cI a tW)) [0, 1, 2, 3, 4, 5, 6, 7, 8, 9, 10, 11, 12, 13, 14, 15, 16, 17, 18, 19, 20, 21, 22, 23] (by decide) rfl
            have hFc := va_free (wc := (cwX cI a tW)) hD hS hA [0, 1, 2, 3, 4, 5, 6, 7, 8, 9, 10, 11, 12, 13, 14, 15, 16, 17, 18, 19, 20, 21, 22, 23] rfl
            refine bd hF (fun r42 hG hF => ?_)
            refine va_calli (va_runV (As := [.int (-4)]) (rest := []) ⟨hx, hb, hml, hown, hts⟩ (c_X2_refuse l dC dI cI sf H.size N a tW (-4) r42 hG) (cwV 1 hts gX2_two_X2_refuse rfl rfl rfl (by decide +kernel) ⟨Nat.le_of_ble_eq_true rfl, Nat.le_of_ble_eq_true rfl⟩) ⟨fun a U g mk q => ⟨q.1, q.2.call⟩, va_recv hK hP (ci := 2) (q0 := 0) rfl rfl, fun U hU hW => ⟨rfl, PB.of hU hW hPc hK hDc hNN hSF hS hFc⟩⟩ rfl rfl hl.1 rfl (lv_room (Nat.le_of_ble_eq_true rfl)) dX2_two_42 ⟨Nat.le_of_ble_eq_true rfl, Nat.le_of_ble_eq_true rfl⟩) hS (fun q _ h => hFc q h) hFc (fun z_ u_ t H locs ht hvm hw hB hz1 hk1 hS => ?_)
            subst z_
            obtain ⟨hP1, hD1⟩ := hB
            rw [ht] at hP1
            have hJ := vb_join (ws' := (cwX cI a r42.2)) hP hD [0, 1, 2, 3, 4, 5, 6, 7, 8, 9, 10, 11, 12, 13, 14, 15, 16, 17, 18, 19, 20, 21, 22, 23] [] [0, 1, 2, 3, 4, 5, 6, 7, 8, 9, 10, 11, 12, 13, 14, 15, 16, 17, 18, 19, 20, 21, 22, 23] rfl rfl (by decide) (by decide) hk1 hFc hP1 hD1 rfl (by decide) rfl
            clear hP hD hPc hDc hFc hP1 hD1 hk1 hz1 ht hvm hG
            obtain ⟨hP, hD⟩ := hJ
            obtain rfl := Option.some.inj hF
            exact W.iret (v := r42.1) hx hb hr (fun t ht hW => ⟨⟨r42.1, (), rfl, rfl, QB.of ht hP hD⟩, hS.F ht⟩) hS.2.2 dX2_two_45
        · have hF := iff_ hc hF
          exact kJ28 tW _ _ _ hF hP hD hS (lv_sub hl [0] rfl)
theorem inw_X2_weightIfWritten_X2 : ∀ w ∈ u_ws RX2 TX2 9, w ∈ wsX2_weightIfWritten := fun _ h => List.mem_cons_of_mem _ (List.mem_append_left _ (List.mem_append_right _ h))
theorem inw_X2_weightIfWritten_X1 : ∀ w ∈ u_ws RX1 TX1 8, w ∈ wsX2_weightIfWritten := fun _ h => List.mem_cons_of_mem _ (List.mem_append_right _ h)
set_option maxHeartbeats 4000000 in
set_option maxRecDepth 100000 in
theorem c_X2_weightIfWritten (l : Launch) (dC : Nat → ClassId) (dI : Nat → Nat → Nat) (cI : ClassId) (sf : SFP) (sz : Nat) (N : Nat) (a : Nat → Nat) (tW : XS) (p1 : Int32) (p2 : Int32) (p3 : Int32) (p4 : Int32) (r : (Int64 × XS)) (hF : F_X2_weightIfWritten N tW p1 p2 p3 p4 = some r) : Met l yX2_weightIfWritten wsX2_weightIfWritten ({ frames := 5, cells := 0, slots := 0, locals := 122 }) (va_Pc [.ref (a 0), .int p1, .int p2, .int p3, .int p4] (PB (dC, dI) cI (cwX cI a tW) sz sf)) (va_Ql (fun (z : Int64) (_ : Unit) => z = r.1) (fun _ t => QB (dC, dI) (cwX cI a r.2) (va_A (cwX cI a tW) sz) t) (va_A (cwX cI a tW) sz)) 0 0 (va_A (cwX cI a tW) sz) := by
  refine Met.ofW (cc := cX2_weightIfWritten) (maxL := 8) (ret := (some .long)) (by decide) rfl ?_
  intro p e s m args below meth c s₁ B hml hv
  obtain ⟨rfl, hsz, hP, hK, hD0, hNN, hSF⟩ := hv
  have hx := B.exec
  have hb := B.bytes
  have hr := B.returns
  have hts := atoms_spec (ws := wsX2_weightIfWritten) B.pre
  have hown : s.vm.findClass RX2 = some m.cls := findClass_of_methodNamed B.named
  have hlocks := B.notSynchronized
  subst hsz
  have hD := hD0.self (sz := s.heap.size)
  generalize hAe : va_A (cwX cI a tW) s.heap.size = A at hD hSF ⊢
  have hA : ∀ q : Nat, s.heap.size ≤ q → A q := fun q h => by rw [← hAe]; exact Or.inr h
  clear hAe hD0
  have hS : va_S A s.heap s.heap [] := va_S.rf
  have hl := lv_entry ([.ref (a 0), .int p1, .int p2, .int p3, .int p4]) (n := 8) (Nat.le_of_ble_eq_true rfl)
  rw [lg_entry_eq]
  generalize (lg_sl ([.ref (a 0), .int p1, .int p2, .int p3, .int p4]) ++ List.replicate (8 - (lg_sl ([.ref (a 0), .int p1, .int p2, .int p3, .int p4])).length) Slot.unset).toArray = ls at hl ⊢
  have hl : lv_has ls 8 [(0, .ref (a 0)), (1, .int p1), (2, .int p2), (3, .int p3), (4, .int p4)] := hl
  rw [F_X2_weightIfWritten] at hF
  refine lv_lconst (v := lN 1) hx hb dX2_weightIfWritten_0 rfl ?_
  refine lv_lstore (lv' := [(5, .long (lN 1)), (0, .ref (a 0)), (1, .int p1), (2, .int p2), (3, .int p3), (4, .int p4)]) hx hb dX2_weightIfWritten_1 hl (by decide) rfl (fun ls hl => ?_)
  refine lv_aload_n hx hb dX2_weightIfWritten_3 rfl (lv_at hl 1 rfl) ?_
  refine va_get (D := (dC, dI)) (ci := 2) (v := .ref (a 7)) (C := RX2) (T := TX2) (N := 9) hx hb hts inw_X2_weightIfWritten_X2 hown hK hP 0 rfl rfl 1 (by decide) (hts (.fieldLink RX2 16 "DeniedOfEachOther" "mind" "LDeniedOfEachOther$Town;") (List.mem_of_getElem? (i := 1) rfl)) (fun _ h9 => h9) rfl dX2_weightIfWritten_4 ?_
  refine lv_aload_n hx hb dX2_weightIfWritten_7 rfl (lv_at hl 1 rfl) ?_
  refine va_get (D := (dC, dI)) (ci := 2) (v := .ref (a 1)) (C := RX2) (T := TX2) (N := 9) hx hb hts inw_X2_weightIfWritten_X2 hown hK hP 0 rfl rfl 0 (by decide) (hts (.fieldLink RX2 10 "DeniedOfEachOther" "now" "LDeniedOfEachOther$Town;") (List.mem_of_getElem? (i := 2) rfl)) (fun _ h9 => h9) rfl dX2_weightIfWritten_8 ?_
  have hPc := hP.sub (ws' := (cwT cI (a 7) (a 8) (a 9) (a 10) (a 11) (a 12) tW.2.1 ++ cwT cI (a 1) (a 2) (a 3) (a 4) (a 5) (a 6) tW.1)) [7, 8, 9, 10, 11, 12, 1, 2, 3, 4, 5, 6] rfl
  have hDc := hD.sub (ws' := (cwT cI (a 7) (a 8) (a 9) (a 10) (a 11) (a 12) tW.2.1 ++ cwT cI (a 1) (a 2) (a 3) (a 4) (a 5) (a 6) tW.1)) [7, 8, 9, 10, 11, 12, 1, 2, 3, 4, 5, 6] (by decide) rfl
  have hFc := va_free (wc := (cwT cI (a 7) (a 8) (a 9) (a 10) (a 11) (a 12) tW.2.1 ++ cwT cI (a 1) (a 2) (a 3) (a 4) (a 5) (a 6) tW.1)) hD hS hA [7, 8, 9, 10, 11, 12, 1, 2, 3, 4, 5, 6] rfl
  refine bd hF (fun r11 hG hF => ?_)
  refine va_callv (va_runVN (As := [.ref (a 1)]) (rest := []) ⟨hx, hb, hml, hown, hts⟩ (c_X1_become l dC dI cI sf s.heap.size N (a 7) (a 8) (a 9) (a 10) (a 11) (a 12) (a 1) (a 2) (a 3) (a 4) (a 5) (a 6) tW.2.1 tW.1 r11 hG) ⟨va_cnB 1 hts gX2_weightIfWritten_X1_become_n61 rfl rfl rfl (hNN.at 2 rfl) (hts (.initialized RX1) (List.mem_of_getElem? (i := 4) rfl)) (by decide +kernel) ⟨Nat.le_of_ble_eq_true rfl, Nat.le_of_ble_eq_true rfl⟩, hts (.instanceMethod yX1_become) (List.mem_of_getElem? (i := 3) rfl), hts (.selects RX1 yX1_become yX1_become) (List.mem_of_getElem? (i := 5) rfl)⟩ ⟨fun a U g mk q => ⟨q.1, q.2.call⟩, va_recv hK hP (ci := 1) (q0 := 7) rfl rfl, fun U hU hW => ⟨rfl, PB.of hU hW hPc hK hDc hNN hSF hS hFc⟩⟩ rfl rfl hl.1 rfl (lv_room (Nat.le_of_ble_eq_true rfl)) dX2_weightIfWritten_11 ⟨Nat.le_of_ble_eq_true rfl, Nat.le_of_ble_eq_true rfl⟩) hS (fun q _ h => hFc q h) hFc (fun u_ t H locs ht hvm hw hB hz1 hk1 hS => ?_)
  obtain ⟨hP1, hD1⟩ := hB
  rw [ht] at hP1
  have hJ := vb_join (ws' := (cwX cI a (tW.1, r11, tW.2.2.1, tW.2.2.2.1, tW.2.2.2.2.1, tW.2.2.2.2.2.1, tW.2.2.2.2.2.2.1, tW.2.2.2.2.2.2.2.1, tW.2.2.2.2.2.2.2.2))) hP hD [7, 8, 9, 10, 11, 12, 1, 2, 3, 4, 5, 6] [0, 13, 14, 15, 16, 17, 18, 19, 20, 21, 22, 23] [0, 18, 19, 20, 21, 22, 23, 12, 13, 14, 15, 16, 17, 1, 2, 3, 4, 5, 6, 7, 8, 9, 10, 11] rfl rfl (by decide) (by decide) hk1 hFc hP1 hD1 rfl (by decide) rfl
  clear hP hD hPc hDc hFc hP1 hD1 hk1 hz1 ht hvm hG
  obtain ⟨hP, hD⟩ := hJ
  refine lv_iconst (v := nI 0) hx hb dX2_weightIfWritten_14 (by decide) ?_
  refine vW_have (fun R av Q => ∀ (n17 : Nat) (tW : XS) (x1 : Int32) (x2 : Int32) (x3 : Int32) (x4 : Int32) (x5 : Int64) (x7 : Int32) (H : Heap) (locs : List Loc) (ls : Array Slot), F_X2_weightIfWritten_17 N n17 tW x1 x2 x3 x4 x5 x7 = some r → va_P (dC, dI) vwCl (cwX cI a tW) H → va_D A (cwX cI a tW) → va_S A s.heap H locs → lv_has ls 8 [(0, .ref (a 0)), (1, .int x1), (2, .int x2), (3, .int x3), (4, .int x4), (5, .long x5), (7, .int x7)] → W p l e R s m av below meth c H locs 0 0 Q (F0 m 17 ls [])) ?_ (fun kJ17 => ?_)
  · intro n17
    induction n17 with
    | zero => intro tW x1 x2 x3 x4 x5 x7 H locs ls hF; exact nn hF
    | succ n17 ih17 =>
      intro tW x1 x2 x3 x4 x5 x7 H locs ls hF hP hD hS hl
      rw [F_X2_weightIfWritten_17] at hF
      refine lv_iload hx hb dX2_weightIfWritten_17 (lv_at hl 6 rfl) ?_
      refine lv_iload_n hx hb dX2_weightIfWritten_19 rfl (lv_at hl 2 rfl) ?_
      refine vW_have (fun R av Q => ∀ (tW : XS) (x1 : Int32) (x5 : Int64) (H : Heap) (locs : List Loc) (ls : Array Slot), F_X2_weightIfWritten_69 N tW x1 x5 = some r → va_P (dC, dI) vwCl (cwX cI a tW) H → va_D A (cwX cI a tW) → va_S A s.heap H locs → lv_has ls 8 [(0, .ref (a 0)), (1, .int x1), (5, .long x5)] → W p l e R s m av below meth c H locs 0 0 Q (F0 m 69 ls [])) ?_ (fun kJ69 => ?_)
      · 
        intro tW x1 x5 H locs ls hF hP hD hS hl
        rw [F_X2_weightIfWritten_69] at hF
        refine lv_aload_n hx hb dX2_weightIfWritten_69 rfl (lv_at hl 0 rfl) ?_
        refine va_get (D := (dC, dI)) (ci := 2) (v := .ref (a 7)) (C := RX2) (T := TX2) (N := 9) hx hb hts inw_X2_weightIfWritten_X2 hown hK hP 0 rfl rfl 1 (by decide) (hts (.fieldLink RX2 16 "DeniedOfEachOther" "mind" "LDeniedOfEachOther$Town;") (List.mem_of_getElem? (i := 1) rfl)) (fun _ h9 => h9) rfl dX2_weightIfWritten_70 ?_
        refine lv_iload_n hx hb dX2_weightIfWritten_73 rfl (lv_at hl 1 rfl) ?_
        have hPc := hP.sub (ws' := (cwT cI (a 7) (a 8) (a 9) (a 10) (a 11) (a 12) tW.2.1)) [7, 8, 9, 10, 11, 12] rfl
        have hDc := hD.sub (ws' := (cwT cI (a 7) (a 8) (a 9) (a 10) (a 11) (a 12) tW.2.1)) [7, 8, 9, 10, 11, 12] (by decide) rfl
        have hFc := va_free (wc := (cwT cI (a 7) (a 8) (a 9) (a 10) (a 11) (a 12) tW.2.1)) hD hS hA [7, 8, 9, 10, 11, 12] rfl
        refine bd hF (fun r74 hG hF => ?_)
        refine va_calli (va_runVN (As := [.int x1]) (rest := []) ⟨hx, hb, hml, hown, hts⟩ (c_X1_isWritten l dC dI cI sf H.size N (a 7) (a 8) (a 9) (a 10) (a 11) (a 12) tW.2.1 x1 r74 hG) ⟨va_cnB 1 hts gX2_weightIfWritten_X1_isWritten_n163 rfl rfl rfl (hNN.at 28 rfl) (hts (.initialized RX1) (List.mem_of_getElem? (i := 4) rfl)) (by decide +kernel) ⟨Nat.le_of_ble_eq_true rfl, Nat.le_of_ble_eq_true rfl⟩, hts (.instanceMethod yX1_isWritten) (List.mem_of_getElem? (i := 85) rfl), hts (.selects RX1 yX1_isWritten yX1_isWritten) (List.mem_of_getElem? (i := 86) rfl)⟩ ⟨fun a U g mk q => ⟨q.1, q.2.call⟩, va_recv hK hP (ci := 1) (q0 := 7) rfl rfl, fun U hU hW => ⟨rfl, PB.of hU hW hPc hK hDc hNN hSF hS hFc⟩⟩ rfl rfl hl.1 rfl (lv_room (Nat.le_of_ble_eq_true rfl)) dX2_weightIfWritten_74 ⟨Nat.le_of_ble_eq_true rfl, Nat.le_of_ble_eq_true rfl⟩) hS (fun q _ h => hFc q h) hFc (fun z_ u_ t H locs ht hvm hw hB hz1 hk1 hS => ?_)
        subst z_
        obtain ⟨hP1, hD1⟩ := hB
        rw [ht] at hP1
        have hJ := vb_join (ws' := (cwX cI a tW)) hP hD [7, 8, 9, 10, 11, 12] [0, 1, 2, 3, 4, 5, 6, 13, 14, 15, 16, 17, 18, 19, 20, 21, 22, 23] [0, 1, 2, 3, 4, 5, 6, 18, 19, 20, 21, 22, 23, 7, 8, 9, 10, 11, 12, 13, 14, 15, 16, 17] rfl rfl (by decide) (by decide) hk1 hFc hP1 hD1 rfl (by decide) rfl
        clear hP hD hPc hDc hFc hP1 hD1 hk1 hz1 ht hvm hG
        obtain ⟨hP, hD⟩ := hJ
        refine lv_if_eq (tgt := 85) hx hb dX2_weightIfWritten_77 (by decide) (fun hc => ?_) (fun hc => ?_)
        · have hF := ift hc hF
          refine lv_lconst (v := lN 0) hx hb dX2_weightIfWritten_85 rfl ?_
          obtain rfl := Option.some.inj hF
          exact W.lret (v := (lN 0)) hx hb hr (fun t ht hW => ⟨⟨(lN 0), (), rfl, rfl, QB.of ht hP hD⟩, hS.F ht⟩) hS.2.2 dX2_weightIfWritten_86
        · have hF := iff_ hc hF
          refine lv_lload hx hb dX2_weightIfWritten_80 (lv_at hl 2 rfl) ?_
          refine lv_goto (tgt := 86) hx hb dX2_weightIfWritten_82 (by decide) ?_
          obtain rfl := Option.some.inj hF
          exact W.lret (v := x5) hx hb hr (fun t ht hW => ⟨⟨x5, (), rfl, rfl, QB.of ht hP hD⟩, hS.F ht⟩) hS.2.2 dX2_weightIfWritten_86
      refine lv_icmp_ge (tgt := 69) hx hb dX2_weightIfWritten_20 (by decide) (fun hc => ?_) (fun hc => ?_)
      · have hF := ift hc hF
        exact kJ69 tW x1 x5 _ _ _ hF hP hD hS (lv_sub hl [0, 1, 5] rfl)
      · have hF := iff_ hc hF
        refine lv_iload hx hb dX2_weightIfWritten_23 (lv_at hl 4 rfl) ?_
        refine lv_iload hx hb dX2_weightIfWritten_25 (lv_at hl 6 rfl) ?_
        refine lv_ishr hx hb dX2_weightIfWritten_27 ?_
        refine lv_iconst (v := nI 1) hx hb dX2_weightIfWritten_28 (by decide) ?_
        refine lv_iand hx hb dX2_weightIfWritten_29 ?_
        refine lv_iconst (v := nI 1) hx hb dX2_weightIfWritten_30 (by decide) ?_
        refine vW_have (fun R av Q => ∀ (tW : XS) (x1 : Int32) (x2 : Int32) (x3 : Int32) (x4 : Int32) (x5 : Int64) (x7 : Int32) (H : Heap) (locs : List Loc) (ls : Array Slot), F_X2_weightIfWritten_54 N (fun ctW cx1 cx2 cx3 cx4 cx5 cx7 => F_X2_weightIfWritten_17 N n17 ctW cx1 cx2 cx3 cx4 cx5 cx7) tW x1 x2 x3 x4 x5 x7 = some r → va_P (dC, dI) vwCl (cwX cI a tW) H → va_D A (cwX cI a tW) → va_S A s.heap H locs → lv_has ls 8 [(0, .ref (a 0)), (1, .int x1), (2, .int x2), (3, .int x3), (4, .int x4), (5, .long x5), (7, .int x7)] → W p l e R s m av below meth c H locs 0 0 Q (F0 m 54 ls [])) ?_ (fun kJ54 => ?_)
        · 
          intro tW x1 x2 x3 x4 x5 x7 H locs ls hF hP hD hS hl
          rw [F_X2_weightIfWritten_54] at hF
          refine lv_aload_n hx hb dX2_weightIfWritten_54 rfl (lv_at hl 0 rfl) ?_
          refine va_get (D := (dC, dI)) (ci := 2) (v := .ref (a 7)) (C := RX2) (T := TX2) (N := 9) hx hb hts inw_X2_weightIfWritten_X2 hown hK hP 0 rfl rfl 1 (by decide) (hts (.fieldLink RX2 16 "DeniedOfEachOther" "mind" "LDeniedOfEachOther$Town;") (List.mem_of_getElem? (i := 1) rfl)) (fun _ h9 => h9) rfl dX2_weightIfWritten_55 ?_
          refine lv_iload_n hx hb dX2_weightIfWritten_58 rfl (lv_at hl 1 rfl) ?_
          refine lv_iconst (v := nI 1) hx hb dX2_weightIfWritten_59 (by decide) ?_
          have hPc := hP.sub (ws' := (cwT cI (a 7) (a 8) (a 9) (a 10) (a 11) (a 12) tW.2.1)) [7, 8, 9, 10, 11, 12] rfl
          have hDc := hD.sub (ws' := (cwT cI (a 7) (a 8) (a 9) (a 10) (a 11) (a 12) tW.2.1)) [7, 8, 9, 10, 11, 12] (by decide) rfl
          have hFc := va_free (wc := (cwT cI (a 7) (a 8) (a 9) (a 10) (a 11) (a 12) tW.2.1)) hD hS hA [7, 8, 9, 10, 11, 12] rfl
          refine bd hF (fun r60 hG hF => ?_)
          refine va_callv (va_runVN (As := [.int x1, .int (nI 1)]) (rest := []) ⟨hx, hb, hml, hown, hts⟩ (c_X1_passFor l dC dI cI sf H.size N (a 7) (a 8) (a 9) (a 10) (a 11) (a 12) tW.2.1 x1 (nI 1) r60 hG) ⟨va_cnB 2 hts gX2_weightIfWritten_X1_passFor_n124 rfl rfl rfl (hNN.at 21 rfl) (hts (.initialized RX1) (List.mem_of_getElem? (i := 4) rfl)) (by decide +kernel) ⟨Nat.le_of_ble_eq_true rfl, Nat.le_of_ble_eq_true rfl⟩, hts (.instanceMethod yX1_passFor) (List.mem_of_getElem? (i := 30) rfl), hts (.selects RX1 yX1_passFor yX1_passFor) (List.mem_of_getElem? (i := 31) rfl)⟩ ⟨fun a U g mk q => ⟨q.1, q.2.call⟩, va_recv hK hP (ci := 1) (q0 := 7) rfl rfl, fun U hU hW => ⟨rfl, PB.of hU hW hPc hK hDc hNN hSF hS hFc⟩⟩ rfl rfl hl.1 rfl (lv_room (Nat.le_of_ble_eq_true rfl)) dX2_weightIfWritten_60 ⟨Nat.le_of_ble_eq_true rfl, Nat.le_of_ble_eq_true rfl⟩) hS (fun q _ h => hFc q h) hFc (fun u_ t H locs ht hvm hw hB hz1 hk1 hS => ?_)
          obtain ⟨hP1, hD1⟩ := hB
          rw [ht] at hP1
          have hJ := vb_join (ws' := (cwX cI a (tW.1, r60, tW.2.2.1, tW.2.2.2.1, tW.2.2.2.2.1, tW.2.2.2.2.2.1, tW.2.2.2.2.2.2.1, tW.2.2.2.2.2.2.2.1, tW.2.2.2.2.2.2.2.2))) hP hD [7, 8, 9, 10, 11, 12] [0, 1, 2, 3, 4, 5, 6, 13, 14, 15, 16, 17, 18, 19, 20, 21, 22, 23] [0, 1, 2, 3, 4, 5, 6, 18, 19, 20, 21, 22, 23, 7, 8, 9, 10, 11, 12, 13, 14, 15, 16, 17] rfl rfl (by decide) (by decide) hk1 hFc hP1 hD1 rfl (by decide) rfl
          clear hP hD hPc hDc hFc hP1 hD1 hk1 hz1 ht hvm hG
          obtain ⟨hP, hD⟩ := hJ
          refine lv_iinc (v := x7 + (nI 1)) (lv' := [(7, .int (x7 + (nI 1))), (0, .ref (a 0)), (1, .int x1), (2, .int x2), (3, .int x3), (4, .int x4), (5, .long x5)]) hx hb dX2_weightIfWritten_63 hl (k := 6) rfl (by rfl) (by decide) rfl (fun ls hl => ?_)
          refine lv_goto (tgt := 17) hx hb dX2_weightIfWritten_66 (by decide) ?_
          exact ih17 (tW.1, r60, tW.2.2.1, tW.2.2.2.1, tW.2.2.2.2.1, tW.2.2.2.2.2.1, tW.2.2.2.2.2.2.1, tW.2.2.2.2.2.2.2.1, tW.2.2.2.2.2.2.2.2) x1 x2 x3 x4 x5 (x7 + (nI 1)) _ _ _ hF hP hD hS (lv_sub hl [1, 2, 3, 4, 5, 6, 0] rfl)
        refine lv_icmp_ne (tgt := 45) hx hb dX2_weightIfWritten_31 (by decide) (fun hc => ?_) (fun hc => ?_)
        · have hF := ift hc hF
          refine lv_lload hx hb dX2_weightIfWritten_45 (lv_at hl 5 rfl) ?_
          refine lv_iload_n hx hb dX2_weightIfWritten_47 rfl (lv_at hl 3 rfl) ?_
          refine lv_iconst (v := nI 1) hx hb dX2_weightIfWritten_48 (by decide) ?_
          refine lv_isub hx hb dX2_weightIfWritten_49 ?_
          refine lv_i2l (v := (x3 - (nI 1)).toInt64) hx hb dX2_weightIfWritten_50 rfl ?_
          refine lv_lmul hx hb dX2_weightIfWritten_51 ?_
          refine lv_lstore (lv' := [(5, .long (x5 * ((x3 - (nI 1)).toInt64))), (0, .ref (a 0)), (1, .int x1), (2, .int x2), (3, .int x3), (4, .int x4), (7, .int x7)]) hx hb dX2_weightIfWritten_52 hl (by decide) rfl (fun ls hl => ?_)
          exact kJ54 tW x1 x2 x3 x4 (x5 * ((x3 - (nI 1)).toInt64)) x7 _ _ _ hF hP hD hS (lv_sub hl [1, 2, 3, 4, 5, 0, 6] rfl)
        · have hF := iff_ (fun h => h hc) hF
          refine lv_aload_n hx hb dX2_weightIfWritten_34 rfl (lv_at hl 0 rfl) ?_
          refine va_get (D := (dC, dI)) (ci := 2) (v := .ref (a 7)) (C := RX2) (T := TX2) (N := 9) hx hb hts inw_X2_weightIfWritten_X2 hown hK hP 0 rfl rfl 1 (by decide) (hts (.fieldLink RX2 16 "DeniedOfEachOther" "mind" "LDeniedOfEachOther$Town;") (List.mem_of_getElem? (i := 1) rfl)) (fun _ h9 => h9) rfl dX2_weightIfWritten_35 ?_
          refine lv_iconst (v := nI 5) hx hb dX2_weightIfWritten_38 (by decide) ?_
          have hPc := hP.sub (ws' := (cwT cI (a 7) (a 8) (a 9) (a 10) (a 11) (a 12) tW.2.1)) [7, 8, 9, 10, 11, 12] rfl
          have hDc := hD.sub (ws' := (cwT cI (a 7) (a 8) (a 9) (a 10) (a 11) (a 12) tW.2.1)) [7, 8, 9, 10, 11, 12] (by decide) rfl
          have hFc := va_free (wc := (cwT cI (a 7) (a 8) (a 9) (a 10) (a 11) (a 12) tW.2.1)) hD hS hA [7, 8, 9, 10, 11, 12] rfl
          refine bd hF (fun r39 hG hF => ?_)
          refine va_callv (va_runVN (As := [.int (nI 5)]) (rest := []) ⟨hx, hb, hml, hown, hts⟩ (c_X1_growOlder l dC dI cI sf H.size N (a 7) (a 8) (a 9) (a 10) (a 11) (a 12) tW.2.1 (nI 5) r39 hG) ⟨va_cnB 1 hts gX2_weightIfWritten_X1_growOlder_n225 rfl rfl rfl (hNN.at 30 rfl) (hts (.initialized RX1) (List.mem_of_getElem? (i := 4) rfl)) (by decide +kernel) ⟨Nat.le_of_ble_eq_true rfl, Nat.le_of_ble_eq_true rfl⟩, hts (.instanceMethod yX1_growOlder) (List.mem_of_getElem? (i := 19) rfl), hts (.selects RX1 yX1_growOlder yX1_growOlder) (List.mem_of_getElem? (i := 20) rfl)⟩ ⟨fun a U g mk q => ⟨q.1, q.2.call⟩, va_recv hK hP (ci := 1) (q0 := 7) rfl rfl, fun U hU hW => ⟨rfl, PB.of hU hW hPc hK hDc hNN hSF hS hFc⟩⟩ rfl rfl hl.1 rfl (lv_room (Nat.le_of_ble_eq_true rfl)) dX2_weightIfWritten_39 ⟨Nat.le_of_ble_eq_true rfl, Nat.le_of_ble_eq_true rfl⟩) hS (fun q _ h => hFc q h) hFc (fun u_ t H locs ht hvm hw hB hz1 hk1 hS => ?_)
          obtain ⟨hP1, hD1⟩ := hB
          rw [ht] at hP1
          have hJ := vb_join (ws' := (cwX cI a (tW.1, r39, tW.2.2.1, tW.2.2.2.1, tW.2.2.2.2.1, tW.2.2.2.2.2.1, tW.2.2.2.2.2.2.1, tW.2.2.2.2.2.2.2.1, tW.2.2.2.2.2.2.2.2))) hP hD [7, 8, 9, 10, 11, 12] [0, 1, 2, 3, 4, 5, 6, 13, 14, 15, 16, 17, 18, 19, 20, 21, 22, 23] [0, 1, 2, 3, 4, 5, 6, 18, 19, 20, 21, 22, 23, 7, 8, 9, 10, 11, 12, 13, 14, 15, 16, 17] rfl rfl (by decide) (by decide) hk1 hFc hP1 hD1 rfl (by decide) rfl
          clear hP hD hPc hDc hFc hP1 hD1 hk1 hz1 ht hvm hG
          obtain ⟨hP, hD⟩ := hJ
          refine lv_goto (tgt := 54) hx hb dX2_weightIfWritten_42 (by decide) ?_
          exact kJ54 (tW.1, r39, tW.2.2.1, tW.2.2.2.1, tW.2.2.2.2.1, tW.2.2.2.2.2.1, tW.2.2.2.2.2.2.1, tW.2.2.2.2.2.2.2.1, tW.2.2.2.2.2.2.2.2) x1 x2 x3 x4 x5 x7 _ _ _ hF hP hD hS (lv_sub hl [0, 1, 2, 3, 4, 5, 6] rfl)
  refine lv_istore (lv' := [(7, .int (nI 0)), (5, .long (lN 1)), (0, .ref (a 0)), (1, .int p1), (2, .int p2), (3, .int p3), (4, .int p4)]) hx hb dX2_weightIfWritten_15 hl (by decide) rfl (fun ls hl => ?_)
  exact kJ17 N (tW.1, r11, tW.2.2.1, tW.2.2.2.1, tW.2.2.2.2.1, tW.2.2.2.2.2.1, tW.2.2.2.2.2.2.1, tW.2.2.2.2.2.2.2.1, tW.2.2.2.2.2.2.2.2) p1 p2 p3 p4 (lN 1) (nI 0) _ _ _ hF hP hD hS (lv_sub hl [2, 3, 4, 5, 6, 1, 0] rfl)
theorem inw_X2_whatIs_X2 : ∀ w ∈ u_ws RX2 TX2 9, w ∈ wsX2_whatIs := fun _ h => List.mem_cons_of_mem _ (List.mem_append_left _ (List.mem_append_right _ h))
theorem inw_X2_whatIs_X1 : ∀ w ∈ u_ws RX1 TX1 8, w ∈ wsX2_whatIs := fun _ h => List.mem_cons_of_mem _ (List.mem_append_right _ h)
set_option maxHeartbeats 4000000 in
set_option maxRecDepth 100000 in
theorem c_X2_whatIs (l : Launch) (dC : Nat → ClassId) (dI : Nat → Nat → Nat) (cI : ClassId) (sf : SFP) (sz : Nat) (N : Nat) (a : Nat → Nat) (tW : XS) (p1 : Int32) (p2 : Int32) (p3 : Int32) (r : (Int32 × XS)) (hF : F_X2_whatIs N tW p1 p2 p3 = some r) : Met l yX2_whatIs wsX2_whatIs ({ frames := 6, cells := 0, slots := 0, locals := 145 }) (va_Pc [.ref (a 0), .int p1, .int p2, .int p3] (PB (dC, dI) cI (cwX cI a tW) sz sf)) (va_Qi (fun (z : Int32) (_ : Unit) => z = r.1) (fun _ t => QB (dC, dI) (cwX cI a r.2) (va_A (cwX cI a tW) sz) t) (va_A (cwX cI a tW) sz)) 0 0 (va_A (cwX cI a tW) sz) := by
  refine Met.ofW (cc := cX2_whatIs) (maxL := 7) (ret := (some .int)) (by decide) rfl ?_
  intro p e s m args below meth c s₁ B hml hv
  obtain ⟨rfl, hsz, hP, hK, hD0, hNN, hSF⟩ := hv
  have hx := B.exec
  have hb := B.bytes
  have hr := B.returns
  have hts := atoms_spec (ws := wsX2_whatIs) B.pre
  have hown : s.vm.findClass RX2 = some m.cls := findClass_of_methodNamed B.named
  have hlocks := B.notSynchronized
  subst hsz
  have hD := hD0.self (sz := s.heap.size)
  generalize hAe : va_A (cwX cI a tW) s.heap.size = A at hD hSF ⊢
  have hA : ∀ q : Nat, s.heap.size ≤ q → A q := fun q h => by rw [← hAe]; exact Or.inr h
  clear hAe hD0
  have hS : va_S A s.heap s.heap [] := va_S.rf
  have hl := lv_entry ([.ref (a 0), .int p1, .int p2, .int p3]) (n := 7) (Nat.le_of_ble_eq_true rfl)
  rw [lg_entry_eq]
  generalize (lg_sl ([.ref (a 0), .int p1, .int p2, .int p3]) ++ List.replicate (7 - (lg_sl ([.ref (a 0), .int p1, .int p2, .int p3])).length) Slot.unset).toArray = ls at hl ⊢
  have hl : lv_has ls 7 [(0, .ref (a 0)), (1, .int p1), (2, .int p2), (3, .int p3)] := hl
  rw [F_X2_whatIs] at hF
  refine lv_aload_n hx hb dX2_whatIs_0 rfl (lv_at hl 0 rfl) ?_
  refine lv_iload_n hx hb dX2_whatIs_1 rfl (lv_at hl 1 rfl) ?_
  have hPc := hP.sub (ws' := (cwX cI a tW)) [0, 1, 2, 3, 4, 5, 6, 7, 8, 9, 10, 11, 12, 13, 14, 15, 16, 17, 18, 19, 20, 21, 22, 23] rfl
  have hDc := hD.sub (ws' := (cwX cI a tW)) [0, 1, 2, 3, 4, 5, 6, 7, 8, 9, 10, 11, 12, 13, 14, 15, 16, 17, 18, 19, 20, 21, 22, 23] (by decide) rfl
  have hFc := va_free (wc := (cwX cI a tW)) hD hS hA [0, 1, 2, 3, 4, 5, 6, 7, 8, 9, 10, 11, 12, 13, 14, 15, 16, 17, 18, 19, 20, 21, 22, 23] rfl
  refine bd hF (fun r2 hG hF => ?_)
  refine va_calli (va_runV (As := [.int p1]) (rest := []) ⟨hx, hb, hml, hown, hts⟩ (c_X2_noCitizen l dC dI cI sf s.heap.size N a tW p1 r2 hG) (cwV 1 hts gX2_whatIs_X2_noCitizen rfl rfl rfl (by decide +kernel) ⟨Nat.le_of_ble_eq_true rfl, Nat.le_of_ble_eq_true rfl⟩) ⟨fun a U g mk q => ⟨q.1, q.2.call⟩, va_recv hK hP (ci := 2) (q0 := 0) rfl rfl, fun U hU hW => ⟨rfl, PB.of hU hW hPc hK hDc hNN hSF hS hFc⟩⟩ rfl rfl hl.1 rfl (lv_room (Nat.le_of_ble_eq_true rfl)) dX2_whatIs_2 ⟨Nat.le_of_ble_eq_true rfl, Nat.le_of_ble_eq_true rfl⟩) hS (fun q _ h => hFc q h) hFc (fun z_ u_ t H locs ht hvm hw hB hz1 hk1 hS => ?_)
  subst z_
  obtain ⟨hP1, hD1⟩ := hB
  rw [ht] at hP1
  have hJ := vb_join (ws' := (cwX cI a tW)) hP hD [0, 1, 2, 3, 4, 5, 6, 7, 8, 9, 10, 11, 12, 13, 14, 15, 16, 17, 18, 19, 20, 21, 22, 23] [] [0, 1, 2, 3, 4, 5, 6, 7, 8, 9, 10, 11, 12, 13, 14, 15, 16, 17, 18, 19, 20, 21, 22, 23] rfl rfl (by decide) (by decide) hk1 hFc hP1 hD1 rfl (by decide) rfl
  clear hP hD hPc hDc hFc hP1 hD1 hk1 hz1 ht hvm hG
  obtain ⟨hP, hD⟩ := hJ
  refine vW_have (fun R av Q => ∀ (tW : XS) (H : Heap) (locs : List Loc) (ls : Array Slot), F_X2_whatIs_15 N tW = some r → va_P (dC, dI) vwCl (cwX cI a tW) H → va_D A (cwX cI a tW) → va_S A s.heap H locs → lv_has ls 7 [(0, .ref (a 0))] → W p l e R s m av below meth c H locs 0 0 Q (F0 m 15 ls [])) ?_ (fun kJ15 => ?_)
  · 
    intro tW H locs ls hF hP hD hS hl
    rw [F_X2_whatIs_15] at hF
    refine lv_aload_n hx hb dX2_whatIs_15 rfl (lv_at hl 0 rfl) ?_
    refine lv_iconst (v := (-1)) hx hb dX2_whatIs_16 (by decide) ?_
    have hPc := hP.sub (ws' := (cwX cI a tW)) [0, 1, 2, 3, 4, 5, 6, 7, 8, 9, 10, 11, 12, 13, 14, 15, 16, 17, 18, 19, 20, 21, 22, 23] rfl
    have hDc := hD.sub (ws' := (cwX cI a tW)) [0, 1, 2, 3, 4, 5, 6, 7, 8, 9, 10, 11, 12, 13, 14, 15, 16, 17, 18, 19, 20, 21, 22, 23] (by decide) rfl
    have hFc := va_free (wc := (cwX cI a tW)) hD hS hA [0, 1, 2, 3, 4, 5, 6, 7, 8, 9, 10, 11, 12, 13, 14, 15, 16, 17, 18, 19, 20, 21, 22, 23] rfl
    refine bd hF (fun r17 hG hF => ?_)
    refine va_calli (va_runV (As := [.int (-1)]) (rest := []) ⟨hx, hb, hml, hown, hts⟩ (c_X2_refuse l dC dI cI sf H.size N a tW (-1) r17 hG) (cwV 1 hts gX2_whatIs_X2_refuse rfl rfl rfl (by decide +kernel) ⟨Nat.le_of_ble_eq_true rfl, Nat.le_of_ble_eq_true rfl⟩) ⟨fun a U g mk q => ⟨q.1, q.2.call⟩, va_recv hK hP (ci := 2) (q0 := 0) rfl rfl, fun U hU hW => ⟨rfl, PB.of hU hW hPc hK hDc hNN hSF hS hFc⟩⟩ rfl rfl hl.1 rfl (lv_room (Nat.le_of_ble_eq_true rfl)) dX2_whatIs_17 ⟨Nat.le_of_ble_eq_true rfl, Nat.le_of_ble_eq_true rfl⟩) hS (fun q _ h => hFc q h) hFc (fun z_ u_ t H locs ht hvm hw hB hz1 hk1 hS => ?_)
    subst z_
    obtain ⟨hP1, hD1⟩ := hB
    rw [ht] at hP1
    have hJ := vb_join (ws' := (cwX cI a r17.2)) hP hD [0, 1, 2, 3, 4, 5, 6, 7, 8, 9, 10, 11, 12, 13, 14, 15, 16, 17, 18, 19, 20, 21, 22, 23] [] [0, 1, 2, 3, 4, 5, 6, 7, 8, 9, 10, 11, 12, 13, 14, 15, 16, 17, 18, 19, 20, 21, 22, 23] rfl rfl (by decide) (by decide) hk1 hFc hP1 hD1 rfl (by decide) rfl
    clear hP hD hPc hDc hFc hP1 hD1 hk1 hz1 ht hvm hG
    obtain ⟨hP, hD⟩ := hJ
    obtain rfl := Option.some.inj hF
    exact W.iret (v := r17.1) hx hb hr (fun t ht hW => ⟨⟨r17.1, (), rfl, rfl, QB.of ht hP hD⟩, hS.F ht⟩) hS.2.2 dX2_whatIs_20
  refine lv_if_ne (tgt := 15) hx hb dX2_whatIs_5 (by decide) (fun hc => ?_) (fun hc => ?_)
  · have hF := ift hc hF
    exact kJ15 tW _ _ _ hF hP hD hS (lv_sub hl [0] rfl)
  · have hF := iff_ (fun h => h hc) hF
    refine lv_iload_n hx hb dX2_whatIs_8 rfl (lv_at hl 2 rfl) ?_
    have hPc := hP.sub (ws' := ([] : va_W)) [] rfl
    have hDc := hD.sub (ws' := ([] : va_W)) [] (by decide) rfl
    have hFc := va_free (wc := ([] : va_W)) hD hS hA [] rfl
    refine bd hF (fun r9 hG hF => ?_)
    refine va_calli (va_runS (As := [.int p2]) (rest := []) ⟨hx, hb, hml, hown, hts⟩ (c_X2_noTopic l dC dI cI sf H.size N  p2 r9 hG) (va_cwS 1 hts gX2_whatIs_X2_noTopic rfl rfl rfl (by decide +kernel) ⟨Nat.le_of_ble_eq_true rfl, Nat.le_of_ble_eq_true rfl⟩) ⟨fun a U g mk q => ⟨q.1, q.2.call⟩, fun U hU hW => ⟨rfl, PB.of hU hW hPc hK hDc hNN hSF hS hFc⟩⟩ rfl rfl hl.1 rfl (lv_room (Nat.le_of_ble_eq_true rfl)) dX2_whatIs_9 ⟨Nat.le_of_ble_eq_true rfl, Nat.le_of_ble_eq_true rfl⟩) hS (fun q _ h => hFc q h) hFc (fun z_ u_ t H locs ht hvm hw hB hz1 hk1 hS => ?_)
    subst z_
    obtain ⟨hP1, hD1⟩ := hB
    rw [ht] at hP1
    have hJ := vb_join (ws' := (cwX cI a tW)) hP hD [] [0, 1, 2, 3, 4, 5, 6, 7, 8, 9, 10, 11, 12, 13, 14, 15, 16, 17, 18, 19, 20, 21, 22, 23] [0, 1, 2, 3, 4, 5, 6, 7, 8, 9, 10, 11, 12, 13, 14, 15, 16, 17, 18, 19, 20, 21, 22, 23] rfl rfl (by decide) (by decide) hk1 hFc hP1 hD1 rfl (by decide) rfl
    clear hP hD hPc hDc hFc hP1 hD1 hk1 hz1 ht hvm hG
    obtain ⟨hP, hD⟩ := hJ
    refine lv_if_eq (tgt := 21) hx hb dX2_whatIs_12 (by decide) (fun hc => ?_) (fun hc => ?_)
    · have hF := ift hc hF
      refine lv_iload_n hx hb dX2_whatIs_21 rfl (lv_at hl 3 rfl) ?_
      refine vW_have (fun R av Q => ∀ (tW : XS) (H : Heap) (locs : List Loc) (ls : Array Slot), F_X2_whatIs_30 N tW = some r → va_P (dC, dI) vwCl (cwX cI a tW) H → va_D A (cwX cI a tW) → va_S A s.heap H locs → lv_has ls 7 [(0, .ref (a 0))] → W p l e R s m av below meth c H locs 0 0 Q (F0 m 30 ls [])) ?_ (fun kJ30 => ?_)
      · 
        intro tW H locs ls hF hP hD hS hl
        rw [F_X2_whatIs_30] at hF
        refine lv_aload_n hx hb dX2_whatIs_30 rfl (lv_at hl 0 rfl) ?_
        refine lv_bipush (v := (-2)) hx hb dX2_whatIs_31 (by decide) ?_
        have hPc := hP.sub (ws' := (cwX cI a tW)) [0, 1, 2, 3, 4, 5, 6, 7, 8, 9, 10, 11, 12, 13, 14, 15, 16, 17, 18, 19, 20, 21, 22, 23] rfl
        have hDc := hD.sub (ws' := (cwX cI a tW)) [0, 1, 2, 3, 4, 5, 6, 7, 8, 9, 10, 11, 12, 13, 14, 15, 16, 17, 18, 19, 20, 21, 22, 23] (by decide) rfl
        have hFc := va_free (wc := (cwX cI a tW)) hD hS hA [0, 1, 2, 3, 4, 5, 6, 7, 8, 9, 10, 11, 12, 13, 14, 15, 16, 17, 18, 19, 20, 21, 22, 23] rfl
        refine bd hF (fun r33 hG hF => ?_)
        refine va_calli (va_runV (As := [.int (-2)]) (rest := []) ⟨hx, hb, hml, hown, hts⟩ (c_X2_refuse l dC dI cI sf H.size N a tW (-2) r33 hG) (cwV 1 hts gX2_whatIs_X2_refuse rfl rfl rfl (by decide +kernel) ⟨Nat.le_of_ble_eq_true rfl, Nat.le_of_ble_eq_true rfl⟩) ⟨fun a U g mk q => ⟨q.1, q.2.call⟩, va_recv hK hP (ci := 2) (q0 := 0) rfl rfl, fun U hU hW => ⟨rfl, PB.of hU hW hPc hK hDc hNN hSF hS hFc⟩⟩ rfl rfl hl.1 rfl (lv_room (Nat.le_of_ble_eq_true rfl)) dX2_whatIs_33 ⟨Nat.le_of_ble_eq_true rfl, Nat.le_of_ble_eq_true rfl⟩) hS (fun q _ h => hFc q h) hFc (fun z_ u_ t H locs ht hvm hw hB hz1 hk1 hS => ?_)
        subst z_
        obtain ⟨hP1, hD1⟩ := hB
        rw [ht] at hP1
        have hJ := vb_join (ws' := (cwX cI a r33.2)) hP hD [0, 1, 2, 3, 4, 5, 6, 7, 8, 9, 10, 11, 12, 13, 14, 15, 16, 17, 18, 19, 20, 21, 22, 23] [] [0, 1, 2, 3, 4, 5, 6, 7, 8, 9, 10, 11, 12, 13, 14, 15, 16, 17, 18, 19, 20, 21, 22, 23] rfl rfl (by decide) (by decide) hk1 hFc hP1 hD1 rfl (by decide) rfl
        clear hP hD hPc hDc hFc hP1 hD1 hk1 hz1 ht hvm hG
        obtain ⟨hP, hD⟩ := hJ
        obtain rfl := Option.some.inj hF
        exact W.iret (v := r33.1) hx hb hr (fun t ht hW => ⟨⟨r33.1, (), rfl, rfl, QB.of ht hP hD⟩, hS.F ht⟩) hS.2.2 dX2_whatIs_36
      refine lv_if_lt (tgt := 30) hx hb dX2_whatIs_22 (by decide) (fun hc => ?_) (fun hc => ?_)
      · have hF := ift hc hF
        exact kJ30 tW _ _ _ hF hP hD hS (lv_sub hl [0] rfl)
      · have hF := iff_ hc hF
        refine lv_iload_n hx hb dX2_whatIs_25 rfl (lv_at hl 3 rfl) ?_
        refine lv_iconst (v := nI 1) hx hb dX2_whatIs_26 (by decide) ?_
        refine lv_icmp_le (tgt := 37) hx hb dX2_whatIs_27 (by decide) (fun hc => ?_) (fun hc => ?_)
        · have hF := ift hc hF
          refine lv_iconst (v := nI 0) hx hb dX2_whatIs_37 (by decide) ?_
          refine lv_istore (lv' := [(4, .int (nI 0)), (0, .ref (a 0)), (1, .int p1), (2, .int p2), (3, .int p3)]) hx hb dX2_whatIs_38 hl (by decide) rfl (fun ls hl => ?_)
          refine lv_iload_n hx hb dX2_whatIs_40 rfl (lv_at hl 4 rfl) ?_
          refine vW_have (fun R av Q => ∀ (tW : XS) (x1 : Int32) (x2 : Int32) (x3 : Int32) (x4 : Int32) (z0 : Int32) (H : Heap) (locs : List Loc) (ls : Array Slot), F_X2_whatIs_51 N tW x1 x2 x3 x4 z0 = some r → va_P (dC, dI) vwCl (cwX cI a tW) H → va_D A (cwX cI a tW) → va_S A s.heap H locs → lv_has ls 7 [(0, .ref (a 0)), (1, .int x1), (2, .int x2), (3, .int x3), (4, .int x4)] → W p l e R s m av below meth c H locs 0 0 Q (F0 m 51 ls [.int z0])) ?_ (fun kJ51 => ?_)
          · 
            intro tW x1 x2 x3 x4 z0 H locs ls hF hP hD hS hl
            rw [F_X2_whatIs_51] at hF
            refine lv_istore (lv' := [(5, .int z0), (0, .ref (a 0)), (1, .int x1), (2, .int x2), (3, .int x3), (4, .int x4)]) hx hb dX2_whatIs_51 hl (by decide) rfl (fun ls hl => ?_)
            refine lv_iconst (v := nI 0) hx hb dX2_whatIs_53 (by decide) ?_
            refine vW_have (fun R av Q => ∀ (n56 : Nat) (tW : XS) (x1 : Int32) (x2 : Int32) (x3 : Int32) (x4 : Int32) (x5 : Int32) (x6 : Int32) (H : Heap) (locs : List Loc) (ls : Array Slot), F_X2_whatIs_56 N n56 tW x1 x2 x3 x4 x5 x6 = some r → va_P (dC, dI) vwCl (cwX cI a tW) H → va_D A (cwX cI a tW) → va_S A s.heap H locs → lv_has ls 7 [(0, .ref (a 0)), (1, .int x1), (2, .int x2), (3, .int x3), (4, .int x4), (5, .int x5), (6, .int x6)] → W p l e R s m av below meth c H locs 0 0 Q (F0 m 56 ls [])) ?_ (fun kJ56 => ?_)
            · intro n56
              induction n56 with
              | zero => intro tW x1 x2 x3 x4 x5 x6 H locs ls hF; exact nn hF
              | succ n56 ih56 =>
                intro tW x1 x2 x3 x4 x5 x6 H locs ls hF hP hD hS hl
                rw [F_X2_whatIs_56] at hF
                refine lv_iload hx hb dX2_whatIs_56 (lv_at hl 6 rfl) ?_
                refine lv_iload hx hb dX2_whatIs_58 (lv_at hl 5 rfl) ?_
                refine lv_icmp_ge (tgt := 127) hx hb dX2_whatIs_60 (by decide) (fun hc => ?_) (fun hc => ?_)
                · have hF := ift hc hF
                  refine lv_iload hx hb dX2_whatIs_127 (lv_at hl 4 rfl) ?_
                  obtain rfl := Option.some.inj hF
                  exact W.iret (v := x4) hx hb hr (fun t ht hW => ⟨⟨x4, (), rfl, rfl, QB.of ht hP hD⟩, hS.F ht⟩) hS.2.2 dX2_whatIs_129
                · have hF := iff_ hc hF
                  refine lv_aload_n hx hb dX2_whatIs_63 rfl (lv_at hl 0 rfl) ?_
                  refine va_get (D := (dC, dI)) (ci := 2) (v := .ref (a 7)) (C := RX2) (T := TX2) (N := 9) hx hb hts inw_X2_whatIs_X2 hown hK hP 0 rfl rfl 1 (by decide) (hts (.fieldLink RX2 16 "DeniedOfEachOther" "mind" "LDeniedOfEachOther$Town;") (List.mem_of_getElem? (i := 1) rfl)) (fun _ h9 => h9) rfl dX2_whatIs_64 ?_
                  refine lv_aload_n hx hb dX2_whatIs_67 rfl (lv_at hl 0 rfl) ?_
                  refine va_get (D := (dC, dI)) (ci := 2) (v := .ref (a 1)) (C := RX2) (T := TX2) (N := 9) hx hb hts inw_X2_whatIs_X2 hown hK hP 0 rfl rfl 0 (by decide) (hts (.fieldLink RX2 10 "DeniedOfEachOther" "now" "LDeniedOfEachOther$Town;") (List.mem_of_getElem? (i := 2) rfl)) (fun _ h9 => h9) rfl dX2_whatIs_68 ?_
                  have hPc := hP.sub (ws' := (cwT cI (a 7) (a 8) (a 9) (a 10) (a 11) (a 12) tW.2.1 ++ cwT cI (a 1) (a 2) (a 3) (a 4) (a 5) (a 6) tW.1)) [7, 8, 9, 10, 11, 12, 1, 2, 3, 4, 5, 6] rfl
                  have hDc := hD.sub (ws' := (cwT cI (a 7) (a 8) (a 9) (a 10) (a 11) (a 12) tW.2.1 ++ cwT cI (a 1) (a 2) (a 3) (a 4) (a 5) (a 6) tW.1)) [7, 8, 9, 10, 11, 12, 1, 2, 3, 4, 5, 6] (by decide) rfl
                  have hFc := va_free (wc := (cwT cI (a 7) (a 8) (a 9) (a 10) (a 11) (a 12) tW.2.1 ++ cwT cI (a 1) (a 2) (a 3) (a 4) (a 5) (a 6) tW.1)) hD hS hA [7, 8, 9, 10, 11, 12, 1, 2, 3, 4, 5, 6] rfl
                  refine bd hF (fun r71 hG hF => ?_)
                  refine va_callv (va_runVN (As := [.ref (a 1)]) (rest := []) ⟨hx, hb, hml, hown, hts⟩ (c_X1_become l dC dI cI sf H.size N (a 7) (a 8) (a 9) (a 10) (a 11) (a 12) (a 1) (a 2) (a 3) (a 4) (a 5) (a 6) tW.2.1 tW.1 r71 hG) ⟨va_cnB 1 hts gX2_whatIs_X1_become_n61 rfl rfl rfl (hNN.at 2 rfl) (hts (.initialized RX1) (List.mem_of_getElem? (i := 17) rfl)) (by decide +kernel) ⟨Nat.le_of_ble_eq_true rfl, Nat.le_of_ble_eq_true rfl⟩, hts (.instanceMethod yX1_become) (List.mem_of_getElem? (i := 16) rfl), hts (.selects RX1 yX1_become yX1_become) (List.mem_of_getElem? (i := 18) rfl)⟩ ⟨fun a U g mk q => ⟨q.1, q.2.call⟩, va_recv hK hP (ci := 1) (q0 := 7) rfl rfl, fun U hU hW => ⟨rfl, PB.of hU hW hPc hK hDc hNN hSF hS hFc⟩⟩ rfl rfl hl.1 rfl (lv_room (Nat.le_of_ble_eq_true rfl)) dX2_whatIs_71 ⟨Nat.le_of_ble_eq_true rfl, Nat.le_of_ble_eq_true rfl⟩) hS (fun q _ h => hFc q h) hFc (fun u_ t H locs ht hvm hw hB hz1 hk1 hS => ?_)
                  obtain ⟨hP1, hD1⟩ := hB
                  rw [ht] at hP1
                  have hJ := vb_join (ws' := (cwX cI a (tW.1, r71, tW.2.2.1, tW.2.2.2.1, tW.2.2.2.2.1, tW.2.2.2.2.2.1, tW.2.2.2.2.2.2.1, tW.2.2.2.2.2.2.2.1, tW.2.2.2.2.2.2.2.2))) hP hD [7, 8, 9, 10, 11, 12, 1, 2, 3, 4, 5, 6] [0, 13, 14, 15, 16, 17, 18, 19, 20, 21, 22, 23] [0, 18, 19, 20, 21, 22, 23, 12, 13, 14, 15, 16, 17, 1, 2, 3, 4, 5, 6, 7, 8, 9, 10, 11] rfl rfl (by decide) (by decide) hk1 hFc hP1 hD1 rfl (by decide) rfl
                  clear hP hD hPc hDc hFc hP1 hD1 hk1 hz1 ht hvm hG
                  obtain ⟨hP, hD⟩ := hJ
                  refine lv_iload_n hx hb dX2_whatIs_74 rfl (lv_at hl 3 rfl) ?_
                  refine vW_have (fun R av Q => ∀ (tW : XS) (x1 : Int32) (x2 : Int32) (x3 : Int32) (x4 : Int32) (x5 : Int32) (x6 : Int32) (H : Heap) (locs : List Loc) (ls : Array Slot), F_X2_whatIs_103 N (fun ctW cx1 cx2 cx3 cx4 cx5 cx6 => F_X2_whatIs_56 N n56 ctW cx1 cx2 cx3 cx4 cx5 cx6) tW x1 x2 x3 x4 x5 x6 = some r → va_P (dC, dI) vwCl (cwX cI a tW) H → va_D A (cwX cI a tW) → va_S A s.heap H locs → lv_has ls 7 [(0, .ref (a 0)), (1, .int x1), (2, .int x2), (3, .int x3), (4, .int x4), (5, .int x5), (6, .int x6)] → W p l e R s m av below meth c H locs 0 0 Q (F0 m 103 ls [])) ?_ (fun kJ103 => ?_)
                  · 
                    intro tW x1 x2 x3 x4 x5 x6 H locs ls hF hP hD hS hl
                    rw [F_X2_whatIs_103] at hF
                    refine lv_aload_n hx hb dX2_whatIs_103 rfl (lv_at hl 0 rfl) ?_
                    refine lv_iload_n hx hb dX2_whatIs_104 rfl (lv_at hl 1 rfl) ?_
                    refine lv_iload_n hx hb dX2_whatIs_105 rfl (lv_at hl 2 rfl) ?_
                    have hPc := hP.sub (ws' := (cwX cI a tW)) [0, 1, 2, 3, 4, 5, 6, 7, 8, 9, 10, 11, 12, 13, 14, 15, 16, 17, 18, 19, 20, 21, 22, 23] rfl
                    have hDc := hD.sub (ws' := (cwX cI a tW)) [0, 1, 2, 3, 4, 5, 6, 7, 8, 9, 10, 11, 12, 13, 14, 15, 16, 17, 18, 19, 20, 21, 22, 23] (by decide) rfl
                    have hFc := va_free (wc := (cwX cI a tW)) hD hS hA [0, 1, 2, 3, 4, 5, 6, 7, 8, 9, 10, 11, 12, 13, 14, 15, 16, 17, 18, 19, 20, 21, 22, 23] rfl
                    refine bd hF (fun r106 hG hF => ?_)
                    refine va_calli (va_runV (As := [.int x1, .int x2]) (rest := []) ⟨hx, hb, hml, hown, hts⟩ (c_X2_mindSaysRow l dC dI cI sf H.size N a tW x1 x2 r106 hG) (cwV 2 hts gX2_whatIs_X2_mindSaysRow rfl rfl rfl (by decide +kernel) ⟨Nat.le_of_ble_eq_true rfl, Nat.le_of_ble_eq_true rfl⟩) ⟨fun a U g mk q => ⟨q.1, q.2.call⟩, va_recv hK hP (ci := 2) (q0 := 0) rfl rfl, fun U hU hW => ⟨rfl, PB.of hU hW hPc hK hDc hNN hSF hS hFc⟩⟩ rfl rfl hl.1 rfl (lv_room (Nat.le_of_ble_eq_true rfl)) dX2_whatIs_106 ⟨Nat.le_of_ble_eq_true rfl, Nat.le_of_ble_eq_true rfl⟩) hS (fun q _ h => hFc q h) hFc (fun z_ u_ t H locs ht hvm hw hB hz1 hk1 hS => ?_)
                    subst z_
                    obtain ⟨hP1, hD1⟩ := hB
                    rw [ht] at hP1
                    have hJ := vb_join (ws' := (cwX cI a r106.2)) hP hD [0, 1, 2, 3, 4, 5, 6, 7, 8, 9, 10, 11, 12, 13, 14, 15, 16, 17, 18, 19, 20, 21, 22, 23] [] [0, 1, 2, 3, 4, 5, 6, 7, 8, 9, 10, 11, 12, 13, 14, 15, 16, 17, 18, 19, 20, 21, 22, 23] rfl rfl (by decide) (by decide) hk1 hFc hP1 hD1 rfl (by decide) rfl
                    clear hP hD hPc hDc hFc hP1 hD1 hk1 hz1 ht hvm hG
                    obtain ⟨hP, hD⟩ := hJ
                    refine vW_have (fun R av Q => ∀ (tW : XS) (x1 : Int32) (x2 : Int32) (x3 : Int32) (x4 : Int32) (x5 : Int32) (x6 : Int32) (H : Heap) (locs : List Loc) (ls : Array Slot), F_X2_whatIs_121 N (fun ctW cx1 cx2 cx3 cx4 cx5 cx6 => F_X2_whatIs_56 N n56 ctW cx1 cx2 cx3 cx4 cx5 cx6) tW x1 x2 x3 x4 x5 x6 = some r → va_P (dC, dI) vwCl (cwX cI a tW) H → va_D A (cwX cI a tW) → va_S A s.heap H locs → lv_has ls 7 [(0, .ref (a 0)), (1, .int x1), (2, .int x2), (3, .int x3), (4, .int x4), (5, .int x5), (6, .int x6)] → W p l e R s m av below meth c H locs 0 0 Q (F0 m 121 ls [])) ?_ (fun kJ121 => ?_)
                    · 
                      intro tW x1 x2 x3 x4 x5 x6 H locs ls hF hP hD hS hl
                      rw [F_X2_whatIs_121] at hF
                      refine lv_iinc (v := x6 + (nI 1)) (lv' := [(6, .int (x6 + (nI 1))), (0, .ref (a 0)), (1, .int x1), (2, .int x2), (3, .int x3), (4, .int x4), (5, .int x5)]) hx hb dX2_whatIs_121 hl (k := 6) rfl (by rfl) (by decide) rfl (fun ls hl => ?_)
                      refine lv_goto (tgt := 56) hx hb dX2_whatIs_124 (by decide) ?_
                      exact ih56 tW x1 x2 x3 x4 x5 (x6 + (nI 1)) _ _ _ hF hP hD hS (lv_sub hl [1, 2, 3, 4, 5, 6, 0] rfl)
                    refine lv_if_eq (tgt := 121) hx hb dX2_whatIs_109 (by decide) (fun hc => ?_) (fun hc => ?_)
                    · have hF := ift hc hF
                      exact kJ121 r106.2 x1 x2 x3 x4 x5 x6 _ _ _ hF hP hD hS (lv_sub hl [0, 1, 2, 3, 4, 5, 6] rfl)
                    · have hF := iff_ hc hF
                      refine lv_iload hx hb dX2_whatIs_112 (lv_at hl 4 rfl) ?_
                      refine lv_iconst (v := nI 1) hx hb dX2_whatIs_114 (by decide) ?_
                      refine lv_iload hx hb dX2_whatIs_115 (lv_at hl 6 rfl) ?_
                      refine lv_ishl hx hb dX2_whatIs_117 ?_
                      refine lv_ior hx hb dX2_whatIs_118 ?_
                      refine lv_istore (lv' := [(4, .int (x4 ||| ((nI 1) <<< (x6 &&& 31)))), (0, .ref (a 0)), (1, .int x1), (2, .int x2), (3, .int x3), (5, .int x5), (6, .int x6)]) hx hb dX2_whatIs_119 hl (by decide) rfl (fun ls hl => ?_)
                      exact kJ121 r106.2 x1 x2 x3 (x4 ||| ((nI 1) <<< (x6 &&& 31))) x5 x6 _ _ _ hF hP hD hS (lv_sub hl [1, 2, 3, 4, 0, 5, 6] rfl)
                  refine lv_if_ne (tgt := 92) hx hb dX2_whatIs_75 (by decide) (fun hc => ?_) (fun hc => ?_)
                  · have hF := ift hc hF
                    refine lv_aload_n hx hb dX2_whatIs_92 rfl (lv_at hl 0 rfl) ?_
                    refine va_get (D := (dC, dI)) (ci := 2) (v := .ref (a 7)) (C := RX2) (T := TX2) (N := 9) hx hb hts inw_X2_whatIs_X2 hown hK hP 0 rfl rfl 1 (by decide) (hts (.fieldLink RX2 16 "DeniedOfEachOther" "mind" "LDeniedOfEachOther$Town;") (List.mem_of_getElem? (i := 1) rfl)) (fun _ h9 => h9) rfl dX2_whatIs_93 ?_
                    refine va_getN (D := (dC, dI)) (ci := 1) (v := .ref (a 9)) (C := RX1) (T := TX1) (N := 8) hx hb hts inw_X2_whatIs_X1 hown hK hP 7 rfl rfl 1 (by decide) (hNN.use 35 rfl) (fun _ h9 => h9) rfl dX2_whatIs_96 ?_
                    refine lv_iload_n hx hb dX2_whatIs_99 rfl (lv_at hl 1 rfl) ?_
                    refine lv_iload hx hb dX2_whatIs_100 (lv_at hl 6 rfl) ?_
                    refine cki hF (fun hi hF => ?_)
                    refine va_iast (D := (dC, dI)) hx hb hK hP hD hS 9 0 rfl rfl hi dX2_whatIs_102 (fun H locs hP hD hS => ?_)
                    have hP : va_P (dC, dI) vwCl (cwX cI a (tW.1, (r71.1, (upd r71.2.1 x1.toNatClampNeg x6), r71.2.2.1, r71.2.2.2.1, r71.2.2.2.2.1, r71.2.2.2.2.2.1, r71.2.2.2.2.2.2.1, r71.2.2.2.2.2.2.2), tW.2.2.1, tW.2.2.2.1, tW.2.2.2.2.1, tW.2.2.2.2.2.1, tW.2.2.2.2.2.2.1, tW.2.2.2.2.2.2.2.1, tW.2.2.2.2.2.2.2.2)) H := hP
                    have hD : va_D A (cwX cI a (tW.1, (r71.1, (upd r71.2.1 x1.toNatClampNeg x6), r71.2.2.1, r71.2.2.2.1, r71.2.2.2.2.1, r71.2.2.2.2.2.1, r71.2.2.2.2.2.2.1, r71.2.2.2.2.2.2.2), tW.2.2.1, tW.2.2.2.1, tW.2.2.2.2.1, tW.2.2.2.2.2.1, tW.2.2.2.2.2.2.1, tW.2.2.2.2.2.2.2.1, tW.2.2.2.2.2.2.2.2)) := hD
                    exact kJ103 (tW.1, (r71.1, (upd r71.2.1 x1.toNatClampNeg x6), r71.2.2.1, r71.2.2.2.1, r71.2.2.2.2.1, r71.2.2.2.2.2.1, r71.2.2.2.2.2.2.1, r71.2.2.2.2.2.2.2), tW.2.2.1, tW.2.2.2.1, tW.2.2.2.2.1, tW.2.2.2.2.2.1, tW.2.2.2.2.2.2.1, tW.2.2.2.2.2.2.2.1, tW.2.2.2.2.2.2.2.2) x1 x2 x3 x4 x5 x6 _ _ _ hF hP hD hS (lv_sub hl [0, 1, 2, 3, 4, 5, 6] rfl)
                  · have hF := iff_ (fun h => h hc) hF
                    refine lv_aload_n hx hb dX2_whatIs_78 rfl (lv_at hl 0 rfl) ?_
                    refine va_get (D := (dC, dI)) (ci := 2) (v := .ref (a 7)) (C := RX2) (T := TX2) (N := 9) hx hb hts inw_X2_whatIs_X2 hown hK hP 0 rfl rfl 1 (by decide) (hts (.fieldLink RX2 16 "DeniedOfEachOther" "mind" "LDeniedOfEachOther$Town;") (List.mem_of_getElem? (i := 1) rfl)) (fun _ h9 => h9) rfl dX2_whatIs_79 ?_
                    refine va_getN (D := (dC, dI)) (ci := 1) (v := .ref (a 8)) (C := RX1) (T := TX1) (N := 8) hx hb hts inw_X2_whatIs_X1 hown hK hP 7 rfl rfl 0 (by decide) (hNN.use 34 rfl) (fun _ h9 => h9) rfl dX2_whatIs_82 ?_
                    refine lv_iload_n hx hb dX2_whatIs_85 rfl (lv_at hl 1 rfl) ?_
                    refine lv_iload hx hb dX2_whatIs_86 (lv_at hl 6 rfl) ?_
                    refine cki hF (fun hi hF => ?_)
                    refine va_iast (D := (dC, dI)) hx hb hK hP hD hS 8 0 rfl rfl hi dX2_whatIs_88 (fun H locs hP hD hS => ?_)
                    have hP : va_P (dC, dI) vwCl (cwX cI a (tW.1, ((upd r71.1 x1.toNatClampNeg x6), r71.2.1, r71.2.2.1, r71.2.2.2.1, r71.2.2.2.2.1, r71.2.2.2.2.2.1, r71.2.2.2.2.2.2.1, r71.2.2.2.2.2.2.2), tW.2.2.1, tW.2.2.2.1, tW.2.2.2.2.1, tW.2.2.2.2.2.1, tW.2.2.2.2.2.2.1, tW.2.2.2.2.2.2.2.1, tW.2.2.2.2.2.2.2.2)) H := hP
                    have hD : va_D A (cwX cI a (tW.1, ((upd r71.1 x1.toNatClampNeg x6), r71.2.1, r71.2.2.1, r71.2.2.2.1, r71.2.2.2.2.1, r71.2.2.2.2.2.1, r71.2.2.2.2.2.2.1, r71.2.2.2.2.2.2.2), tW.2.2.1, tW.2.2.2.1, tW.2.2.2.2.1, tW.2.2.2.2.2.1, tW.2.2.2.2.2.2.1, tW.2.2.2.2.2.2.2.1, tW.2.2.2.2.2.2.2.2)) := hD
                    refine lv_goto (tgt := 103) hx hb dX2_whatIs_89 (by decide) ?_
                    exact kJ103 (tW.1, ((upd r71.1 x1.toNatClampNeg x6), r71.2.1, r71.2.2.1, r71.2.2.2.1, r71.2.2.2.2.1, r71.2.2.2.2.2.1, r71.2.2.2.2.2.2.1, r71.2.2.2.2.2.2.2), tW.2.2.1, tW.2.2.2.1, tW.2.2.2.2.1, tW.2.2.2.2.2.1, tW.2.2.2.2.2.2.1, tW.2.2.2.2.2.2.2.1, tW.2.2.2.2.2.2.2.2) x1 x2 x3 x4 x5 x6 _ _ _ hF hP hD hS (lv_sub hl [0, 1, 2, 3, 4, 5, 6] rfl)
            refine lv_istore (lv' := [(6, .int (nI 0)), (5, .int z0), (0, .ref (a 0)), (1, .int x1), (2, .int x2), (3, .int x3), (4, .int x4)]) hx hb dX2_whatIs_54 hl (by decide) rfl (fun ls hl => ?_)
            exact kJ56 N tW x1 x2 x3 x4 z0 (nI 0) _ _ _ hF hP hD hS (lv_sub hl [2, 3, 4, 5, 6, 1, 0] rfl)
          refine lv_if_ne (tgt := 49) hx hb dX2_whatIs_41 (by decide) (fun hc => ?_) (fun hc => ?_)
          · have hF := ift hc hF
            refine lv_bipush (v := nI 10) hx hb dX2_whatIs_49 (by decide) ?_
            exact kJ51 tW p1 p2 p3 (nI 0) (nI 10) _ _ _ hF hP hD hS (lv_sub hl [1, 2, 3, 4, 0] rfl)
          · have hF := iff_ (fun h => h hc) hF
            refine lv_bipush (v := nI 6) hx hb dX2_whatIs_44 (by decide) ?_
            refine lv_goto (tgt := 51) hx hb dX2_whatIs_46 (by decide) ?_
            exact kJ51 tW p1 p2 p3 (nI 0) (nI 6) _ _ _ hF hP hD hS (lv_sub hl [1, 2, 3, 4, 0] rfl)
        · have hF := iff_ hc hF
          exact kJ30 tW _ _ _ hF hP hD hS (lv_sub hl [0] rfl)
    · have hF := iff_ hc hF
      exact kJ15 tW _ _ _ hF hP hD hS (lv_sub hl [0] rfl)
