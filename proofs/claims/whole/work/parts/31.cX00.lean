theorem inw_X2_noCitizen_X2 : ∀ w ∈ u_ws RX2 TX2 9, w ∈ wsX2_noCitizen := fun _ h => List.mem_cons_of_mem _ (List.mem_append_left _ (List.mem_append_right _ h))
theorem inw_X2_noCitizen_X1 : ∀ w ∈ u_ws RX1 TX1 8, w ∈ wsX2_noCitizen := fun _ h => List.mem_cons_of_mem _ (List.mem_append_right _ h)
set_option maxHeartbeats 4000000 in
set_option maxRecDepth 100000 in
theorem c_X2_noCitizen (l : Launch) (dC : Nat → ClassId) (dI : Nat → Nat → Nat) (cI : ClassId) (sf : SFP) (sz : Nat) (N : Nat) (a : Nat → Nat) (tW : XS) (p1 : Int32) (r : Int32) (hF : F_X2_noCitizen N tW p1 = some r) : Met l yX2_noCitizen wsX2_noCitizen ({ frames := 0, cells := 0, slots := 0, locals := 0 }) (va_Pc [.ref (a 0), .int p1] (PB (dC, dI) cI (cwX cI a tW) sz sf)) (va_Qi (fun (z : Int32) (_ : Unit) => z = r) (fun _ t => QB (dC, dI) (cwX cI a tW) (va_A (cwX cI a tW) sz) t) (va_A (cwX cI a tW) sz)) 0 0 (va_A (cwX cI a tW) sz) := by
  refine Met.ofW (cc := cX2_noCitizen) (maxL := 2) (ret := (some .boolean)) (by decide) rfl ?_
  intro p e s m args below meth c s₁ B hml hv
  obtain ⟨rfl, hsz, hP, hK, hD0, hNN, hSF⟩ := hv
  have hx := B.exec
  have hb := B.bytes
  have hr := B.returns
  have hts := atoms_spec (ws := wsX2_noCitizen) B.pre
  have hown : s.vm.findClass RX2 = some m.cls := findClass_of_methodNamed B.named
  have hlocks := B.notSynchronized
  subst hsz
  have hD := hD0.self (sz := s.heap.size)
  generalize hAe : va_A (cwX cI a tW) s.heap.size = A at hD hSF ⊢
  have hA : ∀ q : Nat, s.heap.size ≤ q → A q := fun q h => by rw [← hAe]; exact Or.inr h
  clear hAe hD0
  have hS : va_S A s.heap s.heap [] := va_S.rf
  have hl := lv_entry ([.ref (a 0), .int p1]) (n := 2) (Nat.le_of_ble_eq_true rfl)
  rw [lg_entry_eq]
  generalize (lg_sl ([.ref (a 0), .int p1]) ++ List.replicate (2 - (lg_sl ([.ref (a 0), .int p1])).length) Slot.unset).toArray = ls at hl ⊢
  have hl : lv_has ls 2 [(0, .ref (a 0)), (1, .int p1)] := hl
  rw [F_X2_noCitizen] at hF
  refine lv_iload_n hx hb dX2_noCitizen_0 rfl (lv_at hl 1 rfl) ?_
  refine lv_if_lt (tgt := 15) hx hb dX2_noCitizen_1 (by decide) (fun hc => ?_) (fun hc => ?_)
  · have hF := ift hc hF
    refine lv_iconst (v := nI 1) hx hb dX2_noCitizen_15 (by decide) ?_
    refine lv_goto (tgt := 20) hx hb dX2_noCitizen_16 (by decide) ?_
    obtain rfl := Option.some.inj hF
    exact W.zret (v := (nI 1)) (ty := .boolean) hx hb hr (by decide +kernel) (fun t ht hW => ⟨⟨(nI 1), (), rfl, rfl, QB.of ht hP hD⟩, hS.F ht⟩) hS.2.2 dX2_noCitizen_20
  · have hF := iff_ hc hF
    refine lv_iload_n hx hb dX2_noCitizen_4 rfl (lv_at hl 1 rfl) ?_
    refine lv_aload_n hx hb dX2_noCitizen_5 rfl (lv_at hl 0 rfl) ?_
    refine va_get (D := (dC, dI)) (ci := 2) (v := .ref (a 1)) (C := RX2) (T := TX2) (N := 9) hx hb hts inw_X2_noCitizen_X2 hown hK hP 0 rfl rfl 0 (by decide) (hts (.fieldLink RX2 10 "DeniedOfEachOther" "now" "LDeniedOfEachOther$Town;") (List.mem_of_getElem? (i := 1) rfl)) (fun _ h9 => h9) rfl dX2_noCitizen_6 ?_
    refine va_getN (D := (dC, dI)) (ci := 1) (v := .int tW.1.2.2.2.2.2.1) (C := RX1) (T := TX1) (N := 8) hx hb hts inw_X2_noCitizen_X1 hown hK hP 1 rfl rfl 5 (by decide) (hNN.use 37 rfl) (fun _ h9 => h9) rfl dX2_noCitizen_9 ?_
    refine lv_icmp_lt (tgt := 19) hx hb dX2_noCitizen_12 (by decide) (fun hc => ?_) (fun hc => ?_)
    · have hF := ift hc hF
      refine lv_iconst (v := nI 0) hx hb dX2_noCitizen_19 (by decide) ?_
      obtain rfl := Option.some.inj hF
      exact W.zret (v := (nI 0)) (ty := .boolean) hx hb hr (by decide +kernel) (fun t ht hW => ⟨⟨(nI 0), (), rfl, rfl, QB.of ht hP hD⟩, hS.F ht⟩) hS.2.2 dX2_noCitizen_20
    · have hF := iff_ hc hF
      refine lv_iconst (v := nI 1) hx hb dX2_noCitizen_15 (by decide) ?_
      refine lv_goto (tgt := 20) hx hb dX2_noCitizen_16 (by decide) ?_
      obtain rfl := Option.some.inj hF
      exact W.zret (v := (nI 1)) (ty := .boolean) hx hb hr (by decide +kernel) (fun t ht hW => ⟨⟨(nI 1), (), rfl, rfl, QB.of ht hP hD⟩, hS.F ht⟩) hS.2.2 dX2_noCitizen_20
theorem inw_X2_refuse_X2 : ∀ w ∈ u_ws RX2 TX2 9, w ∈ wsX2_refuse := fun _ h => List.mem_cons_of_mem _ (List.mem_append_right _ h)
set_option maxHeartbeats 4000000 in
set_option maxRecDepth 100000 in
theorem c_X2_refuse (l : Launch) (dC : Nat → ClassId) (dI : Nat → Nat → Nat) (cI : ClassId) (sf : SFP) (sz : Nat) (N : Nat) (a : Nat → Nat) (tW : XS) (p1 : Int32) (r : (Int32 × XS)) (hF : F_X2_refuse N tW p1 = some r) : Met l yX2_refuse wsX2_refuse ({ frames := 0, cells := 0, slots := 0, locals := 0 }) (va_Pc [.ref (a 0), .int p1] (PB (dC, dI) cI (cwX cI a tW) sz sf)) (va_Qi (fun (z : Int32) (_ : Unit) => z = r.1) (fun _ t => QB (dC, dI) (cwX cI a r.2) (va_A (cwX cI a tW) sz) t) (va_A (cwX cI a tW) sz)) 0 0 (va_A (cwX cI a tW) sz) := by
  refine Met.ofW (cc := cX2_refuse) (maxL := 3) (ret := (some .int)) (by decide) rfl ?_
  intro p e s m args below meth c s₁ B hml hv
  obtain ⟨rfl, hsz, hP, hK, hD0, hNN, hSF⟩ := hv
  have hx := B.exec
  have hb := B.bytes
  have hr := B.returns
  have hts := atoms_spec (ws := wsX2_refuse) B.pre
  have hown : s.vm.findClass RX2 = some m.cls := findClass_of_methodNamed B.named
  have hlocks := B.notSynchronized
  subst hsz
  have hD := hD0.self (sz := s.heap.size)
  generalize hAe : va_A (cwX cI a tW) s.heap.size = A at hD hSF ⊢
  have hA : ∀ q : Nat, s.heap.size ≤ q → A q := fun q h => by rw [← hAe]; exact Or.inr h
  clear hAe hD0
  have hS : va_S A s.heap s.heap [] := va_S.rf
  have hl := lv_entry ([.ref (a 0), .int p1]) (n := 3) (Nat.le_of_ble_eq_true rfl)
  rw [lg_entry_eq]
  generalize (lg_sl ([.ref (a 0), .int p1]) ++ List.replicate (3 - (lg_sl ([.ref (a 0), .int p1])).length) Slot.unset).toArray = ls at hl ⊢
  have hl : lv_has ls 3 [(0, .ref (a 0)), (1, .int p1)] := hl
  rw [F_X2_refuse] at hF
  refine lv_iload_n hx hb dX2_refuse_0 rfl (lv_at hl 1 rfl) ?_
  refine lv_ineg hx hb dX2_refuse_1 ?_
  refine lv_istore_n (lv' := [(2, .int (-p1)), (0, .ref (a 0)), (1, .int p1)]) hx hb dX2_refuse_2 rfl hl (by decide) rfl (fun ls hl => ?_)
  refine lv_iload_n hx hb dX2_refuse_3 rfl (lv_at hl 0 rfl) ?_
  refine lv_iconst (v := nI 1) hx hb dX2_refuse_4 (by decide) ?_
  refine lv_icmp_lt (tgt := 27) hx hb dX2_refuse_5 (by decide) (fun hc => ?_) (fun hc => ?_)
  · have hF := ift hc hF
    refine lv_iload_n hx hb dX2_refuse_27 rfl (lv_at hl 2 rfl) ?_
    obtain rfl := Option.some.inj hF
    exact W.iret (v := p1) hx hb hr (fun t ht hW => ⟨⟨p1, (), rfl, rfl, QB.of ht hP hD⟩, hS.F ht⟩) hS.2.2 dX2_refuse_28
  · have hF := iff_ hc hF
    refine lv_iload_n hx hb dX2_refuse_8 rfl (lv_at hl 0 rfl) ?_
    refine lv_aload_n hx hb dX2_refuse_9 rfl (lv_at hl 1 rfl) ?_
    refine va_get (D := (dC, dI)) (ci := 2) (v := .ref (a 22)) (C := RX2) (T := TX2) (N := 9) hx hb hts inw_X2_refuse_X2 hown hK hP 0 rfl rfl 7 (by decide) (hts (.fieldLink RX2 41 "DeniedOfEachOther" "refusals" "[I") (List.mem_of_getElem? (i := 1) rfl)) (fun _ h9 => h9) rfl dX2_refuse_10 ?_
    refine va_alen (D := (dC, dI)) hx hb hK hP 22 0 rfl rfl (v := nI 7) rfl dX2_refuse_13 ?_
    refine lv_icmp_ge (tgt := 27) hx hb dX2_refuse_14 (by decide) (fun hc => ?_) (fun hc => ?_)
    · have hF := ift hc hF
      refine lv_iload_n hx hb dX2_refuse_27 rfl (lv_at hl 2 rfl) ?_
      obtain rfl := Option.some.inj hF
      exact W.iret (v := p1) hx hb hr (fun t ht hW => ⟨⟨p1, (), rfl, rfl, QB.of ht hP hD⟩, hS.F ht⟩) hS.2.2 dX2_refuse_28
    · have hF := iff_ hc hF
      refine lv_aload_n hx hb dX2_refuse_17 rfl (lv_at hl 1 rfl) ?_
      refine va_get (D := (dC, dI)) (ci := 2) (v := .ref (a 22)) (C := RX2) (T := TX2) (N := 9) hx hb hts inw_X2_refuse_X2 hown hK hP 0 rfl rfl 7 (by decide) (hts (.fieldLink RX2 41 "DeniedOfEachOther" "refusals" "[I") (List.mem_of_getElem? (i := 1) rfl)) (fun _ h9 => h9) rfl dX2_refuse_18 ?_
      refine lv_iload_n hx hb dX2_refuse_21 rfl (lv_at hl 0 rfl) ?_
      refine lv_dup2_11 hx hb dX2_refuse_22 rfl rfl ?_
      refine cki hF (fun hi hF => ?_)
      refine va_iald (D := (dC, dI)) hx hb hK hP 22 0 rfl rfl hi dX2_refuse_23 ?_
      refine lv_iconst (v := nI 1) hx hb dX2_refuse_24 (by decide) ?_
      refine lv_iadd hx hb dX2_refuse_25 ?_
      refine cki hF (fun hi hF => ?_)
      refine va_iast (D := (dC, dI)) hx hb hK hP hD hS 22 0 rfl rfl hi dX2_refuse_26 (fun H locs hP hD hS => ?_)
      have hP : va_P (dC, dI) vwCl (cwX cI a (tW.1, tW.2.1, tW.2.2.1, tW.2.2.2.1, tW.2.2.2.2.1, tW.2.2.2.2.2.1, tW.2.2.2.2.2.2.1, (upd tW.2.2.2.2.2.2.2.1 (-p1).toNatClampNeg ((tW.2.2.2.2.2.2.2.1 (-p1).toNatClampNeg) + (nI 1))), tW.2.2.2.2.2.2.2.2)) H := hP
      have hD : va_D A (cwX cI a (tW.1, tW.2.1, tW.2.2.1, tW.2.2.2.1, tW.2.2.2.2.1, tW.2.2.2.2.2.1, tW.2.2.2.2.2.2.1, (upd tW.2.2.2.2.2.2.2.1 (-p1).toNatClampNeg ((tW.2.2.2.2.2.2.2.1 (-p1).toNatClampNeg) + (nI 1))), tW.2.2.2.2.2.2.2.2)) := hD
      refine lv_iload_n hx hb dX2_refuse_27 rfl (lv_at hl 2 rfl) ?_
      obtain rfl := Option.some.inj hF
      exact W.iret (v := p1) hx hb hr (fun t ht hW => ⟨⟨p1, (), rfl, rfl, QB.of ht hP hD⟩, hS.F ht⟩) hS.2.2 dX2_refuse_28
theorem inw_X2_ages_X2 : ∀ w ∈ u_ws RX2 TX2 9, w ∈ wsX2_ages := fun _ h => List.mem_cons_of_mem _ (List.mem_append_left _ (List.mem_append_right _ h))
theorem inw_X2_ages_X1 : ∀ w ∈ u_ws RX1 TX1 8, w ∈ wsX2_ages := fun _ h => List.mem_cons_of_mem _ (List.mem_append_right _ h)
set_option maxHeartbeats 4000000 in
set_option maxRecDepth 100000 in
theorem c_X2_ages (l : Launch) (dC : Nat → ClassId) (dI : Nat → Nat → Nat) (cI : ClassId) (sf : SFP) (sz : Nat) (N : Nat) (a : Nat → Nat) (tW : XS) (p1 : Int32) (p2 : Int32) (r : (Int32 × XS)) (hF : F_X2_ages N tW p1 p2 = some r) : Met l yX2_ages wsX2_ages ({ frames := 1, cells := 0, slots := 0, locals := 22 }) (va_Pc [.ref (a 0), .int p1, .int p2] (PB (dC, dI) cI (cwX cI a tW) sz sf)) (va_Qi (fun (z : Int32) (_ : Unit) => z = r.1) (fun _ t => QB (dC, dI) (cwX cI a r.2) (va_A (cwX cI a tW) sz) t) (va_A (cwX cI a tW) sz)) 0 0 (va_A (cwX cI a tW) sz) := by
  refine Met.ofW (cc := cX2_ages) (maxL := 4) (ret := (some .int)) (by decide) rfl ?_
  intro p e s m args below meth c s₁ B hml hv
  obtain ⟨rfl, hsz, hP, hK, hD0, hNN, hSF⟩ := hv
  have hx := B.exec
  have hb := B.bytes
  have hr := B.returns
  have hts := atoms_spec (ws := wsX2_ages) B.pre
  have hown : s.vm.findClass RX2 = some m.cls := findClass_of_methodNamed B.named
  have hlocks := B.notSynchronized
  subst hsz
  have hD := hD0.self (sz := s.heap.size)
  generalize hAe : va_A (cwX cI a tW) s.heap.size = A at hD hSF ⊢
  have hA : ∀ q : Nat, s.heap.size ≤ q → A q := fun q h => by rw [← hAe]; exact Or.inr h
  clear hAe hD0
  have hS : va_S A s.heap s.heap [] := va_S.rf
  have hl := lv_entry ([.ref (a 0), .int p1, .int p2]) (n := 4) (Nat.le_of_ble_eq_true rfl)
  rw [lg_entry_eq]
  generalize (lg_sl ([.ref (a 0), .int p1, .int p2]) ++ List.replicate (4 - (lg_sl ([.ref (a 0), .int p1, .int p2])).length) Slot.unset).toArray = ls at hl ⊢
  have hl : lv_has ls 4 [(0, .ref (a 0)), (1, .int p1), (2, .int p2)] := hl
  rw [F_X2_ages] at hF
  refine lv_aload_n hx hb dX2_ages_0 rfl (lv_at hl 0 rfl) ?_
  refine lv_iload_n hx hb dX2_ages_1 rfl (lv_at hl 1 rfl) ?_
  have hPc := hP.sub (ws' := (cwX cI a tW)) [0, 1, 2, 3, 4, 5, 6, 7, 8, 9, 10, 11, 12, 13, 14, 15, 16, 17, 18, 19, 20, 21, 22, 23] rfl
  have hDc := hD.sub (ws' := (cwX cI a tW)) [0, 1, 2, 3, 4, 5, 6, 7, 8, 9, 10, 11, 12, 13, 14, 15, 16, 17, 18, 19, 20, 21, 22, 23] (by decide) rfl
  have hFc := va_free (wc := (cwX cI a tW)) hD hS hA [0, 1, 2, 3, 4, 5, 6, 7, 8, 9, 10, 11, 12, 13, 14, 15, 16, 17, 18, 19, 20, 21, 22, 23] rfl
  refine bd hF (fun r2 hG hF => ?_)
  refine va_calli (va_runV (As := [.int p1]) (rest := []) ⟨hx, hb, hml, hown, hts⟩ (c_X2_noCitizen l dC dI cI sf s.heap.size N a tW p1 r2 hG) (cwV 1 hts gX2_ages_X2_noCitizen rfl rfl rfl (by decide +kernel) ⟨Nat.le_of_ble_eq_true rfl, Nat.le_of_ble_eq_true rfl⟩) ⟨fun a U g mk q => ⟨q.1, q.2.call⟩, va_recv hK hP (ci := 2) (q0 := 0) rfl rfl, fun U hU hW => ⟨rfl, PB.of hU hW hPc hK hDc hNN hSF hS hFc⟩⟩ rfl rfl hl.1 rfl (lv_room (Nat.le_of_ble_eq_true rfl)) dX2_ages_2 ⟨Nat.le_of_ble_eq_true rfl, Nat.le_of_ble_eq_true rfl⟩) hS (fun q _ h => hFc q h) hFc (fun z_ u_ t H locs ht hvm hw hB hz1 hk1 hS => ?_)
  subst z_
  obtain ⟨hP1, hD1⟩ := hB
  rw [ht] at hP1
  have hJ := vb_join (ws' := (cwX cI a tW)) hP hD [0, 1, 2, 3, 4, 5, 6, 7, 8, 9, 10, 11, 12, 13, 14, 15, 16, 17, 18, 19, 20, 21, 22, 23] [] [0, 1, 2, 3, 4, 5, 6, 7, 8, 9, 10, 11, 12, 13, 14, 15, 16, 17, 18, 19, 20, 21, 22, 23] rfl rfl (by decide) (by decide) hk1 hFc hP1 hD1 rfl (by decide) rfl
  clear hP hD hPc hDc hFc hP1 hD1 hk1 hz1 ht hvm hG
  obtain ⟨hP, hD⟩ := hJ
  refine lv_if_eq (tgt := 14) hx hb dX2_ages_5 (by decide) (fun hc => ?_) (fun hc => ?_)
  · have hF := ift hc hF
    refine lv_iload_n hx hb dX2_ages_14 rfl (lv_at hl 2 rfl) ?_
    refine lv_if_ge (tgt := 25) hx hb dX2_ages_15 (by decide) (fun hc => ?_) (fun hc => ?_)
    · have hF := ift hc hF
      refine lv_iload_n hx hb dX2_ages_25 rfl (lv_at hl 2 rfl) ?_
      refine lv_bipush (v := nI 99) hx hb dX2_ages_26 (by decide) ?_
      refine lv_icmp_le (tgt := 38) hx hb dX2_ages_28 (by decide) (fun hc => ?_) (fun hc => ?_)
      · have hF := ift hc hF
        refine lv_aload_n hx hb dX2_ages_38 rfl (lv_at hl 0 rfl) ?_
        refine va_get (D := (dC, dI)) (ci := 2) (v := .ref (a 1)) (C := RX2) (T := TX2) (N := 9) hx hb hts inw_X2_ages_X2 hown hK hP 0 rfl rfl 0 (by decide) (hts (.fieldLink RX2 10 "DeniedOfEachOther" "now" "LDeniedOfEachOther$Town;") (List.mem_of_getElem? (i := 1) rfl)) (fun _ h9 => h9) rfl dX2_ages_39 ?_
        refine va_getN (D := (dC, dI)) (ci := 1) (v := .ref (a 4)) (C := RX1) (T := TX1) (N := 8) hx hb hts inw_X2_ages_X1 hown hK hP 1 rfl rfl 2 (by decide) (hNN.use 36 rfl) (fun _ h9 => h9) rfl dX2_ages_42 ?_
        refine lv_iload_n hx hb dX2_ages_45 rfl (lv_at hl 1 rfl) ?_
        refine cki hF (fun hi hF => ?_)
        refine va_iald (D := (dC, dI)) hx hb hK hP 4 0 rfl rfl hi dX2_ages_46 ?_
        refine lv_istore_n (lv' := [(3, .int (tW.1.2.2.1 p1.toNatClampNeg)), (0, .ref (a 0)), (1, .int p1), (2, .int p2)]) hx hb dX2_ages_47 rfl hl (by decide) rfl (fun ls hl => ?_)
        refine lv_aload_n hx hb dX2_ages_48 rfl (lv_at hl 1 rfl) ?_
        refine va_get (D := (dC, dI)) (ci := 2) (v := .ref (a 1)) (C := RX2) (T := TX2) (N := 9) hx hb hts inw_X2_ages_X2 hown hK hP 0 rfl rfl 0 (by decide) (hts (.fieldLink RX2 10 "DeniedOfEachOther" "now" "LDeniedOfEachOther$Town;") (List.mem_of_getElem? (i := 1) rfl)) (fun _ h9 => h9) rfl dX2_ages_49 ?_
        refine va_getN (D := (dC, dI)) (ci := 1) (v := .ref (a 4)) (C := RX1) (T := TX1) (N := 8) hx hb hts inw_X2_ages_X1 hown hK hP 1 rfl rfl 2 (by decide) (hNN.use 36 rfl) (fun _ h9 => h9) rfl dX2_ages_52 ?_
        refine lv_iload_n hx hb dX2_ages_55 rfl (lv_at hl 2 rfl) ?_
        refine lv_iload_n hx hb dX2_ages_56 rfl (lv_at hl 3 rfl) ?_
        refine cki hF (fun hi hF => ?_)
        refine va_iast (D := (dC, dI)) hx hb hK hP hD hS 4 0 rfl rfl hi dX2_ages_57 (fun H locs hP hD hS => ?_)
        have hP : va_P (dC, dI) vwCl (cwX cI a ((tW.1.1, tW.1.2.1, (upd tW.1.2.2.1 p1.toNatClampNeg p2), tW.1.2.2.2.1, tW.1.2.2.2.2.1, tW.1.2.2.2.2.2.1, tW.1.2.2.2.2.2.2.1, tW.1.2.2.2.2.2.2.2), tW.2.1, tW.2.2.1, tW.2.2.2.1, tW.2.2.2.2.1, tW.2.2.2.2.2.1, tW.2.2.2.2.2.2.1, tW.2.2.2.2.2.2.2.1, tW.2.2.2.2.2.2.2.2)) H := hP
        have hD : va_D A (cwX cI a ((tW.1.1, tW.1.2.1, (upd tW.1.2.2.1 p1.toNatClampNeg p2), tW.1.2.2.2.1, tW.1.2.2.2.2.1, tW.1.2.2.2.2.2.1, tW.1.2.2.2.2.2.2.1, tW.1.2.2.2.2.2.2.2), tW.2.1, tW.2.2.1, tW.2.2.2.1, tW.2.2.2.2.1, tW.2.2.2.2.2.1, tW.2.2.2.2.2.2.1, tW.2.2.2.2.2.2.2.1, tW.2.2.2.2.2.2.2.2)) := hD
        refine lv_iload_n hx hb dX2_ages_58 rfl (lv_at hl 0 rfl) ?_
        obtain rfl := Option.some.inj hF
        exact W.iret (v := (tW.1.2.2.1 p1.toNatClampNeg)) hx hb hr (fun t ht hW => ⟨⟨(tW.1.2.2.1 p1.toNatClampNeg), (), rfl, rfl, QB.of ht hP hD⟩, hS.F ht⟩) hS.2.2 dX2_ages_59
      · have hF := iff_ hc hF
        refine lv_aload_n hx hb dX2_ages_31 rfl (lv_at hl 0 rfl) ?_
        refine lv_bipush (v := (-6)) hx hb dX2_ages_32 (by decide) ?_
        have hPc := hP.sub (ws' := (cwX cI a tW)) [0, 1, 2, 3, 4, 5, 6, 7, 8, 9, 10, 11, 12, 13, 14, 15, 16, 17, 18, 19, 20, 21, 22, 23] rfl
        have hDc := hD.sub (ws' := (cwX cI a tW)) [0, 1, 2, 3, 4, 5, 6, 7, 8, 9, 10, 11, 12, 13, 14, 15, 16, 17, 18, 19, 20, 21, 22, 23] (by decide) rfl
        have hFc := va_free (wc := (cwX cI a tW)) hD hS hA [0, 1, 2, 3, 4, 5, 6, 7, 8, 9, 10, 11, 12, 13, 14, 15, 16, 17, 18, 19, 20, 21, 22, 23] rfl
        refine bd hF (fun r34 hG hF => ?_)
        refine va_calli (va_runV (As := [.int (-6)]) (rest := []) ⟨hx, hb, hml, hown, hts⟩ (c_X2_refuse l dC dI cI sf H.size N a tW (-6) r34 hG) (cwV 1 hts gX2_ages_X2_refuse rfl rfl rfl (by decide +kernel) ⟨Nat.le_of_ble_eq_true rfl, Nat.le_of_ble_eq_true rfl⟩) ⟨fun a U g mk q => ⟨q.1, q.2.call⟩, va_recv hK hP (ci := 2) (q0 := 0) rfl rfl, fun U hU hW => ⟨rfl, PB.of hU hW hPc hK hDc hNN hSF hS hFc⟩⟩ rfl rfl hl.1 rfl (lv_room (Nat.le_of_ble_eq_true rfl)) dX2_ages_34 ⟨Nat.le_of_ble_eq_true rfl, Nat.le_of_ble_eq_true rfl⟩) hS (fun q _ h => hFc q h) hFc (fun z_ u_ t H locs ht hvm hw hB hz1 hk1 hS => ?_)
        subst z_
        obtain ⟨hP1, hD1⟩ := hB
        rw [ht] at hP1
        have hJ := vb_join (ws' := (cwX cI a r34.2)) hP hD [0, 1, 2, 3, 4, 5, 6, 7, 8, 9, 10, 11, 12, 13, 14, 15, 16, 17, 18, 19, 20, 21, 22, 23] [] [0, 1, 2, 3, 4, 5, 6, 7, 8, 9, 10, 11, 12, 13, 14, 15, 16, 17, 18, 19, 20, 21, 22, 23] rfl rfl (by decide) (by decide) hk1 hFc hP1 hD1 rfl (by decide) rfl
        clear hP hD hPc hDc hFc hP1 hD1 hk1 hz1 ht hvm hG
        obtain ⟨hP, hD⟩ := hJ
        obtain rfl := Option.some.inj hF
        exact W.iret (v := r34.1) hx hb hr (fun t ht hW => ⟨⟨r34.1, (), rfl, rfl, QB.of ht hP hD⟩, hS.F ht⟩) hS.2.2 dX2_ages_37
    · have hF := iff_ hc hF
      refine lv_aload_n hx hb dX2_ages_18 rfl (lv_at hl 0 rfl) ?_
      refine lv_bipush (v := (-4)) hx hb dX2_ages_19 (by decide) ?_
      have hPc := hP.sub (ws' := (cwX cI a tW)) [0, 1, 2, 3, 4, 5, 6, 7, 8, 9, 10, 11, 12, 13, 14, 15, 16, 17, 18, 19, 20, 21, 22, 23] rfl
      have hDc := hD.sub (ws' := (cwX cI a tW)) [0, 1, 2, 3, 4, 5, 6, 7, 8, 9, 10, 11, 12, 13, 14, 15, 16, 17, 18, 19, 20, 21, 22, 23] (by decide) rfl
      have hFc := va_free (wc := (cwX cI a tW)) hD hS hA [0, 1, 2, 3, 4, 5, 6, 7, 8, 9, 10, 11, 12, 13, 14, 15, 16, 17, 18, 19, 20, 21, 22, 23] rfl
      refine bd hF (fun r21 hG hF => ?_)
      refine va_calli (va_runV (As := [.int (-4)]) (rest := []) ⟨hx, hb, hml, hown, hts⟩ (c_X2_refuse l dC dI cI sf H.size N a tW (-4) r21 hG) (cwV 1 hts gX2_ages_X2_refuse rfl rfl rfl (by decide +kernel) ⟨Nat.le_of_ble_eq_true rfl, Nat.le_of_ble_eq_true rfl⟩) ⟨fun a U g mk q => ⟨q.1, q.2.call⟩, va_recv hK hP (ci := 2) (q0 := 0) rfl rfl, fun U hU hW => ⟨rfl, PB.of hU hW hPc hK hDc hNN hSF hS hFc⟩⟩ rfl rfl hl.1 rfl (lv_room (Nat.le_of_ble_eq_true rfl)) dX2_ages_21 ⟨Nat.le_of_ble_eq_true rfl, Nat.le_of_ble_eq_true rfl⟩) hS (fun q _ h => hFc q h) hFc (fun z_ u_ t H locs ht hvm hw hB hz1 hk1 hS => ?_)
      subst z_
      obtain ⟨hP1, hD1⟩ := hB
      rw [ht] at hP1
      have hJ := vb_join (ws' := (cwX cI a r21.2)) hP hD [0, 1, 2, 3, 4, 5, 6, 7, 8, 9, 10, 11, 12, 13, 14, 15, 16, 17, 18, 19, 20, 21, 22, 23] [] [0, 1, 2, 3, 4, 5, 6, 7, 8, 9, 10, 11, 12, 13, 14, 15, 16, 17, 18, 19, 20, 21, 22, 23] rfl rfl (by decide) (by decide) hk1 hFc hP1 hD1 rfl (by decide) rfl
      clear hP hD hPc hDc hFc hP1 hD1 hk1 hz1 ht hvm hG
      obtain ⟨hP, hD⟩ := hJ
      obtain rfl := Option.some.inj hF
      exact W.iret (v := r21.1) hx hb hr (fun t ht hW => ⟨⟨r21.1, (), rfl, rfl, QB.of ht hP hD⟩, hS.F ht⟩) hS.2.2 dX2_ages_24
  · have hF := iff_ hc hF
    refine lv_aload_n hx hb dX2_ages_8 rfl (lv_at hl 0 rfl) ?_
    refine lv_iconst (v := (-1)) hx hb dX2_ages_9 (by decide) ?_
    have hPc := hP.sub (ws' := (cwX cI a tW)) [0, 1, 2, 3, 4, 5, 6, 7, 8, 9, 10, 11, 12, 13, 14, 15, 16, 17, 18, 19, 20, 21, 22, 23] rfl
    have hDc := hD.sub (ws' := (cwX cI a tW)) [0, 1, 2, 3, 4, 5, 6, 7, 8, 9, 10, 11, 12, 13, 14, 15, 16, 17, 18, 19, 20, 21, 22, 23] (by decide) rfl
    have hFc := va_free (wc := (cwX cI a tW)) hD hS hA [0, 1, 2, 3, 4, 5, 6, 7, 8, 9, 10, 11, 12, 13, 14, 15, 16, 17, 18, 19, 20, 21, 22, 23] rfl
    refine bd hF (fun r10 hG hF => ?_)
    refine va_calli (va_runV (As := [.int (-1)]) (rest := []) ⟨hx, hb, hml, hown, hts⟩ (c_X2_refuse l dC dI cI sf H.size N a tW (-1) r10 hG) (cwV 1 hts gX2_ages_X2_refuse rfl rfl rfl (by decide +kernel) ⟨Nat.le_of_ble_eq_true rfl, Nat.le_of_ble_eq_true rfl⟩) ⟨fun a U g mk q => ⟨q.1, q.2.call⟩, va_recv hK hP (ci := 2) (q0 := 0) rfl rfl, fun U hU hW => ⟨rfl, PB.of hU hW hPc hK hDc hNN hSF hS hFc⟩⟩ rfl rfl hl.1 rfl (lv_room (Nat.le_of_ble_eq_true rfl)) dX2_ages_10 ⟨Nat.le_of_ble_eq_true rfl, Nat.le_of_ble_eq_true rfl⟩) hS (fun q _ h => hFc q h) hFc (fun z_ u_ t H locs ht hvm hw hB hz1 hk1 hS => ?_)
    subst z_
    obtain ⟨hP1, hD1⟩ := hB
    rw [ht] at hP1
    have hJ := vb_join (ws' := (cwX cI a r10.2)) hP hD [0, 1, 2, 3, 4, 5, 6, 7, 8, 9, 10, 11, 12, 13, 14, 15, 16, 17, 18, 19, 20, 21, 22, 23] [] [0, 1, 2, 3, 4, 5, 6, 7, 8, 9, 10, 11, 12, 13, 14, 15, 16, 17, 18, 19, 20, 21, 22, 23] rfl rfl (by decide) (by decide) hk1 hFc hP1 hD1 rfl (by decide) rfl
    clear hP hD hPc hDc hFc hP1 hD1 hk1 hz1 ht hvm hG
    obtain ⟨hP, hD⟩ := hJ
    obtain rfl := Option.some.inj hF
    exact W.iret (v := r10.1) hx hb hr (fun t ht hW => ⟨⟨r10.1, (), rfl, rfl, QB.of ht hP hD⟩, hS.F ht⟩) hS.2.2 dX2_ages_13
theorem inw_X2_largestChapter_X2 : ∀ w ∈ u_ws RX2 TX2 9, w ∈ wsX2_largestChapter := fun _ h => List.mem_cons_of_mem _ (List.mem_append_left _ (List.mem_append_right _ h))
theorem inw_X2_largestChapter_X1 : ∀ w ∈ u_ws RX1 TX1 8, w ∈ wsX2_largestChapter := fun _ h => List.mem_cons_of_mem _ (List.mem_append_right _ h)
set_option maxHeartbeats 4000000 in
set_option maxRecDepth 100000 in
theorem c_X2_largestChapter (l : Launch) (dC : Nat → ClassId) (dI : Nat → Nat → Nat) (cI : ClassId) (sf : SFP) (sz : Nat) (N : Nat) (a : Nat → Nat) (tW : XS) (r : Int32) (hF : F_X2_largestChapter N tW = some r) : Met l yX2_largestChapter wsX2_largestChapter ({ frames := 3, cells := 0, slots := 0, locals := 65 }) (va_Pc [.ref (a 0)] (PB (dC, dI) cI (cwX cI a tW) sz sf)) (va_Qi (fun (z : Int32) (_ : Unit) => z = r) (fun _ t => QB (dC, dI) (cwX cI a tW) (va_A (cwX cI a tW) sz) t) (va_A (cwX cI a tW) sz)) 0 0 (va_A (cwX cI a tW) sz) := by
  refine Met.ofW (cc := cX2_largestChapter) (maxL := 4) (ret := (some .int)) (by decide) rfl ?_
  intro p e s m args below meth c s₁ B hml hv
  obtain ⟨rfl, hsz, hP, hK, hD0, hNN, hSF⟩ := hv
  have hx := B.exec
  have hb := B.bytes
  have hr := B.returns
  have hts := atoms_spec (ws := wsX2_largestChapter) B.pre
  have hown : s.vm.findClass RX2 = some m.cls := findClass_of_methodNamed B.named
  have hlocks := B.notSynchronized
  subst hsz
  have hD := hD0.self (sz := s.heap.size)
  generalize hAe : va_A (cwX cI a tW) s.heap.size = A at hD hSF ⊢
  have hA : ∀ q : Nat, s.heap.size ≤ q → A q := fun q h => by rw [← hAe]; exact Or.inr h
  clear hAe hD0
  have hS : va_S A s.heap s.heap [] := va_S.rf
  have hl := lv_entry ([.ref (a 0)]) (n := 4) (Nat.le_of_ble_eq_true rfl)
  rw [lg_entry_eq]
  generalize (lg_sl ([.ref (a 0)]) ++ List.replicate (4 - (lg_sl ([.ref (a 0)])).length) Slot.unset).toArray = ls at hl ⊢
  have hl : lv_has ls 4 [(0, .ref (a 0))] := hl
  rw [F_X2_largestChapter] at hF
  refine lv_bipush (v := (-9)) hx hb dX2_largestChapter_0 (by decide) ?_
  refine lv_istore_n (lv' := [(1, .int (-9)), (0, .ref (a 0))]) hx hb dX2_largestChapter_2 rfl hl (by decide) rfl (fun ls hl => ?_)
  refine lv_bipush (v := (-9)) hx hb dX2_largestChapter_3 (by decide) ?_
  refine lv_istore_n (lv' := [(2, .int (-9)), (1, .int (-9)), (0, .ref (a 0))]) hx hb dX2_largestChapter_5 rfl hl (by decide) rfl (fun ls hl => ?_)
  refine lv_iconst (v := nI 0) hx hb dX2_largestChapter_6 (by decide) ?_
  refine vW_have (fun R av Q => ∀ (n8 : Nat) (x1 : Int32) (x2 : Int32) (x3 : Int32) (H : Heap) (locs : List Loc) (ls : Array Slot), F_X2_largestChapter_8 N tW n8 x1 x2 x3 = some r → va_P (dC, dI) vwCl (cwX cI a tW) H → va_D A (cwX cI a tW) → va_S A s.heap H locs → lv_has ls 4 [(0, .ref (a 0)), (1, .int x1), (2, .int x2), (3, .int x3)] → W p l e R s m av below meth c H locs 0 0 Q (F0 m 8 ls [])) ?_ (fun kJ8 => ?_)
  · intro n8
    induction n8 with
    | zero => intro x1 x2 x3 H locs ls hF; exact nn hF
    | succ n8 ih8 =>
      intro x1 x2 x3 H locs ls hF hP hD hS hl
      rw [F_X2_largestChapter_8] at hF
      refine lv_iload_n hx hb dX2_largestChapter_8 rfl (lv_at hl 3 rfl) ?_
      refine lv_aload_n hx hb dX2_largestChapter_9 rfl (lv_at hl 0 rfl) ?_
      refine va_get (D := (dC, dI)) (ci := 2) (v := .ref (a 1)) (C := RX2) (T := TX2) (N := 9) hx hb hts inw_X2_largestChapter_X2 hown hK hP 0 rfl rfl 0 (by decide) (hts (.fieldLink RX2 10 "DeniedOfEachOther" "now" "LDeniedOfEachOther$Town;") (List.mem_of_getElem? (i := 1) rfl)) (fun _ h9 => h9) rfl dX2_largestChapter_10 ?_
      refine va_getN (D := (dC, dI)) (ci := 1) (v := .int tW.1.2.2.2.2.2.1) (C := RX1) (T := TX1) (N := 8) hx hb hts inw_X2_largestChapter_X1 hown hK hP 1 rfl rfl 5 (by decide) (hNN.use 37 rfl) (fun _ h9 => h9) rfl dX2_largestChapter_13 ?_
      refine lv_icmp_ge (tgt := 59) hx hb dX2_largestChapter_16 (by decide) (fun hc => ?_) (fun hc => ?_)
      · have hF := ift hc hF
        refine lv_iload_n hx hb dX2_largestChapter_59 rfl (lv_at hl 1 rfl) ?_
        obtain rfl := Option.some.inj hF
        exact W.iret (v := x1) hx hb hr (fun t ht hW => ⟨⟨x1, (), rfl, rfl, QB.of ht hP hD⟩, hS.F ht⟩) hS.2.2 dX2_largestChapter_60
      · have hF := iff_ hc hF
        refine lv_aload_n hx hb dX2_largestChapter_19 rfl (lv_at hl 0 rfl) ?_
        refine va_get (D := (dC, dI)) (ci := 2) (v := .ref (a 1)) (C := RX2) (T := TX2) (N := 9) hx hb hts inw_X2_largestChapter_X2 hown hK hP 0 rfl rfl 0 (by decide) (hts (.fieldLink RX2 10 "DeniedOfEachOther" "now" "LDeniedOfEachOther$Town;") (List.mem_of_getElem? (i := 1) rfl)) (fun _ h9 => h9) rfl dX2_largestChapter_20 ?_
        refine lv_iload_n hx hb dX2_largestChapter_23 rfl (lv_at hl 3 rfl) ?_
        have hPc := hP.sub (ws' := (cwT cI (a 1) (a 2) (a 3) (a 4) (a 5) (a 6) tW.1)) [1, 2, 3, 4, 5, 6] rfl
        have hDc := hD.sub (ws' := (cwT cI (a 1) (a 2) (a 3) (a 4) (a 5) (a 6) tW.1)) [1, 2, 3, 4, 5, 6] (by decide) rfl
        have hFc := va_free (wc := (cwT cI (a 1) (a 2) (a 3) (a 4) (a 5) (a 6) tW.1)) hD hS hA [1, 2, 3, 4, 5, 6] rfl
        refine bd hF (fun r24 hG hF => ?_)
        refine va_calli (va_runVN (As := [.int x3]) (rest := []) ⟨hx, hb, hml, hown, hts⟩ (c_X1_isLiving l dC dI cI sf H.size N (a 1) (a 2) (a 3) (a 4) (a 5) (a 6) tW.1 x3 r24 hG) ⟨va_cnB 1 hts gX2_largestChapter_X1_isLiving_n85 rfl rfl rfl (hNN.at 10 rfl) (hts (.initialized RX1) (List.mem_of_getElem? (i := 3) rfl)) (by decide +kernel) ⟨Nat.le_of_ble_eq_true rfl, Nat.le_of_ble_eq_true rfl⟩, hts (.instanceMethod yX1_isLiving) (List.mem_of_getElem? (i := 2) rfl), hts (.selects RX1 yX1_isLiving yX1_isLiving) (List.mem_of_getElem? (i := 4) rfl)⟩ ⟨fun a U g mk q => ⟨q.1, q.2.call⟩, va_recv hK hP (ci := 1) (q0 := 1) rfl rfl, fun U hU hW => ⟨rfl, PB.of hU hW hPc hK hDc hNN hSF hS hFc⟩⟩ rfl rfl hl.1 rfl (lv_room (Nat.le_of_ble_eq_true rfl)) dX2_largestChapter_24 ⟨Nat.le_of_ble_eq_true rfl, Nat.le_of_ble_eq_true rfl⟩) hS (fun q _ h => hFc q h) hFc (fun z_ u_ t H locs ht hvm hw hB hz1 hk1 hS => ?_)
        subst z_
        obtain ⟨hP1, hD1⟩ := hB
        rw [ht] at hP1
        have hJ := vb_join (ws' := (cwX cI a tW)) hP hD [1, 2, 3, 4, 5, 6] [0, 7, 8, 9, 10, 11, 12, 13, 14, 15, 16, 17, 18, 19, 20, 21, 22, 23] [0, 18, 19, 20, 21, 22, 23, 1, 2, 3, 4, 5, 6, 7, 8, 9, 10, 11, 12, 13, 14, 15, 16, 17] rfl rfl (by decide) (by decide) hk1 hFc hP1 hD1 rfl (by decide) rfl
        clear hP hD hPc hDc hFc hP1 hD1 hk1 hz1 ht hvm hG
        obtain ⟨hP, hD⟩ := hJ
        refine vW_have (fun R av Q => ∀ (x1 : Int32) (x2 : Int32) (x3 : Int32) (H : Heap) (locs : List Loc) (ls : Array Slot), F_X2_largestChapter_53 N tW (fun cx1 cx2 cx3 => F_X2_largestChapter_8 N tW n8 cx1 cx2 cx3) x1 x2 x3 = some r → va_P (dC, dI) vwCl (cwX cI a tW) H → va_D A (cwX cI a tW) → va_S A s.heap H locs → lv_has ls 4 [(0, .ref (a 0)), (1, .int x1), (2, .int x2), (3, .int x3)] → W p l e R s m av below meth c H locs 0 0 Q (F0 m 53 ls [])) ?_ (fun kJ53 => ?_)
        · 
          intro x1 x2 x3 H locs ls hF hP hD hS hl
          rw [F_X2_largestChapter_53] at hF
          refine lv_iinc (v := x3 + (nI 1)) (lv' := [(3, .int (x3 + (nI 1))), (0, .ref (a 0)), (1, .int x1), (2, .int x2)]) hx hb dX2_largestChapter_53 hl (k := 3) rfl (by rfl) (by decide) rfl (fun ls hl => ?_)
          refine lv_goto (tgt := 8) hx hb dX2_largestChapter_56 (by decide) ?_
          exact ih8 x1 x2 (x3 + (nI 1)) _ _ _ hF hP hD hS (lv_sub hl [1, 2, 3, 0] rfl)
        refine lv_if_eq (tgt := 53) hx hb dX2_largestChapter_27 (by decide) (fun hc => ?_) (fun hc => ?_)
        · have hF := ift hc hF
          exact kJ53 x1 x2 x3 _ _ _ hF hP hD hS (lv_sub hl [0, 1, 2, 3] rfl)
        · have hF := iff_ hc hF
          refine lv_aload_n hx hb dX2_largestChapter_30 rfl (lv_at hl 0 rfl) ?_
          refine va_get (D := (dC, dI)) (ci := 2) (v := .ref (a 1)) (C := RX2) (T := TX2) (N := 9) hx hb hts inw_X2_largestChapter_X2 hown hK hP 0 rfl rfl 0 (by decide) (hts (.fieldLink RX2 10 "DeniedOfEachOther" "now" "LDeniedOfEachOther$Town;") (List.mem_of_getElem? (i := 1) rfl)) (fun _ h9 => h9) rfl dX2_largestChapter_31 ?_
          refine lv_iload_n hx hb dX2_largestChapter_34 rfl (lv_at hl 3 rfl) ?_
          have hPc := hP.sub (ws' := (cwT cI (a 1) (a 2) (a 3) (a 4) (a 5) (a 6) tW.1)) [1, 2, 3, 4, 5, 6] rfl
          have hDc := hD.sub (ws' := (cwT cI (a 1) (a 2) (a 3) (a 4) (a 5) (a 6) tW.1)) [1, 2, 3, 4, 5, 6] (by decide) rfl
          have hFc := va_free (wc := (cwT cI (a 1) (a 2) (a 3) (a 4) (a 5) (a 6) tW.1)) hD hS hA [1, 2, 3, 4, 5, 6] rfl
          refine bd hF (fun r35 hG hF => ?_)
          refine va_calli (va_runVN (As := [.int x3]) (rest := []) ⟨hx, hb, hml, hown, hts⟩ (c_X1_chapterOf l dC dI cI sf H.size N (a 1) (a 2) (a 3) (a 4) (a 5) (a 6) tW.1 x3 r35 hG) ⟨va_cnB 1 hts gX2_largestChapter_X1_chapterOf_n149 rfl rfl rfl (hNN.at 25 rfl) (hts (.initialized RX1) (List.mem_of_getElem? (i := 3) rfl)) (by decide +kernel) ⟨Nat.le_of_ble_eq_true rfl, Nat.le_of_ble_eq_true rfl⟩, hts (.instanceMethod yX1_chapterOf) (List.mem_of_getElem? (i := 8) rfl), hts (.selects RX1 yX1_chapterOf yX1_chapterOf) (List.mem_of_getElem? (i := 9) rfl)⟩ ⟨fun a U g mk q => ⟨q.1, q.2.call⟩, va_recv hK hP (ci := 1) (q0 := 1) rfl rfl, fun U hU hW => ⟨rfl, PB.of hU hW hPc hK hDc hNN hSF hS hFc⟩⟩ rfl rfl hl.1 rfl (lv_room (Nat.le_of_ble_eq_true rfl)) dX2_largestChapter_35 ⟨Nat.le_of_ble_eq_true rfl, Nat.le_of_ble_eq_true rfl⟩) hS (fun q _ h => hFc q h) hFc (fun z_ u_ t H locs ht hvm hw hB hz1 hk1 hS => ?_)
          subst z_
          obtain ⟨hP1, hD1⟩ := hB
          rw [ht] at hP1
          have hJ := vb_join (ws' := (cwX cI a tW)) hP hD [1, 2, 3, 4, 5, 6] [0, 7, 8, 9, 10, 11, 12, 13, 14, 15, 16, 17, 18, 19, 20, 21, 22, 23] [0, 18, 19, 20, 21, 22, 23, 1, 2, 3, 4, 5, 6, 7, 8, 9, 10, 11, 12, 13, 14, 15, 16, 17] rfl rfl (by decide) (by decide) hk1 hFc hP1 hD1 rfl (by decide) rfl
          clear hP hD hPc hDc hFc hP1 hD1 hk1 hz1 ht hvm hG
          obtain ⟨hP, hD⟩ := hJ
          refine lv_iload_n hx hb dX2_largestChapter_38 rfl (lv_at hl 2 rfl) ?_
          refine lv_icmp_le (tgt := 53) hx hb dX2_largestChapter_39 (by decide) (fun hc => ?_) (fun hc => ?_)
          · have hF := ift hc hF
            exact kJ53 x1 x2 x3 _ _ _ hF hP hD hS (lv_sub hl [0, 1, 2, 3] rfl)
          · have hF := iff_ hc hF
            refine lv_aload_n hx hb dX2_largestChapter_42 rfl (lv_at hl 0 rfl) ?_
            refine va_get (D := (dC, dI)) (ci := 2) (v := .ref (a 1)) (C := RX2) (T := TX2) (N := 9) hx hb hts inw_X2_largestChapter_X2 hown hK hP 0 rfl rfl 0 (by decide) (hts (.fieldLink RX2 10 "DeniedOfEachOther" "now" "LDeniedOfEachOther$Town;") (List.mem_of_getElem? (i := 1) rfl)) (fun _ h9 => h9) rfl dX2_largestChapter_43 ?_
            refine lv_iload_n hx hb dX2_largestChapter_46 rfl (lv_at hl 3 rfl) ?_
            have hPc := hP.sub (ws' := (cwT cI (a 1) (a 2) (a 3) (a 4) (a 5) (a 6) tW.1)) [1, 2, 3, 4, 5, 6] rfl
            have hDc := hD.sub (ws' := (cwT cI (a 1) (a 2) (a 3) (a 4) (a 5) (a 6) tW.1)) [1, 2, 3, 4, 5, 6] (by decide) rfl
            have hFc := va_free (wc := (cwT cI (a 1) (a 2) (a 3) (a 4) (a 5) (a 6) tW.1)) hD hS hA [1, 2, 3, 4, 5, 6] rfl
            refine bd hF (fun r47 hG hF => ?_)
            refine va_calli (va_runVN (As := [.int x3]) (rest := []) ⟨hx, hb, hml, hown, hts⟩ (c_X1_chapterOf l dC dI cI sf H.size N (a 1) (a 2) (a 3) (a 4) (a 5) (a 6) tW.1 x3 r47 hG) ⟨va_cnB 1 hts gX2_largestChapter_X1_chapterOf_n149 rfl rfl rfl (hNN.at 25 rfl) (hts (.initialized RX1) (List.mem_of_getElem? (i := 3) rfl)) (by decide +kernel) ⟨Nat.le_of_ble_eq_true rfl, Nat.le_of_ble_eq_true rfl⟩, hts (.instanceMethod yX1_chapterOf) (List.mem_of_getElem? (i := 8) rfl), hts (.selects RX1 yX1_chapterOf yX1_chapterOf) (List.mem_of_getElem? (i := 9) rfl)⟩ ⟨fun a U g mk q => ⟨q.1, q.2.call⟩, va_recv hK hP (ci := 1) (q0 := 1) rfl rfl, fun U hU hW => ⟨rfl, PB.of hU hW hPc hK hDc hNN hSF hS hFc⟩⟩ rfl rfl hl.1 rfl (lv_room (Nat.le_of_ble_eq_true rfl)) dX2_largestChapter_47 ⟨Nat.le_of_ble_eq_true rfl, Nat.le_of_ble_eq_true rfl⟩) hS (fun q _ h => hFc q h) hFc (fun z_ u_ t H locs ht hvm hw hB hz1 hk1 hS => ?_)
            subst z_
            obtain ⟨hP1, hD1⟩ := hB
            rw [ht] at hP1
            have hJ := vb_join (ws' := (cwX cI a tW)) hP hD [1, 2, 3, 4, 5, 6] [0, 7, 8, 9, 10, 11, 12, 13, 14, 15, 16, 17, 18, 19, 20, 21, 22, 23] [0, 18, 19, 20, 21, 22, 23, 1, 2, 3, 4, 5, 6, 7, 8, 9, 10, 11, 12, 13, 14, 15, 16, 17] rfl rfl (by decide) (by decide) hk1 hFc hP1 hD1 rfl (by decide) rfl
            clear hP hD hPc hDc hFc hP1 hD1 hk1 hz1 ht hvm hG
            obtain ⟨hP, hD⟩ := hJ
            refine lv_istore_n (lv' := [(2, .int r47), (0, .ref (a 0)), (1, .int x1), (3, .int x3)]) hx hb dX2_largestChapter_50 rfl hl (by decide) rfl (fun ls hl => ?_)
            refine lv_iload_n hx hb dX2_largestChapter_51 rfl (lv_at hl 3 rfl) ?_
            refine lv_istore_n (lv' := [(1, .int x3), (2, .int r47), (0, .ref (a 0)), (3, .int x3)]) hx hb dX2_largestChapter_52 rfl hl (by decide) rfl (fun ls hl => ?_)
            exact kJ53 x3 r47 x3 _ _ _ hF hP hD hS (lv_sub hl [2, 0, 1, 3] rfl)
  refine lv_istore_n (lv' := [(3, .int (nI 0)), (2, .int (-9)), (1, .int (-9)), (0, .ref (a 0))]) hx hb dX2_largestChapter_7 rfl hl (by decide) rfl (fun ls hl => ?_)
  exact kJ8 N (-9) (-9) (nI 0) _ _ _ hF hP hD hS (lv_sub hl [3, 2, 1, 0] rfl)
theorem inw_X2_chapter_X2 : ∀ w ∈ u_ws RX2 TX2 9, w ∈ wsX2_chapter := fun _ h => List.mem_cons_of_mem _ (List.mem_append_left _ (List.mem_append_right _ h))
theorem inw_X2_chapter_X1 : ∀ w ∈ u_ws RX1 TX1 8, w ∈ wsX2_chapter := fun _ h => List.mem_cons_of_mem _ (List.mem_append_right _ h)
set_option maxHeartbeats 4000000 in
set_option maxRecDepth 100000 in
theorem c_X2_chapter (l : Launch) (dC : Nat → ClassId) (dI : Nat → Nat → Nat) (cI : ClassId) (sf : SFP) (sz : Nat) (N : Nat) (a : Nat → Nat) (tW : XS) (p1 : Int32) (r : (Int32 × XS)) (hF : F_X2_chapter N tW p1 = some r) : Met l yX2_chapter wsX2_chapter ({ frames := 4, cells := 0, slots := 0, locals := 88 }) (va_Pc [.ref (a 0), .int p1] (PB (dC, dI) cI (cwX cI a tW) sz sf)) (va_Qi (fun (z : Int32) (_ : Unit) => z = r.1) (fun _ t => QB (dC, dI) (cwX cI a r.2) (va_A (cwX cI a tW) sz) t) (va_A (cwX cI a tW) sz)) 0 0 (va_A (cwX cI a tW) sz) := by
  refine Met.ofW (cc := cX2_chapter) (maxL := 2) (ret := (some .int)) (by decide) rfl ?_
  intro p e s m args below meth c s₁ B hml hv
  obtain ⟨rfl, hsz, hP, hK, hD0, hNN, hSF⟩ := hv
  have hx := B.exec
  have hb := B.bytes
  have hr := B.returns
  have hts := atoms_spec (ws := wsX2_chapter) B.pre
  have hown : s.vm.findClass RX2 = some m.cls := findClass_of_methodNamed B.named
  have hlocks := B.notSynchronized
  subst hsz
  have hD := hD0.self (sz := s.heap.size)
  generalize hAe : va_A (cwX cI a tW) s.heap.size = A at hD hSF ⊢
  have hA : ∀ q : Nat, s.heap.size ≤ q → A q := fun q h => by rw [← hAe]; exact Or.inr h
  clear hAe hD0
  have hS : va_S A s.heap s.heap [] := va_S.rf
  have hl := lv_entry ([.ref (a 0), .int p1]) (n := 2) (Nat.le_of_ble_eq_true rfl)
  rw [lg_entry_eq]
  generalize (lg_sl ([.ref (a 0), .int p1]) ++ List.replicate (2 - (lg_sl ([.ref (a 0), .int p1])).length) Slot.unset).toArray = ls at hl ⊢
  have hl : lv_has ls 2 [(0, .ref (a 0)), (1, .int p1)] := hl
  rw [F_X2_chapter] at hF
  refine lv_iload_n hx hb dX2_chapter_0 rfl (lv_at hl 1 rfl) ?_
  refine lv_iconst (v := (-1)) hx hb dX2_chapter_1 (by decide) ?_
  refine lv_icmp_ne (tgt := 10) hx hb dX2_chapter_2 (by decide) (fun hc => ?_) (fun hc => ?_)
  · have hF := ift hc hF
    refine lv_aload_n hx hb dX2_chapter_10 rfl (lv_at hl 0 rfl) ?_
    refine lv_iload_n hx hb dX2_chapter_11 rfl (lv_at hl 1 rfl) ?_
    have hPc := hP.sub (ws' := (cwX cI a tW)) [0, 1, 2, 3, 4, 5, 6, 7, 8, 9, 10, 11, 12, 13, 14, 15, 16, 17, 18, 19, 20, 21, 22, 23] rfl
    have hDc := hD.sub (ws' := (cwX cI a tW)) [0, 1, 2, 3, 4, 5, 6, 7, 8, 9, 10, 11, 12, 13, 14, 15, 16, 17, 18, 19, 20, 21, 22, 23] (by decide) rfl
    have hFc := va_free (wc := (cwX cI a tW)) hD hS hA [0, 1, 2, 3, 4, 5, 6, 7, 8, 9, 10, 11, 12, 13, 14, 15, 16, 17, 18, 19, 20, 21, 22, 23] rfl
    refine bd hF (fun r12 hG hF => ?_)
    refine va_calli (va_runV (As := [.int p1]) (rest := []) ⟨hx, hb, hml, hown, hts⟩ (c_X2_noCitizen l dC dI cI sf s.heap.size N a tW p1 r12 hG) (cwV 1 hts gX2_chapter_X2_noCitizen rfl rfl rfl (by decide +kernel) ⟨Nat.le_of_ble_eq_true rfl, Nat.le_of_ble_eq_true rfl⟩) ⟨fun a U g mk q => ⟨q.1, q.2.call⟩, va_recv hK hP (ci := 2) (q0 := 0) rfl rfl, fun U hU hW => ⟨rfl, PB.of hU hW hPc hK hDc hNN hSF hS hFc⟩⟩ rfl rfl hl.1 rfl (lv_room (Nat.le_of_ble_eq_true rfl)) dX2_chapter_12 ⟨Nat.le_of_ble_eq_true rfl, Nat.le_of_ble_eq_true rfl⟩) hS (fun q _ h => hFc q h) hFc (fun z_ u_ t H locs ht hvm hw hB hz1 hk1 hS => ?_)
    subst z_
    obtain ⟨hP1, hD1⟩ := hB
    rw [ht] at hP1
    have hJ := vb_join (ws' := (cwX cI a tW)) hP hD [0, 1, 2, 3, 4, 5, 6, 7, 8, 9, 10, 11, 12, 13, 14, 15, 16, 17, 18, 19, 20, 21, 22, 23] [] [0, 1, 2, 3, 4, 5, 6, 7, 8, 9, 10, 11, 12, 13, 14, 15, 16, 17, 18, 19, 20, 21, 22, 23] rfl rfl (by decide) (by decide) hk1 hFc hP1 hD1 rfl (by decide) rfl
    clear hP hD hPc hDc hFc hP1 hD1 hk1 hz1 ht hvm hG
    obtain ⟨hP, hD⟩ := hJ
    refine lv_if_eq (tgt := 24) hx hb dX2_chapter_15 (by decide) (fun hc => ?_) (fun hc => ?_)
    · have hF := ift hc hF
      refine lv_aload_n hx hb dX2_chapter_24 rfl (lv_at hl 0 rfl) ?_
      refine va_get (D := (dC, dI)) (ci := 2) (v := .ref (a 1)) (C := RX2) (T := TX2) (N := 9) hx hb hts inw_X2_chapter_X2 hown hK hP 0 rfl rfl 0 (by decide) (hts (.fieldLink RX2 10 "DeniedOfEachOther" "now" "LDeniedOfEachOther$Town;") (List.mem_of_getElem? (i := 1) rfl)) (fun _ h9 => h9) rfl dX2_chapter_25 ?_
      refine lv_iload_n hx hb dX2_chapter_28 rfl (lv_at hl 1 rfl) ?_
      have hPc := hP.sub (ws' := (cwT cI (a 1) (a 2) (a 3) (a 4) (a 5) (a 6) tW.1)) [1, 2, 3, 4, 5, 6] rfl
      have hDc := hD.sub (ws' := (cwT cI (a 1) (a 2) (a 3) (a 4) (a 5) (a 6) tW.1)) [1, 2, 3, 4, 5, 6] (by decide) rfl
      have hFc := va_free (wc := (cwT cI (a 1) (a 2) (a 3) (a 4) (a 5) (a 6) tW.1)) hD hS hA [1, 2, 3, 4, 5, 6] rfl
      refine bd hF (fun r29 hG hF => ?_)
      refine va_calli (va_runVN (As := [.int p1]) (rest := []) ⟨hx, hb, hml, hown, hts⟩ (c_X1_chapterOf l dC dI cI sf H.size N (a 1) (a 2) (a 3) (a 4) (a 5) (a 6) tW.1 p1 r29 hG) ⟨va_cnB 1 hts gX2_chapter_X1_chapterOf_n149 rfl rfl rfl (hNN.at 25 rfl) (hts (.initialized RX1) (List.mem_of_getElem? (i := 8) rfl)) (by decide +kernel) ⟨Nat.le_of_ble_eq_true rfl, Nat.le_of_ble_eq_true rfl⟩, hts (.instanceMethod yX1_chapterOf) (List.mem_of_getElem? (i := 13) rfl), hts (.selects RX1 yX1_chapterOf yX1_chapterOf) (List.mem_of_getElem? (i := 14) rfl)⟩ ⟨fun a U g mk q => ⟨q.1, q.2.call⟩, va_recv hK hP (ci := 1) (q0 := 1) rfl rfl, fun U hU hW => ⟨rfl, PB.of hU hW hPc hK hDc hNN hSF hS hFc⟩⟩ rfl rfl hl.1 rfl (lv_room (Nat.le_of_ble_eq_true rfl)) dX2_chapter_29 ⟨Nat.le_of_ble_eq_true rfl, Nat.le_of_ble_eq_true rfl⟩) hS (fun q _ h => hFc q h) hFc (fun z_ u_ t H locs ht hvm hw hB hz1 hk1 hS => ?_)
      subst z_
      obtain ⟨hP1, hD1⟩ := hB
      rw [ht] at hP1
      have hJ := vb_join (ws' := (cwX cI a tW)) hP hD [1, 2, 3, 4, 5, 6] [0, 7, 8, 9, 10, 11, 12, 13, 14, 15, 16, 17, 18, 19, 20, 21, 22, 23] [0, 18, 19, 20, 21, 22, 23, 1, 2, 3, 4, 5, 6, 7, 8, 9, 10, 11, 12, 13, 14, 15, 16, 17] rfl rfl (by decide) (by decide) hk1 hFc hP1 hD1 rfl (by decide) rfl
      clear hP hD hPc hDc hFc hP1 hD1 hk1 hz1 ht hvm hG
      obtain ⟨hP, hD⟩ := hJ
      obtain rfl := Option.some.inj hF
      exact W.iret (v := r29) hx hb hr (fun t ht hW => ⟨⟨r29, (), rfl, rfl, QB.of ht hP hD⟩, hS.F ht⟩) hS.2.2 dX2_chapter_32
    · have hF := iff_ hc hF
      refine lv_aload_n hx hb dX2_chapter_18 rfl (lv_at hl 0 rfl) ?_
      refine lv_iconst (v := (-1)) hx hb dX2_chapter_19 (by decide) ?_
      have hPc := hP.sub (ws' := (cwX cI a tW)) [0, 1, 2, 3, 4, 5, 6, 7, 8, 9, 10, 11, 12, 13, 14, 15, 16, 17, 18, 19, 20, 21, 22, 23] rfl
      have hDc := hD.sub (ws' := (cwX cI a tW)) [0, 1, 2, 3, 4, 5, 6, 7, 8, 9, 10, 11, 12, 13, 14, 15, 16, 17, 18, 19, 20, 21, 22, 23] (by decide) rfl
      have hFc := va_free (wc := (cwX cI a tW)) hD hS hA [0, 1, 2, 3, 4, 5, 6, 7, 8, 9, 10, 11, 12, 13, 14, 15, 16, 17, 18, 19, 20, 21, 22, 23] rfl
      refine bd hF (fun r20 hG hF => ?_)
      refine va_calli (va_runV (As := [.int (-1)]) (rest := []) ⟨hx, hb, hml, hown, hts⟩ (c_X2_refuse l dC dI cI sf H.size N a tW (-1) r20 hG) (cwV 1 hts gX2_chapter_X2_refuse rfl rfl rfl (by decide +kernel) ⟨Nat.le_of_ble_eq_true rfl, Nat.le_of_ble_eq_true rfl⟩) ⟨fun a U g mk q => ⟨q.1, q.2.call⟩, va_recv hK hP (ci := 2) (q0 := 0) rfl rfl, fun U hU hW => ⟨rfl, PB.of hU hW hPc hK hDc hNN hSF hS hFc⟩⟩ rfl rfl hl.1 rfl (lv_room (Nat.le_of_ble_eq_true rfl)) dX2_chapter_20 ⟨Nat.le_of_ble_eq_true rfl, Nat.le_of_ble_eq_true rfl⟩) hS (fun q _ h => hFc q h) hFc (fun z_ u_ t H locs ht hvm hw hB hz1 hk1 hS => ?_)
      subst z_
      obtain ⟨hP1, hD1⟩ := hB
      rw [ht] at hP1
      have hJ := vb_join (ws' := (cwX cI a r20.2)) hP hD [0, 1, 2, 3, 4, 5, 6, 7, 8, 9, 10, 11, 12, 13, 14, 15, 16, 17, 18, 19, 20, 21, 22, 23] [] [0, 1, 2, 3, 4, 5, 6, 7, 8, 9, 10, 11, 12, 13, 14, 15, 16, 17, 18, 19, 20, 21, 22, 23] rfl rfl (by decide) (by decide) hk1 hFc hP1 hD1 rfl (by decide) rfl
      clear hP hD hPc hDc hFc hP1 hD1 hk1 hz1 ht hvm hG
      obtain ⟨hP, hD⟩ := hJ
      obtain rfl := Option.some.inj hF
      exact W.iret (v := r20.1) hx hb hr (fun t ht hW => ⟨⟨r20.1, (), rfl, rfl, QB.of ht hP hD⟩, hS.F ht⟩) hS.2.2 dX2_chapter_23
  · have hF := iff_ (fun h => h hc) hF
    refine lv_aload_n hx hb dX2_chapter_5 rfl (lv_at hl 0 rfl) ?_
    have hPc := hP.sub (ws' := (cwX cI a tW)) [0, 1, 2, 3, 4, 5, 6, 7, 8, 9, 10, 11, 12, 13, 14, 15, 16, 17, 18, 19, 20, 21, 22, 23] rfl
    have hDc := hD.sub (ws' := (cwX cI a tW)) [0, 1, 2, 3, 4, 5, 6, 7, 8, 9, 10, 11, 12, 13, 14, 15, 16, 17, 18, 19, 20, 21, 22, 23] (by decide) rfl
    have hFc := va_free (wc := (cwX cI a tW)) hD hS hA [0, 1, 2, 3, 4, 5, 6, 7, 8, 9, 10, 11, 12, 13, 14, 15, 16, 17, 18, 19, 20, 21, 22, 23] rfl
    refine bd hF (fun r6 hG hF => ?_)
    refine va_calli (va_runV (As := []) (rest := []) ⟨hx, hb, hml, hown, hts⟩ (c_X2_largestChapter l dC dI cI sf s.heap.size N a tW r6 hG) (cwV 0 hts gX2_chapter_X2_largestChapter rfl rfl rfl (by decide +kernel) ⟨Nat.le_of_ble_eq_true rfl, Nat.le_of_ble_eq_true rfl⟩) ⟨fun a U g mk q => ⟨q.1, q.2.call⟩, va_recv hK hP (ci := 2) (q0 := 0) rfl rfl, fun U hU hW => ⟨rfl, PB.of hU hW hPc hK hDc hNN hSF hS hFc⟩⟩ rfl rfl hl.1 rfl (lv_room (Nat.le_of_ble_eq_true rfl)) dX2_chapter_6 ⟨Nat.le_of_ble_eq_true rfl, Nat.le_of_ble_eq_true rfl⟩) hS (fun q _ h => hFc q h) hFc (fun z_ u_ t H locs ht hvm hw hB hz1 hk1 hS => ?_)
    subst z_
    obtain ⟨hP1, hD1⟩ := hB
    rw [ht] at hP1
    have hJ := vb_join (ws' := (cwX cI a tW)) hP hD [0, 1, 2, 3, 4, 5, 6, 7, 8, 9, 10, 11, 12, 13, 14, 15, 16, 17, 18, 19, 20, 21, 22, 23] [] [0, 1, 2, 3, 4, 5, 6, 7, 8, 9, 10, 11, 12, 13, 14, 15, 16, 17, 18, 19, 20, 21, 22, 23] rfl rfl (by decide) (by decide) hk1 hFc hP1 hD1 rfl (by decide) rfl
    clear hP hD hPc hDc hFc hP1 hD1 hk1 hz1 ht hvm hG
    obtain ⟨hP, hD⟩ := hJ
    obtain rfl := Option.some.inj hF
    exact W.iret (v := r6) hx hb hr (fun t ht hW => ⟨⟨r6, (), rfl, rfl, QB.of ht hP hD⟩, hS.F ht⟩) hS.2.2 dX2_chapter_9
theorem inw_X2_citizen_X2 : ∀ w ∈ u_ws RX2 TX2 9, w ∈ wsX2_citizen := fun _ h => List.mem_cons_of_mem _ (List.mem_append_left _ (List.mem_append_right _ h))
theorem inw_X2_citizen_X1 : ∀ w ∈ u_ws RX1 TX1 8, w ∈ wsX2_citizen := fun _ h => List.mem_cons_of_mem _ (List.mem_append_right _ h)
set_option maxHeartbeats 4000000 in
set_option maxRecDepth 100000 in
theorem c_X2_citizen (l : Launch) (dC : Nat → ClassId) (dI : Nat → Nat → Nat) (cI : ClassId) (sf : SFP) (sz : Nat) (N : Nat) (a : Nat → Nat) (tW : XS) (p1 : Int32) (p2 : Int32) (r : (Int32 × XS)) (hF : F_X2_citizen N tW p1 p2 = some r) : Met l yX2_citizen wsX2_citizen ({ frames := 2, cells := 0, slots := 0, locals := 45 }) (va_Pc [.ref (a 0), .int p1, .int p2] (PB (dC, dI) cI (cwX cI a tW) sz sf)) (va_Qi (fun (z : Int32) (_ : Unit) => z = r.1) (fun _ t => QB (dC, dI) (cwX cI a r.2) (va_A (cwX cI a tW) sz) t) (va_A (cwX cI a tW) sz)) 0 0 (va_A (cwX cI a tW) sz) := by
  refine Met.ofW (cc := cX2_citizen) (maxL := 3) (ret := (some .int)) (by decide) rfl ?_
  intro p e s m args below meth c s₁ B hml hv
  obtain ⟨rfl, hsz, hP, hK, hD0, hNN, hSF⟩ := hv
  have hx := B.exec
  have hb := B.bytes
  have hr := B.returns
  have hts := atoms_spec (ws := wsX2_citizen) B.pre
  have hown : s.vm.findClass RX2 = some m.cls := findClass_of_methodNamed B.named
  have hlocks := B.notSynchronized
  subst hsz
  have hD := hD0.self (sz := s.heap.size)
  generalize hAe : va_A (cwX cI a tW) s.heap.size = A at hD hSF ⊢
  have hA : ∀ q : Nat, s.heap.size ≤ q → A q := fun q h => by rw [← hAe]; exact Or.inr h
  clear hAe hD0
  have hS : va_S A s.heap s.heap [] := va_S.rf
  have hl := lv_entry ([.ref (a 0), .int p1, .int p2]) (n := 3) (Nat.le_of_ble_eq_true rfl)
  rw [lg_entry_eq]
  generalize (lg_sl ([.ref (a 0), .int p1, .int p2]) ++ List.replicate (3 - (lg_sl ([.ref (a 0), .int p1, .int p2])).length) Slot.unset).toArray = ls at hl ⊢
  have hl : lv_has ls 3 [(0, .ref (a 0)), (1, .int p1), (2, .int p2)] := hl
  rw [F_X2_citizen] at hF
  refine lv_aload_n hx hb dX2_citizen_0 rfl (lv_at hl 0 rfl) ?_
  refine lv_iload_n hx hb dX2_citizen_1 rfl (lv_at hl 1 rfl) ?_
  have hPc := hP.sub (ws' := (cwX cI a tW)) [0, 1, 2, 3, 4, 5, 6, 7, 8, 9, 10, 11, 12, 13, 14, 15, 16, 17, 18, 19, 20, 21, 22, 23] rfl
  have hDc := hD.sub (ws' := (cwX cI a tW)) [0, 1, 2, 3, 4, 5, 6, 7, 8, 9, 10, 11, 12, 13, 14, 15, 16, 17, 18, 19, 20, 21, 22, 23] (by decide) rfl
  have hFc := va_free (wc := (cwX cI a tW)) hD hS hA [0, 1, 2, 3, 4, 5, 6, 7, 8, 9, 10, 11, 12, 13, 14, 15, 16, 17, 18, 19, 20, 21, 22, 23] rfl
  refine bd hF (fun r2 hG hF => ?_)
  refine va_calli (va_runV (As := [.int p1]) (rest := []) ⟨hx, hb, hml, hown, hts⟩ (c_X2_noCitizen l dC dI cI sf s.heap.size N a tW p1 r2 hG) (cwV 1 hts gX2_citizen_X2_noCitizen rfl rfl rfl (by decide +kernel) ⟨Nat.le_of_ble_eq_true rfl, Nat.le_of_ble_eq_true rfl⟩) ⟨fun a U g mk q => ⟨q.1, q.2.call⟩, va_recv hK hP (ci := 2) (q0 := 0) rfl rfl, fun U hU hW => ⟨rfl, PB.of hU hW hPc hK hDc hNN hSF hS hFc⟩⟩ rfl rfl hl.1 rfl (lv_room (Nat.le_of_ble_eq_true rfl)) dX2_citizen_2 ⟨Nat.le_of_ble_eq_true rfl, Nat.le_of_ble_eq_true rfl⟩) hS (fun q _ h => hFc q h) hFc (fun z_ u_ t H locs ht hvm hw hB hz1 hk1 hS => ?_)
  subst z_
  obtain ⟨hP1, hD1⟩ := hB
  rw [ht] at hP1
  have hJ := vb_join (ws' := (cwX cI a tW)) hP hD [0, 1, 2, 3, 4, 5, 6, 7, 8, 9, 10, 11, 12, 13, 14, 15, 16, 17, 18, 19, 20, 21, 22, 23] [] [0, 1, 2, 3, 4, 5, 6, 7, 8, 9, 10, 11, 12, 13, 14, 15, 16, 17, 18, 19, 20, 21, 22, 23] rfl rfl (by decide) (by decide) hk1 hFc hP1 hD1 rfl (by decide) rfl
  clear hP hD hPc hDc hFc hP1 hD1 hk1 hz1 ht hvm hG
  obtain ⟨hP, hD⟩ := hJ
  refine lv_if_eq (tgt := 14) hx hb dX2_citizen_5 (by decide) (fun hc => ?_) (fun hc => ?_)
  · have hF := ift hc hF
    refine lv_iload_n hx hb dX2_citizen_14 rfl (lv_at hl 2 rfl) ?_
    by_cases hc0 : p2 = nI 0
    · have hF := ift hc0 hF
      refine lv_tableIn (off := 37) (tgt := 52) hx hb dX2_citizen_15 (by rw [hc0]; decide) (by rw [hc0]; decide) (by rw [hc0]; rfl) (by decide) ?_
      refine lv_aload_n hx hb dX2_citizen_52 rfl (lv_at hl 0 rfl) ?_
      refine va_get (D := (dC, dI)) (ci := 2) (v := .ref (a 1)) (C := RX2) (T := TX2) (N := 9) hx hb hts inw_X2_citizen_X2 hown hK hP 0 rfl rfl 0 (by decide) (hts (.fieldLink RX2 10 "DeniedOfEachOther" "now" "LDeniedOfEachOther$Town;") (List.mem_of_getElem? (i := 1) rfl)) (fun _ h9 => h9) rfl dX2_citizen_53 ?_
      refine va_getN (D := (dC, dI)) (ci := 1) (v := .ref (a 2)) (C := RX1) (T := TX1) (N := 8) hx hb hts inw_X2_citizen_X1 hown hK hP 1 rfl rfl 0 (by decide) (hNN.use 34 rfl) (fun _ h9 => h9) rfl dX2_citizen_56 ?_
      refine lv_iload_n hx hb dX2_citizen_59 rfl (lv_at hl 1 rfl) ?_
      refine cki hF (fun hi hF => ?_)
      refine va_iald (D := (dC, dI)) hx hb hK hP 2 0 rfl rfl hi dX2_citizen_60 ?_
      obtain rfl := Option.some.inj hF
      exact W.iret (v := (tW.1.1 p1.toNatClampNeg)) hx hb hr (fun t ht hW => ⟨⟨(tW.1.1 p1.toNatClampNeg), (), rfl, rfl, QB.of ht hP hD⟩, hS.F ht⟩) hS.2.2 dX2_citizen_61
    · have hF := iff_ hc0 hF
      by_cases hc1 : p2 = nI 1
      · have hF := ift hc1 hF
        refine lv_tableIn (off := 47) (tgt := 62) hx hb dX2_citizen_15 (by rw [hc1]; decide) (by rw [hc1]; decide) (by rw [hc1]; rfl) (by decide) ?_
        refine lv_aload_n hx hb dX2_citizen_62 rfl (lv_at hl 0 rfl) ?_
        refine va_get (D := (dC, dI)) (ci := 2) (v := .ref (a 1)) (C := RX2) (T := TX2) (N := 9) hx hb hts inw_X2_citizen_X2 hown hK hP 0 rfl rfl 0 (by decide) (hts (.fieldLink RX2 10 "DeniedOfEachOther" "now" "LDeniedOfEachOther$Town;") (List.mem_of_getElem? (i := 1) rfl)) (fun _ h9 => h9) rfl dX2_citizen_63 ?_
        refine va_getN (D := (dC, dI)) (ci := 1) (v := .ref (a 3)) (C := RX1) (T := TX1) (N := 8) hx hb hts inw_X2_citizen_X1 hown hK hP 1 rfl rfl 1 (by decide) (hNN.use 35 rfl) (fun _ h9 => h9) rfl dX2_citizen_66 ?_
        refine lv_iload_n hx hb dX2_citizen_69 rfl (lv_at hl 1 rfl) ?_
        refine cki hF (fun hi hF => ?_)
        refine va_iald (D := (dC, dI)) hx hb hK hP 3 0 rfl rfl hi dX2_citizen_70 ?_
        obtain rfl := Option.some.inj hF
        exact W.iret (v := (tW.1.2.1 p1.toNatClampNeg)) hx hb hr (fun t ht hW => ⟨⟨(tW.1.2.1 p1.toNatClampNeg), (), rfl, rfl, QB.of ht hP hD⟩, hS.F ht⟩) hS.2.2 dX2_citizen_71
      · have hF := iff_ hc1 hF
        by_cases hc2 : p2 = nI 2
        · have hF := ift hc2 hF
          refine lv_tableIn (off := 57) (tgt := 72) hx hb dX2_citizen_15 (by rw [hc2]; decide) (by rw [hc2]; decide) (by rw [hc2]; rfl) (by decide) ?_
          refine lv_aload_n hx hb dX2_citizen_72 rfl (lv_at hl 0 rfl) ?_
          refine va_get (D := (dC, dI)) (ci := 2) (v := .ref (a 1)) (C := RX2) (T := TX2) (N := 9) hx hb hts inw_X2_citizen_X2 hown hK hP 0 rfl rfl 0 (by decide) (hts (.fieldLink RX2 10 "DeniedOfEachOther" "now" "LDeniedOfEachOther$Town;") (List.mem_of_getElem? (i := 1) rfl)) (fun _ h9 => h9) rfl dX2_citizen_73 ?_
          refine va_getN (D := (dC, dI)) (ci := 1) (v := .ref (a 4)) (C := RX1) (T := TX1) (N := 8) hx hb hts inw_X2_citizen_X1 hown hK hP 1 rfl rfl 2 (by decide) (hNN.use 36 rfl) (fun _ h9 => h9) rfl dX2_citizen_76 ?_
          refine lv_iload_n hx hb dX2_citizen_79 rfl (lv_at hl 1 rfl) ?_
          refine cki hF (fun hi hF => ?_)
          refine va_iald (D := (dC, dI)) hx hb hK hP 4 0 rfl rfl hi dX2_citizen_80 ?_
          obtain rfl := Option.some.inj hF
          exact W.iret (v := (tW.1.2.2.1 p1.toNatClampNeg)) hx hb hr (fun t ht hW => ⟨⟨(tW.1.2.2.1 p1.toNatClampNeg), (), rfl, rfl, QB.of ht hP hD⟩, hS.F ht⟩) hS.2.2 dX2_citizen_81
        · have hF := iff_ hc2 hF
          by_cases hc3 : p2 = nI 3
          · have hF := ift hc3 hF
            refine lv_tableIn (off := 67) (tgt := 82) hx hb dX2_citizen_15 (by rw [hc3]; decide) (by rw [hc3]; decide) (by rw [hc3]; rfl) (by decide) ?_
            refine lv_aload_n hx hb dX2_citizen_82 rfl (lv_at hl 0 rfl) ?_
            refine va_get (D := (dC, dI)) (ci := 2) (v := .ref (a 1)) (C := RX2) (T := TX2) (N := 9) hx hb hts inw_X2_citizen_X2 hown hK hP 0 rfl rfl 0 (by decide) (hts (.fieldLink RX2 10 "DeniedOfEachOther" "now" "LDeniedOfEachOther$Town;") (List.mem_of_getElem? (i := 1) rfl)) (fun _ h9 => h9) rfl dX2_citizen_83 ?_
            refine lv_iload_n hx hb dX2_citizen_86 rfl (lv_at hl 1 rfl) ?_
            have hPc := hP.sub (ws' := (cwT cI (a 1) (a 2) (a 3) (a 4) (a 5) (a 6) tW.1)) [1, 2, 3, 4, 5, 6] rfl
            have hDc := hD.sub (ws' := (cwT cI (a 1) (a 2) (a 3) (a 4) (a 5) (a 6) tW.1)) [1, 2, 3, 4, 5, 6] (by decide) rfl
            have hFc := va_free (wc := (cwT cI (a 1) (a 2) (a 3) (a 4) (a 5) (a 6) tW.1)) hD hS hA [1, 2, 3, 4, 5, 6] rfl
            refine bd hF (fun r87 hG hF => ?_)
            refine va_calli (va_runVN (As := [.int p1]) (rest := []) ⟨hx, hb, hml, hown, hts⟩ (c_X1_isLiving l dC dI cI sf H.size N (a 1) (a 2) (a 3) (a 4) (a 5) (a 6) tW.1 p1 r87 hG) ⟨va_cnB 1 hts gX2_citizen_X1_isLiving_n85 rfl rfl rfl (hNN.at 10 rfl) (hts (.initialized RX1) (List.mem_of_getElem? (i := 13) rfl)) (by decide +kernel) ⟨Nat.le_of_ble_eq_true rfl, Nat.le_of_ble_eq_true rfl⟩, hts (.instanceMethod yX1_isLiving) (List.mem_of_getElem? (i := 12) rfl), hts (.selects RX1 yX1_isLiving yX1_isLiving) (List.mem_of_getElem? (i := 14) rfl)⟩ ⟨fun a U g mk q => ⟨q.1, q.2.call⟩, va_recv hK hP (ci := 1) (q0 := 1) rfl rfl, fun U hU hW => ⟨rfl, PB.of hU hW hPc hK hDc hNN hSF hS hFc⟩⟩ rfl rfl hl.1 rfl (lv_room (Nat.le_of_ble_eq_true rfl)) dX2_citizen_87 ⟨Nat.le_of_ble_eq_true rfl, Nat.le_of_ble_eq_true rfl⟩) hS (fun q _ h => hFc q h) hFc (fun z_ u_ t H locs ht hvm hw hB hz1 hk1 hS => ?_)
            subst z_
            obtain ⟨hP1, hD1⟩ := hB
            rw [ht] at hP1
            have hJ := vb_join (ws' := (cwX cI a tW)) hP hD [1, 2, 3, 4, 5, 6] [0, 7, 8, 9, 10, 11, 12, 13, 14, 15, 16, 17, 18, 19, 20, 21, 22, 23] [0, 18, 19, 20, 21, 22, 23, 1, 2, 3, 4, 5, 6, 7, 8, 9, 10, 11, 12, 13, 14, 15, 16, 17] rfl rfl (by decide) (by decide) hk1 hFc hP1 hD1 rfl (by decide) rfl
            clear hP hD hPc hDc hFc hP1 hD1 hk1 hz1 ht hvm hG
            obtain ⟨hP, hD⟩ := hJ
            refine lv_if_eq (tgt := 97) hx hb dX2_citizen_90 (by decide) (fun hc => ?_) (fun hc => ?_)
            · have hF := ift hc hF
              refine lv_iconst (v := nI 1) hx hb dX2_citizen_97 (by decide) ?_
              obtain rfl := Option.some.inj hF
              exact W.iret (v := (nI 1)) hx hb hr (fun t ht hW => ⟨⟨(nI 1), (), rfl, rfl, QB.of ht hP hD⟩, hS.F ht⟩) hS.2.2 dX2_citizen_98
            · have hF := iff_ hc hF
              refine lv_iconst (v := nI 0) hx hb dX2_citizen_93 (by decide) ?_
              refine lv_goto (tgt := 98) hx hb dX2_citizen_94 (by decide) ?_
              obtain rfl := Option.some.inj hF
              exact W.iret (v := (nI 0)) hx hb hr (fun t ht hW => ⟨⟨(nI 0), (), rfl, rfl, QB.of ht hP hD⟩, hS.F ht⟩) hS.2.2 dX2_citizen_98
          · have hF := iff_ hc3 hF
            by_cases hc4 : p2 = nI 4
            · have hF := ift hc4 hF
              refine lv_tableIn (off := 84) (tgt := 99) hx hb dX2_citizen_15 (by rw [hc4]; decide) (by rw [hc4]; decide) (by rw [hc4]; rfl) (by decide) ?_
              refine lv_aload_n hx hb dX2_citizen_99 rfl (lv_at hl 0 rfl) ?_
              refine va_get (D := (dC, dI)) (ci := 2) (v := .ref (a 1)) (C := RX2) (T := TX2) (N := 9) hx hb hts inw_X2_citizen_X2 hown hK hP 0 rfl rfl 0 (by decide) (hts (.fieldLink RX2 10 "DeniedOfEachOther" "now" "LDeniedOfEachOther$Town;") (List.mem_of_getElem? (i := 1) rfl)) (fun _ h9 => h9) rfl dX2_citizen_100 ?_
              refine lv_iload_n hx hb dX2_citizen_103 rfl (lv_at hl 1 rfl) ?_
              have hPc := hP.sub (ws' := (cwT cI (a 1) (a 2) (a 3) (a 4) (a 5) (a 6) tW.1)) [1, 2, 3, 4, 5, 6] rfl
              have hDc := hD.sub (ws' := (cwT cI (a 1) (a 2) (a 3) (a 4) (a 5) (a 6) tW.1)) [1, 2, 3, 4, 5, 6] (by decide) rfl
              have hFc := va_free (wc := (cwT cI (a 1) (a 2) (a 3) (a 4) (a 5) (a 6) tW.1)) hD hS hA [1, 2, 3, 4, 5, 6] rfl
              refine bd hF (fun r104 hG hF => ?_)
              refine va_calli (va_runVN (As := [.int p1]) (rest := []) ⟨hx, hb, hml, hown, hts⟩ (c_X1_lifeOf l dC dI cI sf H.size N (a 1) (a 2) (a 3) (a 4) (a 5) (a 6) tW.1 p1 r104 hG) ⟨va_cnB 1 hts gX2_citizen_X1_lifeOf_n88 rfl rfl rfl (hNN.at 11 rfl) (hts (.initialized RX1) (List.mem_of_getElem? (i := 13) rfl)) (by decide +kernel) ⟨Nat.le_of_ble_eq_true rfl, Nat.le_of_ble_eq_true rfl⟩, hts (.instanceMethod yX1_lifeOf) (List.mem_of_getElem? (i := 18) rfl), hts (.selects RX1 yX1_lifeOf yX1_lifeOf) (List.mem_of_getElem? (i := 19) rfl)⟩ ⟨fun a U g mk q => ⟨q.1, q.2.call⟩, va_recv hK hP (ci := 1) (q0 := 1) rfl rfl, fun U hU hW => ⟨rfl, PB.of hU hW hPc hK hDc hNN hSF hS hFc⟩⟩ rfl rfl hl.1 rfl (lv_room (Nat.le_of_ble_eq_true rfl)) dX2_citizen_104 ⟨Nat.le_of_ble_eq_true rfl, Nat.le_of_ble_eq_true rfl⟩) hS (fun q _ h => hFc q h) hFc (fun z_ u_ t H locs ht hvm hw hB hz1 hk1 hS => ?_)
              subst z_
              obtain ⟨hP1, hD1⟩ := hB
              rw [ht] at hP1
              have hJ := vb_join (ws' := (cwX cI a tW)) hP hD [1, 2, 3, 4, 5, 6] [0, 7, 8, 9, 10, 11, 12, 13, 14, 15, 16, 17, 18, 19, 20, 21, 22, 23] [0, 18, 19, 20, 21, 22, 23, 1, 2, 3, 4, 5, 6, 7, 8, 9, 10, 11, 12, 13, 14, 15, 16, 17] rfl rfl (by decide) (by decide) hk1 hFc hP1 hD1 rfl (by decide) rfl
              clear hP hD hPc hDc hFc hP1 hD1 hk1 hz1 ht hvm hG
              obtain ⟨hP, hD⟩ := hJ
              obtain rfl := Option.some.inj hF
              exact W.iret (v := r104) hx hb hr (fun t ht hW => ⟨⟨r104, (), rfl, rfl, QB.of ht hP hD⟩, hS.F ht⟩) hS.2.2 dX2_citizen_107
            · have hF := iff_ hc4 hF
              by_cases hc5 : p2 = nI 5
              · have hF := ift hc5 hF
                refine lv_tableIn (off := 93) (tgt := 108) hx hb dX2_citizen_15 (by rw [hc5]; decide) (by rw [hc5]; decide) (by rw [hc5]; rfl) (by decide) ?_
                refine lv_aload_n hx hb dX2_citizen_108 rfl (lv_at hl 0 rfl) ?_
                refine va_get (D := (dC, dI)) (ci := 2) (v := .ref (a 1)) (C := RX2) (T := TX2) (N := 9) hx hb hts inw_X2_citizen_X2 hown hK hP 0 rfl rfl 0 (by decide) (hts (.fieldLink RX2 10 "DeniedOfEachOther" "now" "LDeniedOfEachOther$Town;") (List.mem_of_getElem? (i := 1) rfl)) (fun _ h9 => h9) rfl dX2_citizen_109 ?_
                refine lv_iload_n hx hb dX2_citizen_112 rfl (lv_at hl 1 rfl) ?_
                have hPc := hP.sub (ws' := (cwT cI (a 1) (a 2) (a 3) (a 4) (a 5) (a 6) tW.1)) [1, 2, 3, 4, 5, 6] rfl
                have hDc := hD.sub (ws' := (cwT cI (a 1) (a 2) (a 3) (a 4) (a 5) (a 6) tW.1)) [1, 2, 3, 4, 5, 6] (by decide) rfl
                have hFc := va_free (wc := (cwT cI (a 1) (a 2) (a 3) (a 4) (a 5) (a 6) tW.1)) hD hS hA [1, 2, 3, 4, 5, 6] rfl
                refine bd hF (fun r113 hG hF => ?_)
                refine va_calli (va_runVN (As := [.int p1]) (rest := []) ⟨hx, hb, hml, hown, hts⟩ (c_X1_topicsOf l dC dI cI sf H.size N (a 1) (a 2) (a 3) (a 4) (a 5) (a 6) tW.1 p1 r113 hG) ⟨va_cnB 1 hts gX2_citizen_X1_topicsOf_n91 rfl rfl rfl (hNN.at 12 rfl) (hts (.initialized RX1) (List.mem_of_getElem? (i := 13) rfl)) (by decide +kernel) ⟨Nat.le_of_ble_eq_true rfl, Nat.le_of_ble_eq_true rfl⟩, hts (.instanceMethod yX1_topicsOf) (List.mem_of_getElem? (i := 23) rfl), hts (.selects RX1 yX1_topicsOf yX1_topicsOf) (List.mem_of_getElem? (i := 24) rfl)⟩ ⟨fun a U g mk q => ⟨q.1, q.2.call⟩, va_recv hK hP (ci := 1) (q0 := 1) rfl rfl, fun U hU hW => ⟨rfl, PB.of hU hW hPc hK hDc hNN hSF hS hFc⟩⟩ rfl rfl hl.1 rfl (lv_room (Nat.le_of_ble_eq_true rfl)) dX2_citizen_113 ⟨Nat.le_of_ble_eq_true rfl, Nat.le_of_ble_eq_true rfl⟩) hS (fun q _ h => hFc q h) hFc (fun z_ u_ t H locs ht hvm hw hB hz1 hk1 hS => ?_)
                subst z_
                obtain ⟨hP1, hD1⟩ := hB
                rw [ht] at hP1
                have hJ := vb_join (ws' := (cwX cI a tW)) hP hD [1, 2, 3, 4, 5, 6] [0, 7, 8, 9, 10, 11, 12, 13, 14, 15, 16, 17, 18, 19, 20, 21, 22, 23] [0, 18, 19, 20, 21, 22, 23, 1, 2, 3, 4, 5, 6, 7, 8, 9, 10, 11, 12, 13, 14, 15, 16, 17] rfl rfl (by decide) (by decide) hk1 hFc hP1 hD1 rfl (by decide) rfl
                clear hP hD hPc hDc hFc hP1 hD1 hk1 hz1 ht hvm hG
                obtain ⟨hP, hD⟩ := hJ
                obtain rfl := Option.some.inj hF
                exact W.iret (v := r113) hx hb hr (fun t ht hW => ⟨⟨r113, (), rfl, rfl, QB.of ht hP hD⟩, hS.F ht⟩) hS.2.2 dX2_citizen_116
              · have hF := iff_ hc5 hF
                refine lv_tableOut (tgt := 117) hx hb dX2_citizen_15 (tb_out (lo := 0) (hi := 5) (by decide) (fun k h1 h2 => by rcases (show k = 0 ∨ k = 1 ∨ k = 2 ∨ k = 3 ∨ k = 4 ∨ k = 5 by omega) with rfl | rfl | rfl | rfl | rfl | rfl <;> assumption)) (by decide) ?_
                refine lv_aload_n hx hb dX2_citizen_117 rfl (lv_at hl 0 rfl) ?_
                refine lv_bipush (v := (-2)) hx hb dX2_citizen_118 (by decide) ?_
                have hPc := hP.sub (ws' := (cwX cI a tW)) [0, 1, 2, 3, 4, 5, 6, 7, 8, 9, 10, 11, 12, 13, 14, 15, 16, 17, 18, 19, 20, 21, 22, 23] rfl
                have hDc := hD.sub (ws' := (cwX cI a tW)) [0, 1, 2, 3, 4, 5, 6, 7, 8, 9, 10, 11, 12, 13, 14, 15, 16, 17, 18, 19, 20, 21, 22, 23] (by decide) rfl
                have hFc := va_free (wc := (cwX cI a tW)) hD hS hA [0, 1, 2, 3, 4, 5, 6, 7, 8, 9, 10, 11, 12, 13, 14, 15, 16, 17, 18, 19, 20, 21, 22, 23] rfl
                refine bd hF (fun r120 hG hF => ?_)
                refine va_calli (va_runV (As := [.int (-2)]) (rest := []) ⟨hx, hb, hml, hown, hts⟩ (c_X2_refuse l dC dI cI sf H.size N a tW (-2) r120 hG) (cwV 1 hts gX2_citizen_X2_refuse rfl rfl rfl (by decide +kernel) ⟨Nat.le_of_ble_eq_true rfl, Nat.le_of_ble_eq_true rfl⟩) ⟨fun a U g mk q => ⟨q.1, q.2.call⟩, va_recv hK hP (ci := 2) (q0 := 0) rfl rfl, fun U hU hW => ⟨rfl, PB.of hU hW hPc hK hDc hNN hSF hS hFc⟩⟩ rfl rfl hl.1 rfl (lv_room (Nat.le_of_ble_eq_true rfl)) dX2_citizen_120 ⟨Nat.le_of_ble_eq_true rfl, Nat.le_of_ble_eq_true rfl⟩) hS (fun q _ h => hFc q h) hFc (fun z_ u_ t H locs ht hvm hw hB hz1 hk1 hS => ?_)
                subst z_
                obtain ⟨hP1, hD1⟩ := hB
                rw [ht] at hP1
                have hJ := vb_join (ws' := (cwX cI a r120.2)) hP hD [0, 1, 2, 3, 4, 5, 6, 7, 8, 9, 10, 11, 12, 13, 14, 15, 16, 17, 18, 19, 20, 21, 22, 23] [] [0, 1, 2, 3, 4, 5, 6, 7, 8, 9, 10, 11, 12, 13, 14, 15, 16, 17, 18, 19, 20, 21, 22, 23] rfl rfl (by decide) (by decide) hk1 hFc hP1 hD1 rfl (by decide) rfl
                clear hP hD hPc hDc hFc hP1 hD1 hk1 hz1 ht hvm hG
                obtain ⟨hP, hD⟩ := hJ
                obtain rfl := Option.some.inj hF
                exact W.iret (v := r120.1) hx hb hr (fun t ht hW => ⟨⟨r120.1, (), rfl, rfl, QB.of ht hP hD⟩, hS.F ht⟩) hS.2.2 dX2_citizen_123
  · have hF := iff_ hc hF
    refine lv_aload_n hx hb dX2_citizen_8 rfl (lv_at hl 0 rfl) ?_
    refine lv_iconst (v := (-1)) hx hb dX2_citizen_9 (by decide) ?_
    have hPc := hP.sub (ws' := (cwX cI a tW)) [0, 1, 2, 3, 4, 5, 6, 7, 8, 9, 10, 11, 12, 13, 14, 15, 16, 17, 18, 19, 20, 21, 22, 23] rfl
    have hDc := hD.sub (ws' := (cwX cI a tW)) [0, 1, 2, 3, 4, 5, 6, 7, 8, 9, 10, 11, 12, 13, 14, 15, 16, 17, 18, 19, 20, 21, 22, 23] (by decide) rfl
    have hFc := va_free (wc := (cwX cI a tW)) hD hS hA [0, 1, 2, 3, 4, 5, 6, 7, 8, 9, 10, 11, 12, 13, 14, 15, 16, 17, 18, 19, 20, 21, 22, 23] rfl
    refine bd hF (fun r10 hG hF => ?_)
    refine va_calli (va_runV (As := [.int (-1)]) (rest := []) ⟨hx, hb, hml, hown, hts⟩ (c_X2_refuse l dC dI cI sf H.size N a tW (-1) r10 hG) (cwV 1 hts gX2_citizen_X2_refuse rfl rfl rfl (by decide +kernel) ⟨Nat.le_of_ble_eq_true rfl, Nat.le_of_ble_eq_true rfl⟩) ⟨fun a U g mk q => ⟨q.1, q.2.call⟩, va_recv hK hP (ci := 2) (q0 := 0) rfl rfl, fun U hU hW => ⟨rfl, PB.of hU hW hPc hK hDc hNN hSF hS hFc⟩⟩ rfl rfl hl.1 rfl (lv_room (Nat.le_of_ble_eq_true rfl)) dX2_citizen_10 ⟨Nat.le_of_ble_eq_true rfl, Nat.le_of_ble_eq_true rfl⟩) hS (fun q _ h => hFc q h) hFc (fun z_ u_ t H locs ht hvm hw hB hz1 hk1 hS => ?_)
    subst z_
    obtain ⟨hP1, hD1⟩ := hB
    rw [ht] at hP1
    have hJ := vb_join (ws' := (cwX cI a r10.2)) hP hD [0, 1, 2, 3, 4, 5, 6, 7, 8, 9, 10, 11, 12, 13, 14, 15, 16, 17, 18, 19, 20, 21, 22, 23] [] [0, 1, 2, 3, 4, 5, 6, 7, 8, 9, 10, 11, 12, 13, 14, 15, 16, 17, 18, 19, 20, 21, 22, 23] rfl rfl (by decide) (by decide) hk1 hFc hP1 hD1 rfl (by decide) rfl
    clear hP hD hPc hDc hFc hP1 hD1 hk1 hz1 ht hvm hG
    obtain ⟨hP, hD⟩ := hJ
    obtain rfl := Option.some.inj hF
    exact W.iret (v := r10.1) hx hb hr (fun t ht hW => ⟨⟨r10.1, (), rfl, rfl, QB.of ht hP hD⟩, hS.F ht⟩) hS.2.2 dX2_citizen_13
theorem inw_X2_clear_X2 : ∀ w ∈ u_ws RX2 TX2 9, w ∈ wsX2_clear := fun _ h => List.mem_cons_of_mem _ (List.mem_append_right _ h)
set_option maxHeartbeats 4000000 in
set_option maxRecDepth 100000 in
theorem c_X2_clear (l : Launch) (dC : Nat → ClassId) (dI : Nat → Nat → Nat) (cI : ClassId) (sf : SFP) (sz : Nat) (N : Nat) (a : Nat → Nat) (tW : XS) (r : (Int32 × XS)) (hF : F_X2_clear N tW = some r) : Met l yX2_clear wsX2_clear ({ frames := 0, cells := 0, slots := 0, locals := 0 }) (va_Pc [.ref (a 0)] (PB (dC, dI) cI (cwX cI a tW) sz sf)) (va_Qi (fun (z : Int32) (_ : Unit) => z = r.1) (fun _ t => QB (dC, dI) (cwX cI a r.2) (va_A (cwX cI a tW) sz) t) (va_A (cwX cI a tW) sz)) 0 0 (va_A (cwX cI a tW) sz) := by
  refine Met.ofW (cc := cX2_clear) (maxL := 2) (ret := (some .int)) (by decide) rfl ?_
  intro p e s m args below meth c s₁ B hml hv
  obtain ⟨rfl, hsz, hP, hK, hD0, hNN, hSF⟩ := hv
  have hx := B.exec
  have hb := B.bytes
  have hr := B.returns
  have hts := atoms_spec (ws := wsX2_clear) B.pre
  have hown : s.vm.findClass RX2 = some m.cls := findClass_of_methodNamed B.named
  have hlocks := B.notSynchronized
  subst hsz
  have hD := hD0.self (sz := s.heap.size)
  generalize hAe : va_A (cwX cI a tW) s.heap.size = A at hD hSF ⊢
  have hA : ∀ q : Nat, s.heap.size ≤ q → A q := fun q h => by rw [← hAe]; exact Or.inr h
  clear hAe hD0
  have hS : va_S A s.heap s.heap [] := va_S.rf
  have hl := lv_entry ([.ref (a 0)]) (n := 2) (Nat.le_of_ble_eq_true rfl)
  rw [lg_entry_eq]
  generalize (lg_sl ([.ref (a 0)]) ++ List.replicate (2 - (lg_sl ([.ref (a 0)])).length) Slot.unset).toArray = ls at hl ⊢
  have hl : lv_has ls 2 [(0, .ref (a 0))] := hl
  rw [F_X2_clear] at hF
  refine lv_aload_n hx hb dX2_clear_0 rfl (lv_at hl 0 rfl) ?_
  refine va_get (D := (dC, dI)) (ci := 2) (v := .int tW.2.2.2.2.2.2.1) (C := RX2) (T := TX2) (N := 9) hx hb hts inw_X2_clear_X2 hown hK hP 0 rfl rfl 6 (by decide) (hts (.fieldLink RX2 37 "DeniedOfEachOther" "rowSize" "I") (List.mem_of_getElem? (i := 1) rfl)) (fun _ h9 => h9) rfl dX2_clear_1 ?_
  refine lv_istore_n (lv' := [(1, .int tW.2.2.2.2.2.2.1), (0, .ref (a 0))]) hx hb dX2_clear_4 rfl hl (by decide) rfl (fun ls hl => ?_)
  refine lv_aload_n hx hb dX2_clear_5 rfl (lv_at hl 1 rfl) ?_
  refine lv_iconst (v := nI 0) hx hb dX2_clear_6 (by decide) ?_
  refine va_put (D := (dC, dI)) (ci := 2) (v := .int (nI 0)) (ty := .int) (C := RX2) (T := TX2) (N := 9) hx hb hts inw_X2_clear_X2 tyX2 tyX2_ok nmX2 hown hK hP hD hS 0 rfl rfl 6 (by decide) (hts (.fieldLink RX2 37 "DeniedOfEachOther" "rowSize" "I") (List.mem_of_getElem? (i := 1) rfl)) (fun _ h9 => h9) rfl (by decide +kernel) rfl rfl (Nat.le_of_ble_eq_true rfl) dX2_clear_7 (fun H locs hP hD hS => ?_)
  have hP : va_P (dC, dI) vwCl (cwX cI a (tW.1, tW.2.1, tW.2.2.1, tW.2.2.2.1, tW.2.2.2.2.1, tW.2.2.2.2.2.1, (nI 0), tW.2.2.2.2.2.2.2.1, tW.2.2.2.2.2.2.2.2)) H := hP
  have hD : va_D A (cwX cI a (tW.1, tW.2.1, tW.2.2.1, tW.2.2.2.1, tW.2.2.2.2.1, tW.2.2.2.2.2.1, (nI 0), tW.2.2.2.2.2.2.2.1, tW.2.2.2.2.2.2.2.2)) := hD
  refine lv_iload_n hx hb dX2_clear_10 rfl (lv_at hl 0 rfl) ?_
  obtain rfl := Option.some.inj hF
  exact W.iret (v := tW.2.2.2.2.2.2.1) hx hb hr (fun t ht hW => ⟨⟨tW.2.2.2.2.2.2.1, (), rfl, rfl, QB.of ht hP hD⟩, hS.F ht⟩) hS.2.2 dX2_clear_11
theorem inw_X2_count_X2 : ∀ w ∈ u_ws RX2 TX2 9, w ∈ wsX2_count := fun _ h => List.mem_cons_of_mem _ (List.mem_append_left _ (List.mem_append_left _ (List.mem_append_right _ h)))
theorem inw_X2_count_X1 : ∀ w ∈ u_ws RX1 TX1 8, w ∈ wsX2_count := fun _ h => List.mem_cons_of_mem _ (List.mem_append_left _ (List.mem_append_right _ h))
theorem inw_X2_count_X0 : ∀ w ∈ u_ws RX0 TX0 2, w ∈ wsX2_count := fun _ h => List.mem_cons_of_mem _ (List.mem_append_right _ h)
set_option maxHeartbeats 4000000 in
set_option maxRecDepth 100000 in
theorem c_X2_count (l : Launch) (dC : Nat → ClassId) (dI : Nat → Nat → Nat) (cI : ClassId) (sf : SFP) (sz : Nat) (N : Nat) (a : Nat → Nat) (tW : XS) (p1 : Int32) (r : Int32) (hF : F_X2_count N tW p1 = some r) : Met l yX2_count wsX2_count ({ frames := 4, cells := 0, slots := 0, locals := 84 }) (va_Pc [.ref (a 0), .int p1] (PB (dC, dI) cI (cwX cI a tW) sz sf)) (va_Qi (fun (z : Int32) (_ : Unit) => z = r) (fun _ t => QB (dC, dI) (cwX cI a tW) (va_A (cwX cI a tW) sz) t) (va_A (cwX cI a tW) sz)) 0 0 (va_A (cwX cI a tW) sz) := by
  refine Met.ofW (cc := cX2_count) (maxL := 2) (ret := (some .int)) (by decide) rfl ?_
  intro p e s m args below meth c s₁ B hml hv
  obtain ⟨rfl, hsz, hP, hK, hD0, hNN, hSF⟩ := hv
  have hx := B.exec
  have hb := B.bytes
  have hr := B.returns
  have hts := atoms_spec (ws := wsX2_count) B.pre
  have hown : s.vm.findClass RX2 = some m.cls := findClass_of_methodNamed B.named
  have hlocks := B.notSynchronized
  subst hsz
  have hD := hD0.self (sz := s.heap.size)
  generalize hAe : va_A (cwX cI a tW) s.heap.size = A at hD hSF ⊢
  have hA : ∀ q : Nat, s.heap.size ≤ q → A q := fun q h => by rw [← hAe]; exact Or.inr h
  clear hAe hD0
  have hS : va_S A s.heap s.heap [] := va_S.rf
  have hl := lv_entry ([.ref (a 0), .int p1]) (n := 2) (Nat.le_of_ble_eq_true rfl)
  rw [lg_entry_eq]
  generalize (lg_sl ([.ref (a 0), .int p1]) ++ List.replicate (2 - (lg_sl ([.ref (a 0), .int p1])).length) Slot.unset).toArray = ls at hl ⊢
  have hl : lv_has ls 2 [(0, .ref (a 0)), (1, .int p1)] := hl
  rw [F_X2_count] at hF
  refine lv_iload_n hx hb dX2_count_0 rfl (lv_at hl 1 rfl) ?_
  refine lv_bipush (v := nI 11) hx hb dX2_count_1 (by decide) ?_
  refine vW_have (fun R av Q => ∀ (x1 : Int32) (H : Heap) (locs : List Loc) (ls : Array Slot), F_X2_count_22 N tW x1 = some r → va_P (dC, dI) vwCl (cwX cI a tW) H → va_D A (cwX cI a tW) → va_S A s.heap H locs → lv_has ls 2 [(0, .ref (a 0)), (1, .int x1)] → W p l e R s m av below meth c H locs 0 0 Q (F0 m 22 ls [])) ?_ (fun kJ22 => ?_)
  · 
    intro x1 H locs ls hF hP hD hS hl
    rw [F_X2_count_22] at hF
    refine lv_iload_n hx hb dX2_count_22 rfl (lv_at hl 1 rfl) ?_
    by_cases hc0 : x1 = nI 0
    · have hF := ift hc0 hF
      refine lv_tableIn (off := 45) (tgt := 68) hx hb dX2_count_23 (by rw [hc0]; decide) (by rw [hc0]; decide) (by rw [hc0]; rfl) (by decide) ?_
      refine lv_aload_n hx hb dX2_count_68 rfl (lv_at hl 0 rfl) ?_
      refine va_get (D := (dC, dI)) (ci := 2) (v := .ref (a 1)) (C := RX2) (T := TX2) (N := 9) hx hb hts inw_X2_count_X2 hown hK hP 0 rfl rfl 0 (by decide) (hts (.fieldLink RX2 10 "DeniedOfEachOther" "now" "LDeniedOfEachOther$Town;") (List.mem_of_getElem? (i := 2) rfl)) (fun _ h9 => h9) rfl dX2_count_69 ?_
      refine va_getN (D := (dC, dI)) (ci := 1) (v := .int tW.1.2.2.2.2.2.1) (C := RX1) (T := TX1) (N := 8) hx hb hts inw_X2_count_X1 hown hK hP 1 rfl rfl 5 (by decide) (hNN.use 37 rfl) (fun _ h9 => h9) rfl dX2_count_72 ?_
      obtain rfl := Option.some.inj hF
      exact W.iret (v := tW.1.2.2.2.2.2.1) hx hb hr (fun t ht hW => ⟨⟨tW.1.2.2.2.2.2.1, (), rfl, rfl, QB.of ht hP hD⟩, hS.F ht⟩) hS.2.2 dX2_count_75
    · have hF := iff_ hc0 hF
      by_cases hc1 : x1 = nI 1
      · have hF := ift hc1 hF
        refine lv_tableIn (off := 53) (tgt := 76) hx hb dX2_count_23 (by rw [hc1]; decide) (by rw [hc1]; decide) (by rw [hc1]; rfl) (by decide) ?_
        refine lv_aload_n hx hb dX2_count_76 rfl (lv_at hl 0 rfl) ?_
        refine va_get (D := (dC, dI)) (ci := 2) (v := .ref (a 1)) (C := RX2) (T := TX2) (N := 9) hx hb hts inw_X2_count_X2 hown hK hP 0 rfl rfl 0 (by decide) (hts (.fieldLink RX2 10 "DeniedOfEachOther" "now" "LDeniedOfEachOther$Town;") (List.mem_of_getElem? (i := 2) rfl)) (fun _ h9 => h9) rfl dX2_count_77 ?_
        refine va_getN (D := (dC, dI)) (ci := 1) (v := .int tW.1.2.2.2.2.2.2.2) (C := RX1) (T := TX1) (N := 8) hx hb hts inw_X2_count_X1 hown hK hP 1 rfl rfl 7 (by decide) (hNN.use 39 rfl) (fun _ h9 => h9) rfl dX2_count_80 ?_
        obtain rfl := Option.some.inj hF
        exact W.iret (v := tW.1.2.2.2.2.2.2.2) hx hb hr (fun t ht hW => ⟨⟨tW.1.2.2.2.2.2.2.2, (), rfl, rfl, QB.of ht hP hD⟩, hS.F ht⟩) hS.2.2 dX2_count_83
      · have hF := iff_ hc1 hF
        by_cases hc2 : x1 = nI 2
        · have hF := ift hc2 hF
          refine lv_tableIn (off := 61) (tgt := 84) hx hb dX2_count_23 (by rw [hc2]; decide) (by rw [hc2]; decide) (by rw [hc2]; rfl) (by decide) ?_
          refine lv_aload_n hx hb dX2_count_84 rfl (lv_at hl 0 rfl) ?_
          refine va_get (D := (dC, dI)) (ci := 2) (v := .ref (a 1)) (C := RX2) (T := TX2) (N := 9) hx hb hts inw_X2_count_X2 hown hK hP 0 rfl rfl 0 (by decide) (hts (.fieldLink RX2 10 "DeniedOfEachOther" "now" "LDeniedOfEachOther$Town;") (List.mem_of_getElem? (i := 2) rfl)) (fun _ h9 => h9) rfl dX2_count_85 ?_
          have hPc := hP.sub (ws' := (cwT cI (a 1) (a 2) (a 3) (a 4) (a 5) (a 6) tW.1)) [1, 2, 3, 4, 5, 6] rfl
          have hDc := hD.sub (ws' := (cwT cI (a 1) (a 2) (a 3) (a 4) (a 5) (a 6) tW.1)) [1, 2, 3, 4, 5, 6] (by decide) rfl
          have hFc := va_free (wc := (cwT cI (a 1) (a 2) (a 3) (a 4) (a 5) (a 6) tW.1)) hD hS hA [1, 2, 3, 4, 5, 6] rfl
          refine bd hF (fun r88 hG hF => ?_)
          refine va_calli (va_runVN (As := []) (rest := []) ⟨hx, hb, hml, hown, hts⟩ (c_X1_howManyLive l dC dI cI sf H.size N (a 1) (a 2) (a 3) (a 4) (a 5) (a 6) tW.1 r88 hG) ⟨va_cnB 0 hts gX2_count_X1_howManyLive_n111 rfl rfl rfl (hNN.at 17 rfl) (hts (.initialized RX1) (List.mem_of_getElem? (i := 6) rfl)) (by decide +kernel) ⟨Nat.le_of_ble_eq_true rfl, Nat.le_of_ble_eq_true rfl⟩, hts (.instanceMethod yX1_howManyLive) (List.mem_of_getElem? (i := 5) rfl), hts (.selects RX1 yX1_howManyLive yX1_howManyLive) (List.mem_of_getElem? (i := 7) rfl)⟩ ⟨fun a U g mk q => ⟨q.1, q.2.call⟩, va_recv hK hP (ci := 1) (q0 := 1) rfl rfl, fun U hU hW => ⟨rfl, PB.of hU hW hPc hK hDc hNN hSF hS hFc⟩⟩ rfl rfl hl.1 rfl (lv_room (Nat.le_of_ble_eq_true rfl)) dX2_count_88 ⟨Nat.le_of_ble_eq_true rfl, Nat.le_of_ble_eq_true rfl⟩) hS (fun q _ h => hFc q h) hFc (fun z_ u_ t H locs ht hvm hw hB hz1 hk1 hS => ?_)
          subst z_
          obtain ⟨hP1, hD1⟩ := hB
          rw [ht] at hP1
          have hJ := vb_join (ws' := (cwX cI a tW)) hP hD [1, 2, 3, 4, 5, 6] [0, 7, 8, 9, 10, 11, 12, 13, 14, 15, 16, 17, 18, 19, 20, 21, 22, 23] [0, 18, 19, 20, 21, 22, 23, 1, 2, 3, 4, 5, 6, 7, 8, 9, 10, 11, 12, 13, 14, 15, 16, 17] rfl rfl (by decide) (by decide) hk1 hFc hP1 hD1 rfl (by decide) rfl
          clear hP hD hPc hDc hFc hP1 hD1 hk1 hz1 ht hvm hG
          obtain ⟨hP, hD⟩ := hJ
          obtain rfl := Option.some.inj hF
          exact W.iret (v := r88) hx hb hr (fun t ht hW => ⟨⟨r88, (), rfl, rfl, QB.of ht hP hD⟩, hS.F ht⟩) hS.2.2 dX2_count_91
        · have hF := iff_ hc2 hF
          by_cases hc3 : x1 = nI 3
          · have hF := ift hc3 hF
            refine lv_tableIn (off := 69) (tgt := 92) hx hb dX2_count_23 (by rw [hc3]; decide) (by rw [hc3]; decide) (by rw [hc3]; rfl) (by decide) ?_
            refine lv_aload_n hx hb dX2_count_92 rfl (lv_at hl 0 rfl) ?_
            refine va_get (D := (dC, dI)) (ci := 2) (v := .ref (a 1)) (C := RX2) (T := TX2) (N := 9) hx hb hts inw_X2_count_X2 hown hK hP 0 rfl rfl 0 (by decide) (hts (.fieldLink RX2 10 "DeniedOfEachOther" "now" "LDeniedOfEachOther$Town;") (List.mem_of_getElem? (i := 2) rfl)) (fun _ h9 => h9) rfl dX2_count_93 ?_
            have hPc := hP.sub (ws' := (cwT cI (a 1) (a 2) (a 3) (a 4) (a 5) (a 6) tW.1)) [1, 2, 3, 4, 5, 6] rfl
            have hDc := hD.sub (ws' := (cwT cI (a 1) (a 2) (a 3) (a 4) (a 5) (a 6) tW.1)) [1, 2, 3, 4, 5, 6] (by decide) rfl
            have hFc := va_free (wc := (cwT cI (a 1) (a 2) (a 3) (a 4) (a 5) (a 6) tW.1)) hD hS hA [1, 2, 3, 4, 5, 6] rfl
            refine bd hF (fun r96 hG hF => ?_)
            refine va_calli (va_runVN (As := []) (rest := []) ⟨hx, hb, hml, hown, hts⟩ (c_X1_bookSize l dC dI cI sf H.size N (a 1) (a 2) (a 3) (a 4) (a 5) (a 6) tW.1 r96 hG) ⟨va_cnB 0 hts gX2_count_X1_bookSize_n117 rfl rfl rfl (hNN.at 19 rfl) (hts (.initialized RX1) (List.mem_of_getElem? (i := 6) rfl)) (by decide +kernel) ⟨Nat.le_of_ble_eq_true rfl, Nat.le_of_ble_eq_true rfl⟩, hts (.instanceMethod yX1_bookSize) (List.mem_of_getElem? (i := 17) rfl), hts (.selects RX1 yX1_bookSize yX1_bookSize) (List.mem_of_getElem? (i := 18) rfl)⟩ ⟨fun a U g mk q => ⟨q.1, q.2.call⟩, va_recv hK hP (ci := 1) (q0 := 1) rfl rfl, fun U hU hW => ⟨rfl, PB.of hU hW hPc hK hDc hNN hSF hS hFc⟩⟩ rfl rfl hl.1 rfl (lv_room (Nat.le_of_ble_eq_true rfl)) dX2_count_96 ⟨Nat.le_of_ble_eq_true rfl, Nat.le_of_ble_eq_true rfl⟩) hS (fun q _ h => hFc q h) hFc (fun z_ u_ t H locs ht hvm hw hB hz1 hk1 hS => ?_)
            subst z_
            obtain ⟨hP1, hD1⟩ := hB
            rw [ht] at hP1
            have hJ := vb_join (ws' := (cwX cI a tW)) hP hD [1, 2, 3, 4, 5, 6] [0, 7, 8, 9, 10, 11, 12, 13, 14, 15, 16, 17, 18, 19, 20, 21, 22, 23] [0, 18, 19, 20, 21, 22, 23, 1, 2, 3, 4, 5, 6, 7, 8, 9, 10, 11, 12, 13, 14, 15, 16, 17] rfl rfl (by decide) (by decide) hk1 hFc hP1 hD1 rfl (by decide) rfl
            clear hP hD hPc hDc hFc hP1 hD1 hk1 hz1 ht hvm hG
            obtain ⟨hP, hD⟩ := hJ
            obtain rfl := Option.some.inj hF
            exact W.iret (v := r96) hx hb hr (fun t ht hW => ⟨⟨r96, (), rfl, rfl, QB.of ht hP hD⟩, hS.F ht⟩) hS.2.2 dX2_count_99
          · have hF := iff_ hc3 hF
            by_cases hc4 : x1 = nI 4
            · have hF := ift hc4 hF
              refine lv_tableIn (off := 77) (tgt := 100) hx hb dX2_count_23 (by rw [hc4]; decide) (by rw [hc4]; decide) (by rw [hc4]; rfl) (by decide) ?_
              refine lv_aload_n hx hb dX2_count_100 rfl (lv_at hl 0 rfl) ?_
              refine va_get (D := (dC, dI)) (ci := 2) (v := .ref (a 1)) (C := RX2) (T := TX2) (N := 9) hx hb hts inw_X2_count_X2 hown hK hP 0 rfl rfl 0 (by decide) (hts (.fieldLink RX2 10 "DeniedOfEachOther" "now" "LDeniedOfEachOther$Town;") (List.mem_of_getElem? (i := 2) rfl)) (fun _ h9 => h9) rfl dX2_count_101 ?_
              have hPc := hP.sub (ws' := (cwT cI (a 1) (a 2) (a 3) (a 4) (a 5) (a 6) tW.1)) [1, 2, 3, 4, 5, 6] rfl
              have hDc := hD.sub (ws' := (cwT cI (a 1) (a 2) (a 3) (a 4) (a 5) (a 6) tW.1)) [1, 2, 3, 4, 5, 6] (by decide) rfl
              have hFc := va_free (wc := (cwT cI (a 1) (a 2) (a 3) (a 4) (a 5) (a 6) tW.1)) hD hS hA [1, 2, 3, 4, 5, 6] rfl
              refine bd hF (fun r104 hG hF => ?_)
              refine va_calli (va_runVN (As := []) (rest := []) ⟨hx, hb, hml, hown, hts⟩ (c_X1_wordsOfLiving l dC dI cI sf H.size N (a 1) (a 2) (a 3) (a 4) (a 5) (a 6) tW.1 r104 hG) ⟨va_cnB 0 hts gX2_count_X1_wordsOfLiving_n212 rfl rfl rfl (hNN.at 33 rfl) (hts (.initialized RX1) (List.mem_of_getElem? (i := 6) rfl)) (by decide +kernel) ⟨Nat.le_of_ble_eq_true rfl, Nat.le_of_ble_eq_true rfl⟩, hts (.instanceMethod yX1_wordsOfLiving) (List.mem_of_getElem? (i := 38) rfl), hts (.selects RX1 yX1_wordsOfLiving yX1_wordsOfLiving) (List.mem_of_getElem? (i := 39) rfl)⟩ ⟨fun a U g mk q => ⟨q.1, q.2.call⟩, va_recv hK hP (ci := 1) (q0 := 1) rfl rfl, fun U hU hW => ⟨rfl, PB.of hU hW hPc hK hDc hNN hSF hS hFc⟩⟩ rfl rfl hl.1 rfl (lv_room (Nat.le_of_ble_eq_true rfl)) dX2_count_104 ⟨Nat.le_of_ble_eq_true rfl, Nat.le_of_ble_eq_true rfl⟩) hS (fun q _ h => hFc q h) hFc (fun z_ u_ t H locs ht hvm hw hB hz1 hk1 hS => ?_)
              subst z_
              obtain ⟨hP1, hD1⟩ := hB
              rw [ht] at hP1
              have hJ := vb_join (ws' := (cwX cI a tW)) hP hD [1, 2, 3, 4, 5, 6] [0, 7, 8, 9, 10, 11, 12, 13, 14, 15, 16, 17, 18, 19, 20, 21, 22, 23] [0, 18, 19, 20, 21, 22, 23, 1, 2, 3, 4, 5, 6, 7, 8, 9, 10, 11, 12, 13, 14, 15, 16, 17] rfl rfl (by decide) (by decide) hk1 hFc hP1 hD1 rfl (by decide) rfl
              clear hP hD hPc hDc hFc hP1 hD1 hk1 hz1 ht hvm hG
              obtain ⟨hP, hD⟩ := hJ
              obtain rfl := Option.some.inj hF
              exact W.iret (v := r104) hx hb hr (fun t ht hW => ⟨⟨r104, (), rfl, rfl, QB.of ht hP hD⟩, hS.F ht⟩) hS.2.2 dX2_count_107
            · have hF := iff_ hc4 hF
              by_cases hc5 : x1 = nI 5
              · have hF := ift hc5 hF
                refine lv_tableIn (off := 85) (tgt := 108) hx hb dX2_count_23 (by rw [hc5]; decide) (by rw [hc5]; decide) (by rw [hc5]; rfl) (by decide) ?_
                refine lv_aload_n hx hb dX2_count_108 rfl (lv_at hl 0 rfl) ?_
                refine va_get (D := (dC, dI)) (ci := 2) (v := .ref (a 1)) (C := RX2) (T := TX2) (N := 9) hx hb hts inw_X2_count_X2 hown hK hP 0 rfl rfl 0 (by decide) (hts (.fieldLink RX2 10 "DeniedOfEachOther" "now" "LDeniedOfEachOther$Town;") (List.mem_of_getElem? (i := 2) rfl)) (fun _ h9 => h9) rfl dX2_count_109 ?_
                have hPc := hP.sub (ws' := (cwT cI (a 1) (a 2) (a 3) (a 4) (a 5) (a 6) tW.1)) [1, 2, 3, 4, 5, 6] rfl
                have hDc := hD.sub (ws' := (cwT cI (a 1) (a 2) (a 3) (a 4) (a 5) (a 6) tW.1)) [1, 2, 3, 4, 5, 6] (by decide) rfl
                have hFc := va_free (wc := (cwT cI (a 1) (a 2) (a 3) (a 4) (a 5) (a 6) tW.1)) hD hS hA [1, 2, 3, 4, 5, 6] rfl
                refine bd hF (fun r112 hG hF => ?_)
                refine va_calli (va_runVN (As := []) (rest := []) ⟨hx, hb, hml, hown, hts⟩ (c_X1_agesOfLiving l dC dI cI sf H.size N (a 1) (a 2) (a 3) (a 4) (a 5) (a 6) tW.1 r112 hG) ⟨va_cnB 0 hts gX2_count_X1_agesOfLiving_n197 rfl rfl rfl (hNN.at 31 rfl) (hts (.initialized RX1) (List.mem_of_getElem? (i := 6) rfl)) (by decide +kernel) ⟨Nat.le_of_ble_eq_true rfl, Nat.le_of_ble_eq_true rfl⟩, hts (.instanceMethod yX1_agesOfLiving) (List.mem_of_getElem? (i := 41) rfl), hts (.selects RX1 yX1_agesOfLiving yX1_agesOfLiving) (List.mem_of_getElem? (i := 42) rfl)⟩ ⟨fun a U g mk q => ⟨q.1, q.2.call⟩, va_recv hK hP (ci := 1) (q0 := 1) rfl rfl, fun U hU hW => ⟨rfl, PB.of hU hW hPc hK hDc hNN hSF hS hFc⟩⟩ rfl rfl hl.1 rfl (lv_room (Nat.le_of_ble_eq_true rfl)) dX2_count_112 ⟨Nat.le_of_ble_eq_true rfl, Nat.le_of_ble_eq_true rfl⟩) hS (fun q _ h => hFc q h) hFc (fun z_ u_ t H locs ht hvm hw hB hz1 hk1 hS => ?_)
                subst z_
                obtain ⟨hP1, hD1⟩ := hB
                rw [ht] at hP1
                have hJ := vb_join (ws' := (cwX cI a tW)) hP hD [1, 2, 3, 4, 5, 6] [0, 7, 8, 9, 10, 11, 12, 13, 14, 15, 16, 17, 18, 19, 20, 21, 22, 23] [0, 18, 19, 20, 21, 22, 23, 1, 2, 3, 4, 5, 6, 7, 8, 9, 10, 11, 12, 13, 14, 15, 16, 17] rfl rfl (by decide) (by decide) hk1 hFc hP1 hD1 rfl (by decide) rfl
                clear hP hD hPc hDc hFc hP1 hD1 hk1 hz1 ht hvm hG
                obtain ⟨hP, hD⟩ := hJ
                obtain rfl := Option.some.inj hF
                exact W.iret (v := r112) hx hb hr (fun t ht hW => ⟨⟨r112, (), rfl, rfl, QB.of ht hP hD⟩, hS.F ht⟩) hS.2.2 dX2_count_115
              · have hF := iff_ hc5 hF
                by_cases hc6 : x1 = nI 6
                · have hF := ift hc6 hF
                  refine lv_tableIn (off := 93) (tgt := 116) hx hb dX2_count_23 (by rw [hc6]; decide) (by rw [hc6]; decide) (by rw [hc6]; rfl) (by decide) ?_
                  refine lv_aload_n hx hb dX2_count_116 rfl (lv_at hl 0 rfl) ?_
                  refine va_get (D := (dC, dI)) (ci := 2) (v := .int tW.2.2.2.2.2.2.1) (C := RX2) (T := TX2) (N := 9) hx hb hts inw_X2_count_X2 hown hK hP 0 rfl rfl 6 (by decide) (hts (.fieldLink RX2 37 "DeniedOfEachOther" "rowSize" "I") (List.mem_of_getElem? (i := 3) rfl)) (fun _ h9 => h9) rfl dX2_count_117 ?_
                  obtain rfl := Option.some.inj hF
                  exact W.iret (v := tW.2.2.2.2.2.2.1) hx hb hr (fun t ht hW => ⟨⟨tW.2.2.2.2.2.2.1, (), rfl, rfl, QB.of ht hP hD⟩, hS.F ht⟩) hS.2.2 dX2_count_120
                · have hF := iff_ hc6 hF
                  by_cases hc7 : x1 = nI 7
                  · have hF := ift hc7 hF
                    refine lv_tableIn (off := 98) (tgt := 121) hx hb dX2_count_23 (by rw [hc7]; decide) (by rw [hc7]; decide) (by rw [hc7]; rfl) (by decide) ?_
                    refine lv_aload_n hx hb dX2_count_121 rfl (lv_at hl 0 rfl) ?_
                    refine va_get (D := (dC, dI)) (ci := 2) (v := .ref (a 19)) (C := RX2) (T := TX2) (N := 9) hx hb hts inw_X2_count_X2 hown hK hP 0 rfl rfl 4 (by decide) (hts (.fieldLink RX2 29 "DeniedOfEachOther" "letters" "LDeniedOfEachOther$Letters;") (List.mem_of_getElem? (i := 4) rfl)) (fun _ h9 => h9) rfl dX2_count_122 ?_
                    refine va_getN (D := (dC, dI)) (ci := 0) (v := .int tW.2.2.2.2.1.2) (C := RX0) (T := TX0) (N := 2) hx hb hts inw_X2_count_X0 hown hK hP 19 rfl rfl 1 (by decide) (hNN.use 40 rfl) (fun _ h9 => h9) rfl dX2_count_125 ?_
                    obtain rfl := Option.some.inj hF
                    exact W.iret (v := tW.2.2.2.2.1.2) hx hb hr (fun t ht hW => ⟨⟨tW.2.2.2.2.1.2, (), rfl, rfl, QB.of ht hP hD⟩, hS.F ht⟩) hS.2.2 dX2_count_128
                  · have hF := iff_ hc7 hF
                    refine lv_tableOut (tgt := 129) hx hb dX2_count_23 (tb_out (lo := 0) (hi := 7) (by decide) (fun k h1 h2 => by rcases (show k = 0 ∨ k = 1 ∨ k = 2 ∨ k = 3 ∨ k = 4 ∨ k = 5 ∨ k = 6 ∨ k = 7 by omega) with rfl | rfl | rfl | rfl | rfl | rfl | rfl | rfl <;> assumption)) (by decide) ?_
                    refine lv_bipush (v := (-9)) hx hb dX2_count_129 (by decide) ?_
                    obtain rfl := Option.some.inj hF
                    exact W.iret (v := (-9)) hx hb hr (fun t ht hW => ⟨⟨(-9), (), rfl, rfl, QB.of ht hP hD⟩, hS.F ht⟩) hS.2.2 dX2_count_131
  refine lv_icmp_lt (tgt := 22) hx hb dX2_count_3 (by decide) (fun hc => ?_) (fun hc => ?_)
  · have hF := ift hc hF
    exact kJ22 p1 _ _ _ hF hP hD hS (lv_sub hl [0, 1] rfl)
  · have hF := iff_ hc hF
    refine lv_iload_n hx hb dX2_count_6 rfl (lv_at hl 1 rfl) ?_
    refine lv_bipush (v := nI 16) hx hb dX2_count_7 (by decide) ?_
    refine lv_icmp_gt (tgt := 22) hx hb dX2_count_9 (by decide) (fun hc => ?_) (fun hc => ?_)
    · have hF := ift hc hF
      exact kJ22 p1 _ _ _ hF hP hD hS (lv_sub hl [0, 1] rfl)
    · have hF := iff_ hc hF
      refine lv_aload_n hx hb dX2_count_12 rfl (lv_at hl 0 rfl) ?_
      refine va_get (D := (dC, dI)) (ci := 2) (v := .ref (a 22)) (C := RX2) (T := TX2) (N := 9) hx hb hts inw_X2_count_X2 hown hK hP 0 rfl rfl 7 (by decide) (hts (.fieldLink RX2 41 "DeniedOfEachOther" "refusals" "[I") (List.mem_of_getElem? (i := 1) rfl)) (fun _ h9 => h9) rfl dX2_count_13 ?_
      refine lv_iload_n hx hb dX2_count_16 rfl (lv_at hl 1 rfl) ?_
      refine lv_bipush (v := nI 10) hx hb dX2_count_17 (by decide) ?_
      refine lv_isub hx hb dX2_count_19 ?_
      refine cki hF (fun hi hF => ?_)
      refine va_iald (D := (dC, dI)) hx hb hK hP 22 0 rfl rfl hi dX2_count_20 ?_
      obtain rfl := Option.some.inj hF
      exact W.iret (v := (tW.2.2.2.2.2.2.2.1 (p1 - (nI 10)).toNatClampNeg)) hx hb hr (fun t ht hW => ⟨⟨(tW.2.2.2.2.2.2.2.1 (p1 - (nI 10)).toNatClampNeg), (), rfl, rfl, QB.of ht hP hD⟩, hS.F ht⟩) hS.2.2 dX2_count_21
theorem inw_X2_deadThen_X2 : ∀ w ∈ u_ws RX2 TX2 9, w ∈ wsX2_deadThen := fun _ h => List.mem_cons_of_mem _ (List.mem_append_left _ (List.mem_append_right _ h))
theorem inw_X2_deadThen_X1 : ∀ w ∈ u_ws RX1 TX1 8, w ∈ wsX2_deadThen := fun _ h => List.mem_cons_of_mem _ (List.mem_append_right _ h)
set_option maxHeartbeats 4000000 in
set_option maxRecDepth 100000 in
theorem c_X2_deadThen (l : Launch) (dC : Nat → ClassId) (dI : Nat → Nat → Nat) (cI : ClassId) (sf : SFP) (sz : Nat) (N : Nat) (a : Nat → Nat) (tW : XS) (p1 : Int32) (r : (Int32 × XS)) (hF : F_X2_deadThen N tW p1 = some r) : Met l yX2_deadThen wsX2_deadThen ({ frames := 5, cells := 0, slots := 0, locals := 121 }) (va_Pc [.ref (a 0), .int p1] (PB (dC, dI) cI (cwX cI a tW) sz sf)) (va_Qi (fun (z : Int32) (_ : Unit) => z = r.1) (fun _ t => QB (dC, dI) (cwX cI a r.2) (va_A (cwX cI a tW) sz) t) (va_A (cwX cI a tW) sz)) 0 0 (va_A (cwX cI a tW) sz) := by
  refine Met.ofW (cc := cX2_deadThen) (maxL := 2) (ret := (some .int)) (by decide) rfl ?_
  intro p e s m args below meth c s₁ B hml hv
  obtain ⟨rfl, hsz, hP, hK, hD0, hNN, hSF⟩ := hv
  have hx := B.exec
  have hb := B.bytes
  have hr := B.returns
  have hts := atoms_spec (ws := wsX2_deadThen) B.pre
  have hown : s.vm.findClass RX2 = some m.cls := findClass_of_methodNamed B.named
  have hlocks := B.notSynchronized
  subst hsz
  have hD := hD0.self (sz := s.heap.size)
  generalize hAe : va_A (cwX cI a tW) s.heap.size = A at hD hSF ⊢
  have hA : ∀ q : Nat, s.heap.size ≤ q → A q := fun q h => by rw [← hAe]; exact Or.inr h
  clear hAe hD0
  have hS : va_S A s.heap s.heap [] := va_S.rf
  have hl := lv_entry ([.ref (a 0), .int p1]) (n := 2) (Nat.le_of_ble_eq_true rfl)
  rw [lg_entry_eq]
  generalize (lg_sl ([.ref (a 0), .int p1]) ++ List.replicate (2 - (lg_sl ([.ref (a 0), .int p1])).length) Slot.unset).toArray = ls at hl ⊢
  have hl : lv_has ls 2 [(0, .ref (a 0)), (1, .int p1)] := hl
  rw [F_X2_deadThen] at hF
  refine lv_iload_n hx hb dX2_deadThen_0 rfl (lv_at hl 1 rfl) ?_
  refine lv_if_ge (tgt := 11) hx hb dX2_deadThen_1 (by decide) (fun hc => ?_) (fun hc => ?_)
  · have hF := ift hc hF
    refine lv_iload_n hx hb dX2_deadThen_11 rfl (lv_at hl 1 rfl) ?_
    refine lv_bipush (v := nI 60) hx hb dX2_deadThen_12 (by decide) ?_
    refine lv_icmp_le (tgt := 24) hx hb dX2_deadThen_14 (by decide) (fun hc => ?_) (fun hc => ?_)
    · have hF := ift hc hF
      refine lv_aload_n hx hb dX2_deadThen_24 rfl (lv_at hl 0 rfl) ?_
      refine va_get (D := (dC, dI)) (ci := 2) (v := .ref (a 7)) (C := RX2) (T := TX2) (N := 9) hx hb hts inw_X2_deadThen_X2 hown hK hP 0 rfl rfl 1 (by decide) (hts (.fieldLink RX2 16 "DeniedOfEachOther" "mind" "LDeniedOfEachOther$Town;") (List.mem_of_getElem? (i := 1) rfl)) (fun _ h9 => h9) rfl dX2_deadThen_25 ?_
      refine lv_aload_n hx hb dX2_deadThen_28 rfl (lv_at hl 0 rfl) ?_
      refine va_get (D := (dC, dI)) (ci := 2) (v := .ref (a 1)) (C := RX2) (T := TX2) (N := 9) hx hb hts inw_X2_deadThen_X2 hown hK hP 0 rfl rfl 0 (by decide) (hts (.fieldLink RX2 10 "DeniedOfEachOther" "now" "LDeniedOfEachOther$Town;") (List.mem_of_getElem? (i := 2) rfl)) (fun _ h9 => h9) rfl dX2_deadThen_29 ?_
      have hPc := hP.sub (ws' := (cwT cI (a 7) (a 8) (a 9) (a 10) (a 11) (a 12) tW.2.1 ++ cwT cI (a 1) (a 2) (a 3) (a 4) (a 5) (a 6) tW.1)) [7, 8, 9, 10, 11, 12, 1, 2, 3, 4, 5, 6] rfl
      have hDc := hD.sub (ws' := (cwT cI (a 7) (a 8) (a 9) (a 10) (a 11) (a 12) tW.2.1 ++ cwT cI (a 1) (a 2) (a 3) (a 4) (a 5) (a 6) tW.1)) [7, 8, 9, 10, 11, 12, 1, 2, 3, 4, 5, 6] (by decide) rfl
      have hFc := va_free (wc := (cwT cI (a 7) (a 8) (a 9) (a 10) (a 11) (a 12) tW.2.1 ++ cwT cI (a 1) (a 2) (a 3) (a 4) (a 5) (a 6) tW.1)) hD hS hA [7, 8, 9, 10, 11, 12, 1, 2, 3, 4, 5, 6] rfl
      refine bd hF (fun r32 hG hF => ?_)
      refine va_callv (va_runVN (As := [.ref (a 1)]) (rest := []) ⟨hx, hb, hml, hown, hts⟩ (c_X1_become l dC dI cI sf s.heap.size N (a 7) (a 8) (a 9) (a 10) (a 11) (a 12) (a 1) (a 2) (a 3) (a 4) (a 5) (a 6) tW.2.1 tW.1 r32 hG) ⟨va_cnB 1 hts gX2_deadThen_X1_become_n61 rfl rfl rfl (hNN.at 2 rfl) (hts (.initialized RX1) (List.mem_of_getElem? (i := 10) rfl)) (by decide +kernel) ⟨Nat.le_of_ble_eq_true rfl, Nat.le_of_ble_eq_true rfl⟩, hts (.instanceMethod yX1_become) (List.mem_of_getElem? (i := 9) rfl), hts (.selects RX1 yX1_become yX1_become) (List.mem_of_getElem? (i := 11) rfl)⟩ ⟨fun a U g mk q => ⟨q.1, q.2.call⟩, va_recv hK hP (ci := 1) (q0 := 7) rfl rfl, fun U hU hW => ⟨rfl, PB.of hU hW hPc hK hDc hNN hSF hS hFc⟩⟩ rfl rfl hl.1 rfl (lv_room (Nat.le_of_ble_eq_true rfl)) dX2_deadThen_32 ⟨Nat.le_of_ble_eq_true rfl, Nat.le_of_ble_eq_true rfl⟩) hS (fun q _ h => hFc q h) hFc (fun u_ t H locs ht hvm hw hB hz1 hk1 hS => ?_)
      obtain ⟨hP1, hD1⟩ := hB
      rw [ht] at hP1
      have hJ := vb_join (ws' := (cwX cI a (tW.1, r32, tW.2.2.1, tW.2.2.2.1, tW.2.2.2.2.1, tW.2.2.2.2.2.1, tW.2.2.2.2.2.2.1, tW.2.2.2.2.2.2.2.1, tW.2.2.2.2.2.2.2.2))) hP hD [7, 8, 9, 10, 11, 12, 1, 2, 3, 4, 5, 6] [0, 13, 14, 15, 16, 17, 18, 19, 20, 21, 22, 23] [0, 18, 19, 20, 21, 22, 23, 12, 13, 14, 15, 16, 17, 1, 2, 3, 4, 5, 6, 7, 8, 9, 10, 11] rfl rfl (by decide) (by decide) hk1 hFc hP1 hD1 rfl (by decide) rfl
      clear hP hD hPc hDc hFc hP1 hD1 hk1 hz1 ht hvm hG
      obtain ⟨hP, hD⟩ := hJ
      refine lv_aload_n hx hb dX2_deadThen_35 rfl (lv_at hl 0 rfl) ?_
      refine va_get (D := (dC, dI)) (ci := 2) (v := .ref (a 7)) (C := RX2) (T := TX2) (N := 9) hx hb hts inw_X2_deadThen_X2 hown hK hP 0 rfl rfl 1 (by decide) (hts (.fieldLink RX2 16 "DeniedOfEachOther" "mind" "LDeniedOfEachOther$Town;") (List.mem_of_getElem? (i := 1) rfl)) (fun _ h9 => h9) rfl dX2_deadThen_36 ?_
      refine lv_iload_n hx hb dX2_deadThen_39 rfl (lv_at hl 1 rfl) ?_
      have hPc := hP.sub (ws' := (cwT cI (a 7) (a 8) (a 9) (a 10) (a 11) (a 12) r32)) [7, 8, 9, 10, 11, 12] rfl
      have hDc := hD.sub (ws' := (cwT cI (a 7) (a 8) (a 9) (a 10) (a 11) (a 12) r32)) [7, 8, 9, 10, 11, 12] (by decide) rfl
      have hFc := va_free (wc := (cwT cI (a 7) (a 8) (a 9) (a 10) (a 11) (a 12) r32)) hD hS hA [7, 8, 9, 10, 11, 12] rfl
      refine bd hF (fun r40 hG hF => ?_)
      refine va_callv (va_runVN (As := [.int p1]) (rest := []) ⟨hx, hb, hml, hown, hts⟩ (c_X1_pass l dC dI cI sf H.size N (a 7) (a 8) (a 9) (a 10) (a 11) (a 12) r32 p1 r40 hG) ⟨va_cnB 1 hts gX2_deadThen_X1_pass_n120 rfl rfl rfl (hNN.at 20 rfl) (hts (.initialized RX1) (List.mem_of_getElem? (i := 10) rfl)) (by decide +kernel) ⟨Nat.le_of_ble_eq_true rfl, Nat.le_of_ble_eq_true rfl⟩, hts (.instanceMethod yX1_pass) (List.mem_of_getElem? (i := 25) rfl), hts (.selects RX1 yX1_pass yX1_pass) (List.mem_of_getElem? (i := 26) rfl)⟩ ⟨fun a U g mk q => ⟨q.1, q.2.call⟩, va_recv hK hP (ci := 1) (q0 := 7) rfl rfl, fun U hU hW => ⟨rfl, PB.of hU hW hPc hK hDc hNN hSF hS hFc⟩⟩ rfl rfl hl.1 rfl (lv_room (Nat.le_of_ble_eq_true rfl)) dX2_deadThen_40 ⟨Nat.le_of_ble_eq_true rfl, Nat.le_of_ble_eq_true rfl⟩) hS (fun q _ h => hFc q h) hFc (fun u_ t H locs ht hvm hw hB hz1 hk1 hS => ?_)
      obtain ⟨hP1, hD1⟩ := hB
      rw [ht] at hP1
      have hJ := vb_join (ws' := (cwX cI a (tW.1, r40, tW.2.2.1, tW.2.2.2.1, tW.2.2.2.2.1, tW.2.2.2.2.2.1, tW.2.2.2.2.2.2.1, tW.2.2.2.2.2.2.2.1, tW.2.2.2.2.2.2.2.2))) hP hD [7, 8, 9, 10, 11, 12] [0, 1, 2, 3, 4, 5, 6, 13, 14, 15, 16, 17, 18, 19, 20, 21, 22, 23] [0, 1, 2, 3, 4, 5, 6, 18, 19, 20, 21, 22, 23, 7, 8, 9, 10, 11, 12, 13, 14, 15, 16, 17] rfl rfl (by decide) (by decide) hk1 hFc hP1 hD1 rfl (by decide) rfl
      clear hP hD hPc hDc hFc hP1 hD1 hk1 hz1 ht hvm hG
      obtain ⟨hP, hD⟩ := hJ
      refine lv_aload_n hx hb dX2_deadThen_43 rfl (lv_at hl 0 rfl) ?_
      refine va_get (D := (dC, dI)) (ci := 2) (v := .ref (a 7)) (C := RX2) (T := TX2) (N := 9) hx hb hts inw_X2_deadThen_X2 hown hK hP 0 rfl rfl 1 (by decide) (hts (.fieldLink RX2 16 "DeniedOfEachOther" "mind" "LDeniedOfEachOther$Town;") (List.mem_of_getElem? (i := 1) rfl)) (fun _ h9 => h9) rfl dX2_deadThen_44 ?_
      have hPc := hP.sub (ws' := (cwT cI (a 7) (a 8) (a 9) (a 10) (a 11) (a 12) r40)) [7, 8, 9, 10, 11, 12] rfl
      have hDc := hD.sub (ws' := (cwT cI (a 7) (a 8) (a 9) (a 10) (a 11) (a 12) r40)) [7, 8, 9, 10, 11, 12] (by decide) rfl
      have hFc := va_free (wc := (cwT cI (a 7) (a 8) (a 9) (a 10) (a 11) (a 12) r40)) hD hS hA [7, 8, 9, 10, 11, 12] rfl
      refine bd hF (fun r47 hG hF => ?_)
      refine va_calli (va_runVN (As := []) (rest := []) ⟨hx, hb, hml, hown, hts⟩ (c_X1_everybody l dC dI cI sf H.size N (a 7) (a 8) (a 9) (a 10) (a 11) (a 12) r40 r47 hG) ⟨va_cnB 0 hts gX2_deadThen_X1_everybody_n128 rfl rfl rfl (hNN.at 22 rfl) (hts (.initialized RX1) (List.mem_of_getElem? (i := 10) rfl)) (by decide +kernel) ⟨Nat.le_of_ble_eq_true rfl, Nat.le_of_ble_eq_true rfl⟩, hts (.instanceMethod yX1_everybody) (List.mem_of_getElem? (i := 91) rfl), hts (.selects RX1 yX1_everybody yX1_everybody) (List.mem_of_getElem? (i := 92) rfl)⟩ ⟨fun a U g mk q => ⟨q.1, q.2.call⟩, va_recv hK hP (ci := 1) (q0 := 7) rfl rfl, fun U hU hW => ⟨rfl, PB.of hU hW hPc hK hDc hNN hSF hS hFc⟩⟩ rfl rfl hl.1 rfl (lv_room (Nat.le_of_ble_eq_true rfl)) dX2_deadThen_47 ⟨Nat.le_of_ble_eq_true rfl, Nat.le_of_ble_eq_true rfl⟩) hS (fun q _ h => hFc q h) hFc (fun z_ u_ t H locs ht hvm hw hB hz1 hk1 hS => ?_)
      subst z_
      obtain ⟨hP1, hD1⟩ := hB
      rw [ht] at hP1
      have hJ := vb_join (ws' := (cwX cI a (tW.1, r40, tW.2.2.1, tW.2.2.2.1, tW.2.2.2.2.1, tW.2.2.2.2.2.1, tW.2.2.2.2.2.2.1, tW.2.2.2.2.2.2.2.1, tW.2.2.2.2.2.2.2.2))) hP hD [7, 8, 9, 10, 11, 12] [0, 1, 2, 3, 4, 5, 6, 13, 14, 15, 16, 17, 18, 19, 20, 21, 22, 23] [0, 1, 2, 3, 4, 5, 6, 18, 19, 20, 21, 22, 23, 7, 8, 9, 10, 11, 12, 13, 14, 15, 16, 17] rfl rfl (by decide) (by decide) hk1 hFc hP1 hD1 rfl (by decide) rfl
      clear hP hD hPc hDc hFc hP1 hD1 hk1 hz1 ht hvm hG
      obtain ⟨hP, hD⟩ := hJ
      refine lv_aload_n hx hb dX2_deadThen_50 rfl (lv_at hl 0 rfl) ?_
      refine va_get (D := (dC, dI)) (ci := 2) (v := .ref (a 7)) (C := RX2) (T := TX2) (N := 9) hx hb hts inw_X2_deadThen_X2 hown hK hP 0 rfl rfl 1 (by decide) (hts (.fieldLink RX2 16 "DeniedOfEachOther" "mind" "LDeniedOfEachOther$Town;") (List.mem_of_getElem? (i := 1) rfl)) (fun _ h9 => h9) rfl dX2_deadThen_51 ?_
      refine va_getN (D := (dC, dI)) (ci := 1) (v := .int r40.2.2.2.2.2.2.1) (C := RX1) (T := TX1) (N := 8) hx hb hts inw_X2_deadThen_X1 hown hK hP 7 rfl rfl 6 (by decide) (hNN.use 38 rfl) (fun _ h9 => h9) rfl dX2_deadThen_54 ?_
      refine lv_iconst (v := (-1)) hx hb dX2_deadThen_57 (by decide) ?_
      refine lv_ixor hx hb dX2_deadThen_58 ?_
      refine lv_iand hx hb dX2_deadThen_59 ?_
      obtain rfl := Option.some.inj hF
      exact W.iret (v := (r47 &&& (r40.2.2.2.2.2.2.1 ^^^ (-1)))) hx hb hr (fun t ht hW => ⟨⟨(r47 &&& (r40.2.2.2.2.2.2.1 ^^^ (-1))), (), rfl, rfl, QB.of ht hP hD⟩, hS.F ht⟩) hS.2.2 dX2_deadThen_60
    · have hF := iff_ hc hF
      refine lv_aload_n hx hb dX2_deadThen_17 rfl (lv_at hl 0 rfl) ?_
      refine lv_bipush (v := (-6)) hx hb dX2_deadThen_18 (by decide) ?_
      have hPc := hP.sub (ws' := (cwX cI a tW)) [0, 1, 2, 3, 4, 5, 6, 7, 8, 9, 10, 11, 12, 13, 14, 15, 16, 17, 18, 19, 20, 21, 22, 23] rfl
      have hDc := hD.sub (ws' := (cwX cI a tW)) [0, 1, 2, 3, 4, 5, 6, 7, 8, 9, 10, 11, 12, 13, 14, 15, 16, 17, 18, 19, 20, 21, 22, 23] (by decide) rfl
      have hFc := va_free (wc := (cwX cI a tW)) hD hS hA [0, 1, 2, 3, 4, 5, 6, 7, 8, 9, 10, 11, 12, 13, 14, 15, 16, 17, 18, 19, 20, 21, 22, 23] rfl
      refine bd hF (fun r20 hG hF => ?_)
      refine va_calli (va_runV (As := [.int (-6)]) (rest := []) ⟨hx, hb, hml, hown, hts⟩ (c_X2_refuse l dC dI cI sf s.heap.size N a tW (-6) r20 hG) (cwV 1 hts gX2_deadThen_X2_refuse rfl rfl rfl (by decide +kernel) ⟨Nat.le_of_ble_eq_true rfl, Nat.le_of_ble_eq_true rfl⟩) ⟨fun a U g mk q => ⟨q.1, q.2.call⟩, va_recv hK hP (ci := 2) (q0 := 0) rfl rfl, fun U hU hW => ⟨rfl, PB.of hU hW hPc hK hDc hNN hSF hS hFc⟩⟩ rfl rfl hl.1 rfl (lv_room (Nat.le_of_ble_eq_true rfl)) dX2_deadThen_20 ⟨Nat.le_of_ble_eq_true rfl, Nat.le_of_ble_eq_true rfl⟩) hS (fun q _ h => hFc q h) hFc (fun z_ u_ t H locs ht hvm hw hB hz1 hk1 hS => ?_)
      subst z_
      obtain ⟨hP1, hD1⟩ := hB
      rw [ht] at hP1
      have hJ := vb_join (ws' := (cwX cI a r20.2)) hP hD [0, 1, 2, 3, 4, 5, 6, 7, 8, 9, 10, 11, 12, 13, 14, 15, 16, 17, 18, 19, 20, 21, 22, 23] [] [0, 1, 2, 3, 4, 5, 6, 7, 8, 9, 10, 11, 12, 13, 14, 15, 16, 17, 18, 19, 20, 21, 22, 23] rfl rfl (by decide) (by decide) hk1 hFc hP1 hD1 rfl (by decide) rfl
      clear hP hD hPc hDc hFc hP1 hD1 hk1 hz1 ht hvm hG
      obtain ⟨hP, hD⟩ := hJ
      obtain rfl := Option.some.inj hF
      exact W.iret (v := r20.1) hx hb hr (fun t ht hW => ⟨⟨r20.1, (), rfl, rfl, QB.of ht hP hD⟩, hS.F ht⟩) hS.2.2 dX2_deadThen_23
  · have hF := iff_ hc hF
    refine lv_aload_n hx hb dX2_deadThen_4 rfl (lv_at hl 0 rfl) ?_
    refine lv_bipush (v := (-4)) hx hb dX2_deadThen_5 (by decide) ?_
    have hPc := hP.sub (ws' := (cwX cI a tW)) [0, 1, 2, 3, 4, 5, 6, 7, 8, 9, 10, 11, 12, 13, 14, 15, 16, 17, 18, 19, 20, 21, 22, 23] rfl
    have hDc := hD.sub (ws' := (cwX cI a tW)) [0, 1, 2, 3, 4, 5, 6, 7, 8, 9, 10, 11, 12, 13, 14, 15, 16, 17, 18, 19, 20, 21, 22, 23] (by decide) rfl
    have hFc := va_free (wc := (cwX cI a tW)) hD hS hA [0, 1, 2, 3, 4, 5, 6, 7, 8, 9, 10, 11, 12, 13, 14, 15, 16, 17, 18, 19, 20, 21, 22, 23] rfl
    refine bd hF (fun r7 hG hF => ?_)
    refine va_calli (va_runV (As := [.int (-4)]) (rest := []) ⟨hx, hb, hml, hown, hts⟩ (c_X2_refuse l dC dI cI sf s.heap.size N a tW (-4) r7 hG) (cwV 1 hts gX2_deadThen_X2_refuse rfl rfl rfl (by decide +kernel) ⟨Nat.le_of_ble_eq_true rfl, Nat.le_of_ble_eq_true rfl⟩) ⟨fun a U g mk q => ⟨q.1, q.2.call⟩, va_recv hK hP (ci := 2) (q0 := 0) rfl rfl, fun U hU hW => ⟨rfl, PB.of hU hW hPc hK hDc hNN hSF hS hFc⟩⟩ rfl rfl hl.1 rfl (lv_room (Nat.le_of_ble_eq_true rfl)) dX2_deadThen_7 ⟨Nat.le_of_ble_eq_true rfl, Nat.le_of_ble_eq_true rfl⟩) hS (fun q _ h => hFc q h) hFc (fun z_ u_ t H locs ht hvm hw hB hz1 hk1 hS => ?_)
    subst z_
    obtain ⟨hP1, hD1⟩ := hB
    rw [ht] at hP1
    have hJ := vb_join (ws' := (cwX cI a r7.2)) hP hD [0, 1, 2, 3, 4, 5, 6, 7, 8, 9, 10, 11, 12, 13, 14, 15, 16, 17, 18, 19, 20, 21, 22, 23] [] [0, 1, 2, 3, 4, 5, 6, 7, 8, 9, 10, 11, 12, 13, 14, 15, 16, 17, 18, 19, 20, 21, 22, 23] rfl rfl (by decide) (by decide) hk1 hFc hP1 hD1 rfl (by decide) rfl
    clear hP hD hPc hDc hFc hP1 hD1 hk1 hz1 ht hvm hG
    obtain ⟨hP, hD⟩ := hJ
    obtain rfl := Option.some.inj hF
    exact W.iret (v := r7.1) hx hb hr (fun t ht hW => ⟨⟨r7.1, (), rfl, rfl, QB.of ht hP hD⟩, hS.F ht⟩) hS.2.2 dX2_deadThen_10
