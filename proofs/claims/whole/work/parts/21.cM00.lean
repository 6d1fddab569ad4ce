set_option maxHeartbeats 4000000 in
set_option maxRecDepth 100000 in
theorem c_X3_of (l : Launch) (dC : Nat → ClassId) (dI : Nat → Nat → Nat) (cI : ClassId) (sf : SFP) (sz : Nat) (N : Nat) (p0 : Int32) (p1 : Int32) (r : Int32) (hF : F_X3_of N p0 p1 = some r) : Met l yX3_of wsX3_of ({ frames := 0, cells := 0, slots := 0, locals := 0 }) (va_Pc [.int p0, .int p1] (PB (dC, dI) cI ([] : va_W) sz sf)) (va_Qi (fun (z : Int32) (_ : Unit) => z = r) (fun _ t => QB (dC, dI) ([] : va_W) (va_A ([] : va_W) sz) t) (va_A ([] : va_W) sz)) 0 0 (va_A ([] : va_W) sz) := by
  refine Met.ofW (cc := cX3_of) (maxL := 2) (ret := (some .int)) (by decide) rfl ?_
  intro p e s m args below meth c s₁ B hml hv
  obtain ⟨rfl, hsz, hP, hK, hD0, hNN, hSF⟩ := hv
  have hx := B.exec
  have hb := B.bytes
  have hr := B.returns
  have hts := atoms_spec (ws := wsX3_of) B.pre
  have hown : s.vm.findClass RX3 = some m.cls := findClass_of_methodNamed B.named
  have hlocks := B.notSynchronized
  subst hsz
  have hD := hD0.self (sz := s.heap.size)
  generalize hAe : va_A ([] : va_W) s.heap.size = A at hD hSF ⊢
  have hA : ∀ q : Nat, s.heap.size ≤ q → A q := fun q h => by rw [← hAe]; exact Or.inr h
  clear hAe hD0
  have hS : va_S A s.heap s.heap [] := va_S.rf
  have hl := lv_entry ([.int p0, .int p1]) (n := 2) (Nat.le_of_ble_eq_true rfl)
  rw [lg_entry_eq]
  generalize (lg_sl ([.int p0, .int p1]) ++ List.replicate (2 - (lg_sl ([.int p0, .int p1])).length) Slot.unset).toArray = ls at hl ⊢
  have hl : lv_has ls 2 [(0, .int p0), (1, .int p1)] := hl
  rw [F_X3_of] at hF
  refine lv_iconst (v := nI 2) hx hb dX3_of_0 (by decide) ?_
  refine lv_bipush (v := nI 12) hx hb dX3_of_1 (by decide) ?_
  refine lv_iload_n hx hb dX3_of_3 rfl (lv_at hl 0 rfl) ?_
  refine lv_imul hx hb dX3_of_4 ?_
  refine lv_iadd hx hb dX3_of_5 ?_
  refine lv_iload_n hx hb dX3_of_6 rfl (lv_at hl 1 rfl) ?_
  refine lv_iadd hx hb dX3_of_7 ?_
  obtain rfl := Option.some.inj hF
  exact W.iret (v := (((nI 2) + ((nI 12) * p0)) + p1)) hx hb hr (fun t ht hW => ⟨⟨(((nI 2) + ((nI 12) * p0)) + p1), (), rfl, rfl, QB.of ht hP hD⟩, hS.F ht⟩) hS.2.2 dX3_of_8
theorem inw_X3_adds_X3 : ∀ w ∈ u_ws RX3 TX3 15, w ∈ wsX3_adds := fun _ h => List.mem_cons_of_mem _ (List.mem_append_right _ h)
set_option maxHeartbeats 4000000 in
set_option maxRecDepth 100000 in
theorem c_X3_adds (l : Launch) (dC : Nat → ClassId) (dI : Nat → Nat → Nat) (cI : ClassId) (sf : SFP) (sz : Nat) (N : Nat) (b : Nat → Nat) (tW : MS) (p1 : Int32) (p2 : Int32) (p3 : Int32) (r : (Int32 × MS)) (hF : F_X3_adds N tW p1 p2 p3 = some r) : Met l yX3_adds wsX3_adds ({ frames := 1, cells := 0, slots := 0, locals := 21 }) (va_Pc [.ref (b 0), .int p1, .int p2, .int p3] (PB (dC, dI) cI (cwM cI b tW) sz sf)) (va_Qi (fun (z : Int32) (_ : Unit) => z = r.1) (fun _ t => QB (dC, dI) (cwM cI b r.2) (va_A (cwM cI b tW) sz) t) (va_A (cwM cI b tW) sz)) 0 0 (va_A (cwM cI b tW) sz) := by
  refine Met.ofW (cc := cX3_adds) (maxL := 6) (ret := (some .boolean)) (by decide) rfl ?_
  intro p e s m args below meth c s₁ B hml hv
  obtain ⟨rfl, hsz, hP, hK, hD0, hNN, hSF⟩ := hv
  have hx := B.exec
  have hb := B.bytes
  have hr := B.returns
  have hts := atoms_spec (ws := wsX3_adds) B.pre
  have hown : s.vm.findClass RX3 = some m.cls := findClass_of_methodNamed B.named
  have hlocks := B.notSynchronized
  subst hsz
  have hD := hD0.self (sz := s.heap.size)
  generalize hAe : va_A (cwM cI b tW) s.heap.size = A at hD hSF ⊢
  have hA : ∀ q : Nat, s.heap.size ≤ q → A q := fun q h => by rw [← hAe]; exact Or.inr h
  clear hAe hD0
  have hS : va_S A s.heap s.heap [] := va_S.rf
  have hl := lv_entry ([.ref (b 0), .int p1, .int p2, .int p3]) (n := 6) (Nat.le_of_ble_eq_true rfl)
  rw [lg_entry_eq]
  generalize (lg_sl ([.ref (b 0), .int p1, .int p2, .int p3]) ++ List.replicate (6 - (lg_sl ([.ref (b 0), .int p1, .int p2, .int p3])).length) Slot.unset).toArray = ls at hl ⊢
  have hl : lv_has ls 6 [(0, .ref (b 0)), (1, .int p1), (2, .int p2), (3, .int p3)] := hl
  rw [F_X3_adds] at hF
  refine lv_aload_n hx hb dX3_adds_0 rfl (lv_at hl 0 rfl) ?_
  refine va_get (D := (dC, dI)) (ci := 3) (v := .ref (b 1)) (C := RX3) (T := TX3) (N := 15) hx hb hts inw_X3_adds_X3 hown hK hP 0 rfl rfl 0 (by decide) (hts (.fieldLink RX3 9 "DeniedOfEachOtherModel" "s" "[I") (List.mem_of_getElem? (i := 1) rfl)) (fun _ h9 => h9) rfl dX3_adds_1 ?_
  refine lv_iconst (v := nI 0) hx hb dX3_adds_4 (by decide) ?_
  refine va_iald (D := (dC, dI)) hx hb hK hP 1 0 rfl rfl (vp_in_nI (n := 0) (N := 74) (by decide) (by decide)) dX3_adds_5 ?_
  refine lv_bipush (v := nI 6) hx hb dX3_adds_6 (by decide) ?_
  refine lv_icmp_ne (tgt := 13) hx hb dX3_adds_8 (by decide) (fun hc => ?_) (fun hc => ?_)
  · have hF := ift hc hF
    refine lv_aload_n hx hb dX3_adds_13 rfl (lv_at hl 0 rfl) ?_
    refine va_get (D := (dC, dI)) (ci := 3) (v := .ref (b 1)) (C := RX3) (T := TX3) (N := 15) hx hb hts inw_X3_adds_X3 hown hK hP 0 rfl rfl 0 (by decide) (hts (.fieldLink RX3 9 "DeniedOfEachOtherModel" "s" "[I") (List.mem_of_getElem? (i := 1) rfl)) (fun _ h9 => h9) rfl dX3_adds_14 ?_
    refine lv_iconst (v := nI 0) hx hb dX3_adds_17 (by decide) ?_
    refine va_iald (D := (dC, dI)) hx hb hK hP 1 0 rfl rfl (vp_in_nI (n := 0) (N := 74) (by decide) (by decide)) dX3_adds_18 ?_
    refine lv_istore (lv' := [(4, .int (tW.1 (nI 0).toNatClampNeg)), (0, .ref (b 0)), (1, .int p1), (2, .int p2), (3, .int p3)]) hx hb dX3_adds_19 hl (by decide) rfl (fun ls hl => ?_)
    refine lv_aload_n hx hb dX3_adds_21 rfl (lv_at hl 1 rfl) ?_
    refine va_get (D := (dC, dI)) (ci := 3) (v := .ref (b 1)) (C := RX3) (T := TX3) (N := 15) hx hb hts inw_X3_adds_X3 hown hK hP 0 rfl rfl 0 (by decide) (hts (.fieldLink RX3 9 "DeniedOfEachOtherModel" "s" "[I") (List.mem_of_getElem? (i := 1) rfl)) (fun _ h9 => h9) rfl dX3_adds_22 ?_
    refine lv_iload hx hb dX3_adds_25 (lv_at hl 0 rfl) ?_
    refine lv_iconst (v := nI 0) hx hb dX3_adds_27 (by decide) ?_
    have hPc := hP.sub (ws' := ([] : va_W)) [] rfl
    have hDc := hD.sub (ws' := ([] : va_W)) [] (by decide) rfl
    have hFc := va_free (wc := ([] : va_W)) hD hS hA [] rfl
    refine bd hF (fun r28 hG hF => ?_)
    refine va_calli (va_runS (As := [.int (tW.1 (nI 0).toNatClampNeg), .int (nI 0)]) (rest := [.ref (b 1)]) ⟨hx, hb, hml, hown, hts⟩ (c_X3_of l dC dI cI sf s.heap.size N  (tW.1 (nI 0).toNatClampNeg) (nI 0) r28 hG) (va_cwS 2 hts gX3_adds_X3_of rfl rfl rfl (by decide +kernel) ⟨Nat.le_of_ble_eq_true rfl, Nat.le_of_ble_eq_true rfl⟩) ⟨fun a U g mk q => ⟨q.1, q.2.call⟩, fun U hU hW => ⟨rfl, PB.of hU hW hPc hK hDc hNN hSF hS hFc⟩⟩ rfl rfl hl.1 rfl (lv_room (Nat.le_of_ble_eq_true rfl)) dX3_adds_28 ⟨Nat.le_of_ble_eq_true rfl, Nat.le_of_ble_eq_true rfl⟩) hS (fun q _ h => hFc q h) hFc (fun z_ u_ t H locs ht hvm hw hB hz1 hk1 hS => ?_)
    subst z_
    obtain ⟨hP1, hD1⟩ := hB
    rw [ht] at hP1
    have hJ := vb_join (ws' := (cwM cI b tW)) hP hD [] [0, 1, 2, 3, 4, 5, 6, 7, 8, 9] [0, 1, 2, 3, 4, 5, 6, 7, 8, 9] rfl rfl (by decide) (by decide) hk1 hFc hP1 hD1 rfl (by decide) rfl
    clear hP hD hPc hDc hFc hP1 hD1 hk1 hz1 ht hvm hG
    obtain ⟨hP, hD⟩ := hJ
    refine lv_iload_n hx hb dX3_adds_31 rfl (lv_at hl 2 rfl) ?_
    refine cki hF (fun hi hF => ?_)
    refine va_iast (D := (dC, dI)) hx hb hK hP hD hS 1 0 rfl rfl hi dX3_adds_32 (fun H locs hP hD hS => ?_)
    have hP : va_P (dC, dI) vwCl (cwM cI b ((upd tW.1 r28.toNatClampNeg p1), tW.2.1, tW.2.2.1, tW.2.2.2.1, tW.2.2.2.2.1, tW.2.2.2.2.2.1, tW.2.2.2.2.2.2.1, tW.2.2.2.2.2.2.2.1, tW.2.2.2.2.2.2.2.2.1, tW.2.2.2.2.2.2.2.2.2.1, tW.2.2.2.2.2.2.2.2.2.2.1, tW.2.2.2.2.2.2.2.2.2.2.2.1, tW.2.2.2.2.2.2.2.2.2.2.2.2.1, tW.2.2.2.2.2.2.2.2.2.2.2.2.2.1, tW.2.2.2.2.2.2.2.2.2.2.2.2.2.2)) H := hP
    have hD : va_D A (cwM cI b ((upd tW.1 r28.toNatClampNeg p1), tW.2.1, tW.2.2.1, tW.2.2.2.1, tW.2.2.2.2.1, tW.2.2.2.2.2.1, tW.2.2.2.2.2.2.1, tW.2.2.2.2.2.2.2.1, tW.2.2.2.2.2.2.2.2.1, tW.2.2.2.2.2.2.2.2.2.1, tW.2.2.2.2.2.2.2.2.2.2.1, tW.2.2.2.2.2.2.2.2.2.2.2.1, tW.2.2.2.2.2.2.2.2.2.2.2.2.1, tW.2.2.2.2.2.2.2.2.2.2.2.2.2.1, tW.2.2.2.2.2.2.2.2.2.2.2.2.2.2)) := hD
    refine lv_aload_n hx hb dX3_adds_33 rfl (lv_at hl 1 rfl) ?_
    refine va_get (D := (dC, dI)) (ci := 3) (v := .ref (b 1)) (C := RX3) (T := TX3) (N := 15) hx hb hts inw_X3_adds_X3 hown hK hP 0 rfl rfl 0 (by decide) (hts (.fieldLink RX3 9 "DeniedOfEachOtherModel" "s" "[I") (List.mem_of_getElem? (i := 1) rfl)) (fun _ h9 => h9) rfl dX3_adds_34 ?_
    refine lv_iload hx hb dX3_adds_37 (lv_at hl 0 rfl) ?_
    refine lv_iconst (v := nI 1) hx hb dX3_adds_39 (by decide) ?_
    have hPc := hP.sub (ws' := ([] : va_W)) [] rfl
    have hDc := hD.sub (ws' := ([] : va_W)) [] (by decide) rfl
    have hFc := va_free (wc := ([] : va_W)) hD hS hA [] rfl
    refine bd hF (fun r40 hG hF => ?_)
    refine va_calli (va_runS (As := [.int (tW.1 (nI 0).toNatClampNeg), .int (nI 1)]) (rest := [.ref (b 1)]) ⟨hx, hb, hml, hown, hts⟩ (c_X3_of l dC dI cI sf H.size N  (tW.1 (nI 0).toNatClampNeg) (nI 1) r40 hG) (va_cwS 2 hts gX3_adds_X3_of rfl rfl rfl (by decide +kernel) ⟨Nat.le_of_ble_eq_true rfl, Nat.le_of_ble_eq_true rfl⟩) ⟨fun a U g mk q => ⟨q.1, q.2.call⟩, fun U hU hW => ⟨rfl, PB.of hU hW hPc hK hDc hNN hSF hS hFc⟩⟩ rfl rfl hl.1 rfl (lv_room (Nat.le_of_ble_eq_true rfl)) dX3_adds_40 ⟨Nat.le_of_ble_eq_true rfl, Nat.le_of_ble_eq_true rfl⟩) hS (fun q _ h => hFc q h) hFc (fun z_ u_ t H locs ht hvm hw hB hz1 hk1 hS => ?_)
    subst z_
    obtain ⟨hP1, hD1⟩ := hB
    rw [ht] at hP1
    have hJ := vb_join (ws' := (cwM cI b ((upd tW.1 r28.toNatClampNeg p1), tW.2.1, tW.2.2.1, tW.2.2.2.1, tW.2.2.2.2.1, tW.2.2.2.2.2.1, tW.2.2.2.2.2.2.1, tW.2.2.2.2.2.2.2.1, tW.2.2.2.2.2.2.2.2.1, tW.2.2.2.2.2.2.2.2.2.1, tW.2.2.2.2.2.2.2.2.2.2.1, tW.2.2.2.2.2.2.2.2.2.2.2.1, tW.2.2.2.2.2.2.2.2.2.2.2.2.1, tW.2.2.2.2.2.2.2.2.2.2.2.2.2.1, tW.2.2.2.2.2.2.2.2.2.2.2.2.2.2))) hP hD [] [0, 1, 2, 3, 4, 5, 6, 7, 8, 9] [0, 1, 2, 3, 4, 5, 6, 7, 8, 9] rfl rfl (by decide) (by decide) hk1 hFc hP1 hD1 rfl (by decide) rfl
    clear hP hD hPc hDc hFc hP1 hD1 hk1 hz1 ht hvm hG
    obtain ⟨hP, hD⟩ := hJ
    refine lv_iload_n hx hb dX3_adds_43 rfl (lv_at hl 3 rfl) ?_
    refine cki hF (fun hi hF => ?_)
    refine va_iast (D := (dC, dI)) hx hb hK hP hD hS 1 0 rfl rfl hi dX3_adds_44 (fun H locs hP hD hS => ?_)
    have hP : va_P (dC, dI) vwCl (cwM cI b ((upd (upd tW.1 r28.toNatClampNeg p1) r40.toNatClampNeg p2), tW.2.1, tW.2.2.1, tW.2.2.2.1, tW.2.2.2.2.1, tW.2.2.2.2.2.1, tW.2.2.2.2.2.2.1, tW.2.2.2.2.2.2.2.1, tW.2.2.2.2.2.2.2.2.1, tW.2.2.2.2.2.2.2.2.2.1, tW.2.2.2.2.2.2.2.2.2.2.1, tW.2.2.2.2.2.2.2.2.2.2.2.1, tW.2.2.2.2.2.2.2.2.2.2.2.2.1, tW.2.2.2.2.2.2.2.2.2.2.2.2.2.1, tW.2.2.2.2.2.2.2.2.2.2.2.2.2.2)) H := hP
    have hD : va_D A (cwM cI b ((upd (upd tW.1 r28.toNatClampNeg p1) r40.toNatClampNeg p2), tW.2.1, tW.2.2.1, tW.2.2.2.1, tW.2.2.2.2.1, tW.2.2.2.2.2.1, tW.2.2.2.2.2.2.1, tW.2.2.2.2.2.2.2.1, tW.2.2.2.2.2.2.2.2.1, tW.2.2.2.2.2.2.2.2.2.1, tW.2.2.2.2.2.2.2.2.2.2.1, tW.2.2.2.2.2.2.2.2.2.2.2.1, tW.2.2.2.2.2.2.2.2.2.2.2.2.1, tW.2.2.2.2.2.2.2.2.2.2.2.2.2.1, tW.2.2.2.2.2.2.2.2.2.2.2.2.2.2)) := hD
    refine lv_aload_n hx hb dX3_adds_45 rfl (lv_at hl 1 rfl) ?_
    refine va_get (D := (dC, dI)) (ci := 3) (v := .ref (b 1)) (C := RX3) (T := TX3) (N := 15) hx hb hts inw_X3_adds_X3 hown hK hP 0 rfl rfl 0 (by decide) (hts (.fieldLink RX3 9 "DeniedOfEachOtherModel" "s" "[I") (List.mem_of_getElem? (i := 1) rfl)) (fun _ h9 => h9) rfl dX3_adds_46 ?_
    refine lv_iload hx hb dX3_adds_49 (lv_at hl 0 rfl) ?_
    refine lv_iconst (v := nI 2) hx hb dX3_adds_51 (by decide) ?_
    have hPc := hP.sub (ws' := ([] : va_W)) [] rfl
    have hDc := hD.sub (ws' := ([] : va_W)) [] (by decide) rfl
    have hFc := va_free (wc := ([] : va_W)) hD hS hA [] rfl
    refine bd hF (fun r52 hG hF => ?_)
    refine va_calli (va_runS (As := [.int (tW.1 (nI 0).toNatClampNeg), .int (nI 2)]) (rest := [.ref (b 1)]) ⟨hx, hb, hml, hown, hts⟩ (c_X3_of l dC dI cI sf H.size N  (tW.1 (nI 0).toNatClampNeg) (nI 2) r52 hG) (va_cwS 2 hts gX3_adds_X3_of rfl rfl rfl (by decide +kernel) ⟨Nat.le_of_ble_eq_true rfl, Nat.le_of_ble_eq_true rfl⟩) ⟨fun a U g mk q => ⟨q.1, q.2.call⟩, fun U hU hW => ⟨rfl, PB.of hU hW hPc hK hDc hNN hSF hS hFc⟩⟩ rfl rfl hl.1 rfl (lv_room (Nat.le_of_ble_eq_true rfl)) dX3_adds_52 ⟨Nat.le_of_ble_eq_true rfl, Nat.le_of_ble_eq_true rfl⟩) hS (fun q _ h => hFc q h) hFc (fun z_ u_ t H locs ht hvm hw hB hz1 hk1 hS => ?_)
    subst z_
    obtain ⟨hP1, hD1⟩ := hB
    rw [ht] at hP1
    have hJ := vb_join (ws' := (cwM cI b ((upd (upd tW.1 r28.toNatClampNeg p1) r40.toNatClampNeg p2), tW.2.1, tW.2.2.1, tW.2.2.2.1, tW.2.2.2.2.1, tW.2.2.2.2.2.1, tW.2.2.2.2.2.2.1, tW.2.2.2.2.2.2.2.1, tW.2.2.2.2.2.2.2.2.1, tW.2.2.2.2.2.2.2.2.2.1, tW.2.2.2.2.2.2.2.2.2.2.1, tW.2.2.2.2.2.2.2.2.2.2.2.1, tW.2.2.2.2.2.2.2.2.2.2.2.2.1, tW.2.2.2.2.2.2.2.2.2.2.2.2.2.1, tW.2.2.2.2.2.2.2.2.2.2.2.2.2.2))) hP hD [] [0, 1, 2, 3, 4, 5, 6, 7, 8, 9] [0, 1, 2, 3, 4, 5, 6, 7, 8, 9] rfl rfl (by decide) (by decide) hk1 hFc hP1 hD1 rfl (by decide) rfl
    clear hP hD hPc hDc hFc hP1 hD1 hk1 hz1 ht hvm hG
    obtain ⟨hP, hD⟩ := hJ
    refine lv_iload_n hx hb dX3_adds_55 rfl (lv_at hl 4 rfl) ?_
    refine cki hF (fun hi hF => ?_)
    refine va_iast (D := (dC, dI)) hx hb hK hP hD hS 1 0 rfl rfl hi dX3_adds_56 (fun H locs hP hD hS => ?_)
    have hP : va_P (dC, dI) vwCl (cwM cI b ((upd (upd (upd tW.1 r28.toNatClampNeg p1) r40.toNatClampNeg p2) r52.toNatClampNeg p3), tW.2.1, tW.2.2.1, tW.2.2.2.1, tW.2.2.2.2.1, tW.2.2.2.2.2.1, tW.2.2.2.2.2.2.1, tW.2.2.2.2.2.2.2.1, tW.2.2.2.2.2.2.2.2.1, tW.2.2.2.2.2.2.2.2.2.1, tW.2.2.2.2.2.2.2.2.2.2.1, tW.2.2.2.2.2.2.2.2.2.2.2.1, tW.2.2.2.2.2.2.2.2.2.2.2.2.1, tW.2.2.2.2.2.2.2.2.2.2.2.2.2.1, tW.2.2.2.2.2.2.2.2.2.2.2.2.2.2)) H := hP
    have hD : va_D A (cwM cI b ((upd (upd (upd tW.1 r28.toNatClampNeg p1) r40.toNatClampNeg p2) r52.toNatClampNeg p3), tW.2.1, tW.2.2.1, tW.2.2.2.1, tW.2.2.2.2.1, tW.2.2.2.2.2.1, tW.2.2.2.2.2.2.1, tW.2.2.2.2.2.2.2.1, tW.2.2.2.2.2.2.2.2.1, tW.2.2.2.2.2.2.2.2.2.1, tW.2.2.2.2.2.2.2.2.2.2.1, tW.2.2.2.2.2.2.2.2.2.2.2.1, tW.2.2.2.2.2.2.2.2.2.2.2.2.1, tW.2.2.2.2.2.2.2.2.2.2.2.2.2.1, tW.2.2.2.2.2.2.2.2.2.2.2.2.2.2)) := hD
    refine lv_aload_n hx hb dX3_adds_57 rfl (lv_at hl 1 rfl) ?_
    refine va_get (D := (dC, dI)) (ci := 3) (v := .ref (b 1)) (C := RX3) (T := TX3) (N := 15) hx hb hts inw_X3_adds_X3 hown hK hP 0 rfl rfl 0 (by decide) (hts (.fieldLink RX3 9 "DeniedOfEachOtherModel" "s" "[I") (List.mem_of_getElem? (i := 1) rfl)) (fun _ h9 => h9) rfl dX3_adds_58 ?_
    refine lv_iload hx hb dX3_adds_61 (lv_at hl 0 rfl) ?_
    refine lv_iconst (v := nI 3) hx hb dX3_adds_63 (by decide) ?_
    have hPc := hP.sub (ws' := ([] : va_W)) [] rfl
    have hDc := hD.sub (ws' := ([] : va_W)) [] (by decide) rfl
    have hFc := va_free (wc := ([] : va_W)) hD hS hA [] rfl
    refine bd hF (fun r64 hG hF => ?_)
    refine va_calli (va_runS (As := [.int (tW.1 (nI 0).toNatClampNeg), .int (nI 3)]) (rest := [.ref (b 1)]) ⟨hx, hb, hml, hown, hts⟩ (c_X3_of l dC dI cI sf H.size N  (tW.1 (nI 0).toNatClampNeg) (nI 3) r64 hG) (va_cwS 2 hts gX3_adds_X3_of rfl rfl rfl (by decide +kernel) ⟨Nat.le_of_ble_eq_true rfl, Nat.le_of_ble_eq_true rfl⟩) ⟨fun a U g mk q => ⟨q.1, q.2.call⟩, fun U hU hW => ⟨rfl, PB.of hU hW hPc hK hDc hNN hSF hS hFc⟩⟩ rfl rfl hl.1 rfl (lv_room (Nat.le_of_ble_eq_true rfl)) dX3_adds_64 ⟨Nat.le_of_ble_eq_true rfl, Nat.le_of_ble_eq_true rfl⟩) hS (fun q _ h => hFc q h) hFc (fun z_ u_ t H locs ht hvm hw hB hz1 hk1 hS => ?_)
    subst z_
    obtain ⟨hP1, hD1⟩ := hB
    rw [ht] at hP1
    have hJ := vb_join (ws' := (cwM cI b ((upd (upd (upd tW.1 r28.toNatClampNeg p1) r40.toNatClampNeg p2) r52.toNatClampNeg p3), tW.2.1, tW.2.2.1, tW.2.2.2.1, tW.2.2.2.2.1, tW.2.2.2.2.2.1, tW.2.2.2.2.2.2.1, tW.2.2.2.2.2.2.2.1, tW.2.2.2.2.2.2.2.2.1, tW.2.2.2.2.2.2.2.2.2.1, tW.2.2.2.2.2.2.2.2.2.2.1, tW.2.2.2.2.2.2.2.2.2.2.2.1, tW.2.2.2.2.2.2.2.2.2.2.2.2.1, tW.2.2.2.2.2.2.2.2.2.2.2.2.2.1, tW.2.2.2.2.2.2.2.2.2.2.2.2.2.2))) hP hD [] [0, 1, 2, 3, 4, 5, 6, 7, 8, 9] [0, 1, 2, 3, 4, 5, 6, 7, 8, 9] rfl rfl (by decide) (by decide) hk1 hFc hP1 hD1 rfl (by decide) rfl
    clear hP hD hPc hDc hFc hP1 hD1 hk1 hz1 ht hvm hG
    obtain ⟨hP, hD⟩ := hJ
    refine lv_iconst (v := nI 0) hx hb dX3_adds_67 (by decide) ?_
    refine cki hF (fun hi hF => ?_)
    refine va_iast (D := (dC, dI)) hx hb hK hP hD hS 1 0 rfl rfl hi dX3_adds_68 (fun H locs hP hD hS => ?_)
    have hP : va_P (dC, dI) vwCl (cwM cI b ((upd (upd (upd (upd tW.1 r28.toNatClampNeg p1) r40.toNatClampNeg p2) r52.toNatClampNeg p3) r64.toNatClampNeg (nI 0)), tW.2.1, tW.2.2.1, tW.2.2.2.1, tW.2.2.2.2.1, tW.2.2.2.2.2.1, tW.2.2.2.2.2.2.1, tW.2.2.2.2.2.2.2.1, tW.2.2.2.2.2.2.2.2.1, tW.2.2.2.2.2.2.2.2.2.1, tW.2.2.2.2.2.2.2.2.2.2.1, tW.2.2.2.2.2.2.2.2.2.2.2.1, tW.2.2.2.2.2.2.2.2.2.2.2.2.1, tW.2.2.2.2.2.2.2.2.2.2.2.2.2.1, tW.2.2.2.2.2.2.2.2.2.2.2.2.2.2)) H := hP
    have hD : va_D A (cwM cI b ((upd (upd (upd (upd tW.1 r28.toNatClampNeg p1) r40.toNatClampNeg p2) r52.toNatClampNeg p3) r64.toNatClampNeg (nI 0)), tW.2.1, tW.2.2.1, tW.2.2.2.1, tW.2.2.2.2.1, tW.2.2.2.2.2.1, tW.2.2.2.2.2.2.1, tW.2.2.2.2.2.2.2.1, tW.2.2.2.2.2.2.2.2.1, tW.2.2.2.2.2.2.2.2.2.1, tW.2.2.2.2.2.2.2.2.2.2.1, tW.2.2.2.2.2.2.2.2.2.2.2.1, tW.2.2.2.2.2.2.2.2.2.2.2.2.1, tW.2.2.2.2.2.2.2.2.2.2.2.2.2.1, tW.2.2.2.2.2.2.2.2.2.2.2.2.2.2)) := hD
    refine lv_iconst (v := nI 0) hx hb dX3_adds_69 (by decide) ?_
    refine vW_have (fun R av Q => ∀ (n72 : Nat) (tW : MS) (x4 : Int32) (x5 : Int32) (H : Heap) (locs : List Loc) (ls : Array Slot), F_X3_adds_72 N n72 tW x4 x5 = some r → va_P (dC, dI) vwCl (cwM cI b tW) H → va_D A (cwM cI b tW) → va_S A s.heap H locs → lv_has ls 6 [(0, .ref (b 0)), (4, .int x4), (5, .int x5)] → W p l e R s m av below meth c H locs 0 0 Q (F0 m 72 ls [])) ?_ (fun kJ72 => ?_)
    · intro n72
      induction n72 with
      | zero => intro tW x4 x5 H locs ls hF; exact nn hF
      | succ n72 ih72 =>
        intro tW x4 x5 H locs ls hF hP hD hS hl
        rw [F_X3_adds_72] at hF
        refine lv_iload hx hb dX3_adds_72 (lv_at hl 2 rfl) ?_
        refine lv_bipush (v := nI 8) hx hb dX3_adds_74 (by decide) ?_
        refine vW_have (fun R av Q => ∀ (tW : MS) (H : Heap) (locs : List Loc) (ls : Array Slot), F_X3_adds_100 N tW = some r → va_P (dC, dI) vwCl (cwM cI b tW) H → va_D A (cwM cI b tW) → va_S A s.heap H locs → lv_has ls 6 [(0, .ref (b 0))] → W p l e R s m av below meth c H locs 0 0 Q (F0 m 100 ls [])) ?_ (fun kJ100 => ?_)
        · 
          intro tW H locs ls hF hP hD hS hl
          rw [F_X3_adds_100] at hF
          refine lv_aload_n hx hb dX3_adds_100 rfl (lv_at hl 0 rfl) ?_
          refine va_get (D := (dC, dI)) (ci := 3) (v := .ref (b 1)) (C := RX3) (T := TX3) (N := 15) hx hb hts inw_X3_adds_X3 hown hK hP 0 rfl rfl 0 (by decide) (hts (.fieldLink RX3 9 "DeniedOfEachOtherModel" "s" "[I") (List.mem_of_getElem? (i := 1) rfl)) (fun _ h9 => h9) rfl dX3_adds_101 ?_
          refine lv_iconst (v := nI 0) hx hb dX3_adds_104 (by decide) ?_
          refine lv_dup2_11 hx hb dX3_adds_105 rfl rfl ?_
          refine va_iald (D := (dC, dI)) hx hb hK hP 1 0 rfl rfl (vp_in_nI (n := 0) (N := 74) (by decide) (by decide)) dX3_adds_106 ?_
          refine lv_iconst (v := nI 1) hx hb dX3_adds_107 (by decide) ?_
          refine lv_iadd hx hb dX3_adds_108 ?_
          refine va_iast (D := (dC, dI)) hx hb hK hP hD hS 1 0 rfl rfl (vp_in_nI (n := 0) (N := 74) (by decide) (by decide)) dX3_adds_109 (fun H locs hP hD hS => ?_)
          have hP : va_P (dC, dI) vwCl (cwM cI b ((upd tW.1 (nI 0).toNatClampNeg ((tW.1 (nI 0).toNatClampNeg) + (nI 1))), tW.2.1, tW.2.2.1, tW.2.2.2.1, tW.2.2.2.2.1, tW.2.2.2.2.2.1, tW.2.2.2.2.2.2.1, tW.2.2.2.2.2.2.2.1, tW.2.2.2.2.2.2.2.2.1, tW.2.2.2.2.2.2.2.2.2.1, tW.2.2.2.2.2.2.2.2.2.2.1, tW.2.2.2.2.2.2.2.2.2.2.2.1, tW.2.2.2.2.2.2.2.2.2.2.2.2.1, tW.2.2.2.2.2.2.2.2.2.2.2.2.2.1, tW.2.2.2.2.2.2.2.2.2.2.2.2.2.2)) H := hP
          have hD : va_D A (cwM cI b ((upd tW.1 (nI 0).toNatClampNeg ((tW.1 (nI 0).toNatClampNeg) + (nI 1))), tW.2.1, tW.2.2.1, tW.2.2.2.1, tW.2.2.2.2.1, tW.2.2.2.2.2.1, tW.2.2.2.2.2.2.1, tW.2.2.2.2.2.2.2.1, tW.2.2.2.2.2.2.2.2.1, tW.2.2.2.2.2.2.2.2.2.1, tW.2.2.2.2.2.2.2.2.2.2.1, tW.2.2.2.2.2.2.2.2.2.2.2.1, tW.2.2.2.2.2.2.2.2.2.2.2.2.1, tW.2.2.2.2.2.2.2.2.2.2.2.2.2.1, tW.2.2.2.2.2.2.2.2.2.2.2.2.2.2)) := hD
          refine lv_iconst (v := nI 1) hx hb dX3_adds_110 (by decide) ?_
          obtain rfl := Option.some.inj hF
          exact W.zret (v := (nI 1)) (ty := .boolean) hx hb hr (by decide +kernel) (fun t ht hW => ⟨⟨(nI 1), (), rfl, rfl, QB.of ht hP hD⟩, hS.F ht⟩) hS.2.2 dX3_adds_111
        refine lv_icmp_ge (tgt := 100) hx hb dX3_adds_76 (by decide) (fun hc => ?_) (fun hc => ?_)
        · have hF := ift hc hF
          exact kJ100 tW _ _ _ hF hP hD hS (lv_sub hl [0] rfl)
        · have hF := iff_ hc hF
          refine lv_aload_n hx hb dX3_adds_79 rfl (lv_at hl 0 rfl) ?_
          refine va_get (D := (dC, dI)) (ci := 3) (v := .ref (b 1)) (C := RX3) (T := TX3) (N := 15) hx hb hts inw_X3_adds_X3 hown hK hP 0 rfl rfl 0 (by decide) (hts (.fieldLink RX3 9 "DeniedOfEachOtherModel" "s" "[I") (List.mem_of_getElem? (i := 1) rfl)) (fun _ h9 => h9) rfl dX3_adds_80 ?_
          refine lv_iload hx hb dX3_adds_83 (lv_at hl 1 rfl) ?_
          refine lv_iconst (v := nI 4) hx hb dX3_adds_85 (by decide) ?_
          refine lv_iload hx hb dX3_adds_86 (lv_at hl 2 rfl) ?_
          refine lv_iadd hx hb dX3_adds_88 ?_
          have hPc := hP.sub (ws' := ([] : va_W)) [] rfl
          have hDc := hD.sub (ws' := ([] : va_W)) [] (by decide) rfl
          have hFc := va_free (wc := ([] : va_W)) hD hS hA [] rfl
          refine bd hF (fun r89 hG hF => ?_)
          refine va_calli (va_runS (As := [.int x4, .int ((nI 4) + x5)]) (rest := [.ref (b 1)]) ⟨hx, hb, hml, hown, hts⟩ (c_X3_of l dC dI cI sf H.size N  x4 ((nI 4) + x5) r89 hG) (va_cwS 2 hts gX3_adds_X3_of rfl rfl rfl (by decide +kernel) ⟨Nat.le_of_ble_eq_true rfl, Nat.le_of_ble_eq_true rfl⟩) ⟨fun a U g mk q => ⟨q.1, q.2.call⟩, fun U hU hW => ⟨rfl, PB.of hU hW hPc hK hDc hNN hSF hS hFc⟩⟩ rfl rfl hl.1 rfl (lv_room (Nat.le_of_ble_eq_true rfl)) dX3_adds_89 ⟨Nat.le_of_ble_eq_true rfl, Nat.le_of_ble_eq_true rfl⟩) hS (fun q _ h => hFc q h) hFc (fun z_ u_ t H locs ht hvm hw hB hz1 hk1 hS => ?_)
          subst z_
          obtain ⟨hP1, hD1⟩ := hB
          rw [ht] at hP1
          have hJ := vb_join (ws' := (cwM cI b tW)) hP hD [] [0, 1, 2, 3, 4, 5, 6, 7, 8, 9] [0, 1, 2, 3, 4, 5, 6, 7, 8, 9] rfl rfl (by decide) (by decide) hk1 hFc hP1 hD1 rfl (by decide) rfl
          clear hP hD hPc hDc hFc hP1 hD1 hk1 hz1 ht hvm hG
          obtain ⟨hP, hD⟩ := hJ
          refine lv_iconst (v := nI 0) hx hb dX3_adds_92 (by decide) ?_
          refine cki hF (fun hi hF => ?_)
          refine va_iast (D := (dC, dI)) hx hb hK hP hD hS 1 0 rfl rfl hi dX3_adds_93 (fun H locs hP hD hS => ?_)
          have hP : va_P (dC, dI) vwCl (cwM cI b ((upd tW.1 r89.toNatClampNeg (nI 0)), tW.2.1, tW.2.2.1, tW.2.2.2.1, tW.2.2.2.2.1, tW.2.2.2.2.2.1, tW.2.2.2.2.2.2.1, tW.2.2.2.2.2.2.2.1, tW.2.2.2.2.2.2.2.2.1, tW.2.2.2.2.2.2.2.2.2.1, tW.2.2.2.2.2.2.2.2.2.2.1, tW.2.2.2.2.2.2.2.2.2.2.2.1, tW.2.2.2.2.2.2.2.2.2.2.2.2.1, tW.2.2.2.2.2.2.2.2.2.2.2.2.2.1, tW.2.2.2.2.2.2.2.2.2.2.2.2.2.2)) H := hP
          have hD : va_D A (cwM cI b ((upd tW.1 r89.toNatClampNeg (nI 0)), tW.2.1, tW.2.2.1, tW.2.2.2.1, tW.2.2.2.2.1, tW.2.2.2.2.2.1, tW.2.2.2.2.2.2.1, tW.2.2.2.2.2.2.2.1, tW.2.2.2.2.2.2.2.2.1, tW.2.2.2.2.2.2.2.2.2.1, tW.2.2.2.2.2.2.2.2.2.2.1, tW.2.2.2.2.2.2.2.2.2.2.2.1, tW.2.2.2.2.2.2.2.2.2.2.2.2.1, tW.2.2.2.2.2.2.2.2.2.2.2.2.2.1, tW.2.2.2.2.2.2.2.2.2.2.2.2.2.2)) := hD
          refine lv_iinc (v := x5 + (nI 1)) (lv' := [(5, .int (x5 + (nI 1))), (0, .ref (b 0)), (4, .int x4)]) hx hb dX3_adds_94 hl (k := 2) rfl (by rfl) (by decide) rfl (fun ls hl => ?_)
          refine lv_goto (tgt := 72) hx hb dX3_adds_97 (by decide) ?_
          exact ih72 ((upd tW.1 r89.toNatClampNeg (nI 0)), tW.2.1, tW.2.2.1, tW.2.2.2.1, tW.2.2.2.2.1, tW.2.2.2.2.2.1, tW.2.2.2.2.2.2.1, tW.2.2.2.2.2.2.2.1, tW.2.2.2.2.2.2.2.2.1, tW.2.2.2.2.2.2.2.2.2.1, tW.2.2.2.2.2.2.2.2.2.2.1, tW.2.2.2.2.2.2.2.2.2.2.2.1, tW.2.2.2.2.2.2.2.2.2.2.2.2.1, tW.2.2.2.2.2.2.2.2.2.2.2.2.2.1, tW.2.2.2.2.2.2.2.2.2.2.2.2.2.2) x4 (x5 + (nI 1)) _ _ _ hF hP hD hS (lv_sub hl [1, 2, 0] rfl)
    refine lv_istore (lv' := [(5, .int (nI 0)), (4, .int (tW.1 (nI 0).toNatClampNeg)), (0, .ref (b 0)), (1, .int p1), (2, .int p2), (3, .int p3)]) hx hb dX3_adds_70 hl (by decide) rfl (fun ls hl => ?_)
    exact kJ72 N ((upd (upd (upd (upd tW.1 r28.toNatClampNeg p1) r40.toNatClampNeg p2) r52.toNatClampNeg p3) r64.toNatClampNeg (nI 0)), tW.2.1, tW.2.2.1, tW.2.2.2.1, tW.2.2.2.2.1, tW.2.2.2.2.2.1, tW.2.2.2.2.2.2.1, tW.2.2.2.2.2.2.2.1, tW.2.2.2.2.2.2.2.2.1, tW.2.2.2.2.2.2.2.2.2.1, tW.2.2.2.2.2.2.2.2.2.2.1, tW.2.2.2.2.2.2.2.2.2.2.2.1, tW.2.2.2.2.2.2.2.2.2.2.2.2.1, tW.2.2.2.2.2.2.2.2.2.2.2.2.2.1, tW.2.2.2.2.2.2.2.2.2.2.2.2.2.2) (tW.1 (nI 0).toNatClampNeg) (nI 0) _ _ _ hF hP hD hS (lv_sub hl [2, 1, 0] rfl)
  · have hF := iff_ (fun h => h hc) hF
    refine lv_iconst (v := nI 0) hx hb dX3_adds_11 (by decide) ?_
    obtain rfl := Option.some.inj hF
    exact W.zret (v := (nI 0)) (ty := .boolean) hx hb hr (by decide +kernel) (fun t ht hW => ⟨⟨(nI 0), (), rfl, rfl, QB.of ht hP hD⟩, hS.F ht⟩) hS.2.2 dX3_adds_12
set_option maxHeartbeats 4000000 in
set_option maxRecDepth 100000 in
theorem c_X3_isIn (l : Launch) (dC : Nat → ClassId) (dI : Nat → Nat → Nat) (cI : ClassId) (sf : SFP) (sz : Nat) (N : Nat) (p0 : Int32) (p1 : Int32) (p2 : Int32) (r : Int32) (hF : F_X3_isIn N p0 p1 p2 = some r) : Met l yX3_isIn wsX3_isIn ({ frames := 0, cells := 0, slots := 0, locals := 0 }) (va_Pc [.int p0, .int p1, .int p2] (PB (dC, dI) cI ([] : va_W) sz sf)) (va_Qi (fun (z : Int32) (_ : Unit) => z = r) (fun _ t => QB (dC, dI) ([] : va_W) (va_A ([] : va_W) sz) t) (va_A ([] : va_W) sz)) 0 0 (va_A ([] : va_W) sz) := by
  refine Met.ofW (cc := cX3_isIn) (maxL := 3) (ret := (some .boolean)) (by decide) rfl ?_
  intro p e s m args below meth c s₁ B hml hv
  obtain ⟨rfl, hsz, hP, hK, hD0, hNN, hSF⟩ := hv
  have hx := B.exec
  have hb := B.bytes
  have hr := B.returns
  have hts := atoms_spec (ws := wsX3_isIn) B.pre
  have hown : s.vm.findClass RX3 = some m.cls := findClass_of_methodNamed B.named
  have hlocks := B.notSynchronized
  subst hsz
  have hD := hD0.self (sz := s.heap.size)
  generalize hAe : va_A ([] : va_W) s.heap.size = A at hD hSF ⊢
  have hA : ∀ q : Nat, s.heap.size ≤ q → A q := fun q h => by rw [← hAe]; exact Or.inr h
  clear hAe hD0
  have hS : va_S A s.heap s.heap [] := va_S.rf
  have hl := lv_entry ([.int p0, .int p1, .int p2]) (n := 3) (Nat.le_of_ble_eq_true rfl)
  rw [lg_entry_eq]
  generalize (lg_sl ([.int p0, .int p1, .int p2]) ++ List.replicate (3 - (lg_sl ([.int p0, .int p1, .int p2])).length) Slot.unset).toArray = ls at hl ⊢
  have hl : lv_has ls 3 [(0, .int p0), (1, .int p1), (2, .int p2)] := hl
  rw [F_X3_isIn] at hF
  refine lv_iload_n hx hb dX3_isIn_0 rfl (lv_at hl 0 rfl) ?_
  refine lv_iload_n hx hb dX3_isIn_1 rfl (lv_at hl 1 rfl) ?_
  refine lv_icmp_lt (tgt := 14) hx hb dX3_isIn_2 (by decide) (fun hc => ?_) (fun hc => ?_)
  · have hF := ift hc hF
    refine lv_iconst (v := nI 0) hx hb dX3_isIn_14 (by decide) ?_
    obtain rfl := Option.some.inj hF
    exact W.zret (v := (nI 0)) (ty := .boolean) hx hb hr (by decide +kernel) (fun t ht hW => ⟨⟨(nI 0), (), rfl, rfl, QB.of ht hP hD⟩, hS.F ht⟩) hS.2.2 dX3_isIn_15
  · have hF := iff_ hc hF
    refine lv_iload_n hx hb dX3_isIn_5 rfl (lv_at hl 0 rfl) ?_
    refine lv_iload_n hx hb dX3_isIn_6 rfl (lv_at hl 2 rfl) ?_
    refine lv_icmp_gt (tgt := 14) hx hb dX3_isIn_7 (by decide) (fun hc => ?_) (fun hc => ?_)
    · have hF := ift hc hF
      refine lv_iconst (v := nI 0) hx hb dX3_isIn_14 (by decide) ?_
      obtain rfl := Option.some.inj hF
      exact W.zret (v := (nI 0)) (ty := .boolean) hx hb hr (by decide +kernel) (fun t ht hW => ⟨⟨(nI 0), (), rfl, rfl, QB.of ht hP hD⟩, hS.F ht⟩) hS.2.2 dX3_isIn_15
    · have hF := iff_ hc hF
      refine lv_iconst (v := nI 1) hx hb dX3_isIn_10 (by decide) ?_
      refine lv_goto (tgt := 15) hx hb dX3_isIn_11 (by decide) ?_
      obtain rfl := Option.some.inj hF
      exact W.zret (v := (nI 1)) (ty := .boolean) hx hb hr (by decide +kernel) (fun t ht hW => ⟨⟨(nI 1), (), rfl, rfl, QB.of ht hP hD⟩, hS.F ht⟩) hS.2.2 dX3_isIn_15
theorem inw_X3_isCitizen_X3 : ∀ w ∈ u_ws RX3 TX3 15, w ∈ wsX3_isCitizen := fun _ h => List.mem_cons_of_mem _ (List.mem_append_right _ h)
set_option maxHeartbeats 4000000 in
set_option maxRecDepth 100000 in
theorem c_X3_isCitizen (l : Launch) (dC : Nat → ClassId) (dI : Nat → Nat → Nat) (cI : ClassId) (sf : SFP) (sz : Nat) (N : Nat) (b : Nat → Nat) (tW : MS) (p1 : Int32) (r : Int32) (hF : F_X3_isCitizen N tW p1 = some r) : Met l yX3_isCitizen wsX3_isCitizen ({ frames := 1, cells := 0, slots := 0, locals := 22 }) (va_Pc [.ref (b 0), .int p1] (PB (dC, dI) cI (cwM cI b tW) sz sf)) (va_Qi (fun (z : Int32) (_ : Unit) => z = r) (fun _ t => QB (dC, dI) (cwM cI b tW) (va_A (cwM cI b tW) sz) t) (va_A (cwM cI b tW) sz)) 0 0 (va_A (cwM cI b tW) sz) := by
  refine Met.ofW (cc := cX3_isCitizen) (maxL := 2) (ret := (some .boolean)) (by decide) rfl ?_
  intro p e s m args below meth c s₁ B hml hv
  obtain ⟨rfl, hsz, hP, hK, hD0, hNN, hSF⟩ := hv
  have hx := B.exec
  have hb := B.bytes
  have hr := B.returns
  have hts := atoms_spec (ws := wsX3_isCitizen) B.pre
  have hown : s.vm.findClass RX3 = some m.cls := findClass_of_methodNamed B.named
  have hlocks := B.notSynchronized
  subst hsz
  have hD := hD0.self (sz := s.heap.size)
  generalize hAe : va_A (cwM cI b tW) s.heap.size = A at hD hSF ⊢
  have hA : ∀ q : Nat, s.heap.size ≤ q → A q := fun q h => by rw [← hAe]; exact Or.inr h
  clear hAe hD0
  have hS : va_S A s.heap s.heap [] := va_S.rf
  have hl := lv_entry ([.ref (b 0), .int p1]) (n := 2) (Nat.le_of_ble_eq_true rfl)
  rw [lg_entry_eq]
  generalize (lg_sl ([.ref (b 0), .int p1]) ++ List.replicate (2 - (lg_sl ([.ref (b 0), .int p1])).length) Slot.unset).toArray = ls at hl ⊢
  have hl : lv_has ls 2 [(0, .ref (b 0)), (1, .int p1)] := hl
  rw [F_X3_isCitizen] at hF
  refine lv_iload_n hx hb dX3_isCitizen_0 rfl (lv_at hl 1 rfl) ?_
  refine lv_iconst (v := nI 0) hx hb dX3_isCitizen_1 (by decide) ?_
  refine lv_aload_n hx hb dX3_isCitizen_2 rfl (lv_at hl 0 rfl) ?_
  refine va_get (D := (dC, dI)) (ci := 3) (v := .ref (b 1)) (C := RX3) (T := TX3) (N := 15) hx hb hts inw_X3_isCitizen_X3 hown hK hP 0 rfl rfl 0 (by decide) (hts (.fieldLink RX3 9 "DeniedOfEachOtherModel" "s" "[I") (List.mem_of_getElem? (i := 1) rfl)) (fun _ h9 => h9) rfl dX3_isCitizen_3 ?_
  refine lv_iconst (v := nI 0) hx hb dX3_isCitizen_6 (by decide) ?_
  refine va_iald (D := (dC, dI)) hx hb hK hP 1 0 rfl rfl (vp_in_nI (n := 0) (N := 74) (by decide) (by decide)) dX3_isCitizen_7 ?_
  refine lv_iconst (v := nI 1) hx hb dX3_isCitizen_8 (by decide) ?_
  refine lv_isub hx hb dX3_isCitizen_9 ?_
  have hPc := hP.sub (ws' := ([] : va_W)) [] rfl
  have hDc := hD.sub (ws' := ([] : va_W)) [] (by decide) rfl
  have hFc := va_free (wc := ([] : va_W)) hD hS hA [] rfl
  refine bd hF (fun r10 hG hF => ?_)
  refine va_calli (va_runS (As := [.int p1, .int (nI 0), .int ((tW.1 (nI 0).toNatClampNeg) - (nI 1))]) (rest := []) ⟨hx, hb, hml, hown, hts⟩ (c_X3_isIn l dC dI cI sf s.heap.size N  p1 (nI 0) ((tW.1 (nI 0).toNatClampNeg) - (nI 1)) r10 hG) (va_cwS 3 hts gX3_isCitizen_X3_isIn rfl rfl rfl (by decide +kernel) ⟨Nat.le_of_ble_eq_true rfl, Nat.le_of_ble_eq_true rfl⟩) ⟨fun a U g mk q => ⟨q.1, q.2.call⟩, fun U hU hW => ⟨rfl, PB.of hU hW hPc hK hDc hNN hSF hS hFc⟩⟩ rfl rfl hl.1 rfl (lv_room (Nat.le_of_ble_eq_true rfl)) dX3_isCitizen_10 ⟨Nat.le_of_ble_eq_true rfl, Nat.le_of_ble_eq_true rfl⟩) hS (fun q _ h => hFc q h) hFc (fun z_ u_ t H locs ht hvm hw hB hz1 hk1 hS => ?_)
  subst z_
  obtain ⟨hP1, hD1⟩ := hB
  rw [ht] at hP1
  have hJ := vb_join (ws' := (cwM cI b tW)) hP hD [] [0, 1, 2, 3, 4, 5, 6, 7, 8, 9] [0, 1, 2, 3, 4, 5, 6, 7, 8, 9] rfl rfl (by decide) (by decide) hk1 hFc hP1 hD1 rfl (by decide) rfl
  clear hP hD hPc hDc hFc hP1 hD1 hk1 hz1 ht hvm hG
  obtain ⟨hP, hD⟩ := hJ
  refine ckb hF (fun hB hF => ?_)
  obtain rfl := Option.some.inj hF
  exact W.zret (v := r10) (ty := .boolean) hx hb hr hB.1 (fun t ht hW => ⟨⟨r10, (), rfl, rfl, QB.of ht hP hD⟩, hS.F ht⟩) hS.2.2 dX3_isCitizen_13
set_option maxHeartbeats 4000000 in
set_option maxRecDepth 100000 in
theorem c_X3_wrongBy (l : Launch) (dC : Nat → ClassId) (dI : Nat → Nat → Nat) (cI : ClassId) (sf : SFP) (sz : Nat) (N : Nat) (p0 : Int32) (p1 : Int32) (r : Int32) (hF : F_X3_wrongBy N p0 p1 = some r) : Met l yX3_wrongBy wsX3_wrongBy ({ frames := 0, cells := 0, slots := 0, locals := 0 }) (va_Pc [.int p0, .int p1] (PB (dC, dI) cI ([] : va_W) sz sf)) (va_Qi (fun (z : Int32) (_ : Unit) => z = r) (fun _ t => QB (dC, dI) ([] : va_W) (va_A ([] : va_W) sz) t) (va_A ([] : va_W) sz)) 0 0 (va_A ([] : va_W) sz) := by
  refine Met.ofW (cc := cX3_wrongBy) (maxL := 2) (ret := (some .int)) (by decide) rfl ?_
  intro p e s m args below meth c s₁ B hml hv
  obtain ⟨rfl, hsz, hP, hK, hD0, hNN, hSF⟩ := hv
  have hx := B.exec
  have hb := B.bytes
  have hr := B.returns
  have hts := atoms_spec (ws := wsX3_wrongBy) B.pre
  have hown : s.vm.findClass RX3 = some m.cls := findClass_of_methodNamed B.named
  have hlocks := B.notSynchronized
  subst hsz
  have hD := hD0.self (sz := s.heap.size)
  generalize hAe : va_A ([] : va_W) s.heap.size = A at hD hSF ⊢
  have hA : ∀ q : Nat, s.heap.size ≤ q → A q := fun q h => by rw [← hAe]; exact Or.inr h
  clear hAe hD0
  have hS : va_S A s.heap s.heap [] := va_S.rf
  have hl := lv_entry ([.int p0, .int p1]) (n := 2) (Nat.le_of_ble_eq_true rfl)
  rw [lg_entry_eq]
  generalize (lg_sl ([.int p0, .int p1]) ++ List.replicate (2 - (lg_sl ([.int p0, .int p1])).length) Slot.unset).toArray = ls at hl ⊢
  have hl : lv_has ls 2 [(0, .int p0), (1, .int p1)] := hl
  rw [F_X3_wrongBy] at hF
  refine lv_iload_n hx hb dX3_wrongBy_0 rfl (lv_at hl 0 rfl) ?_
  refine lv_if_ge (tgt := 9) hx hb dX3_wrongBy_1 (by decide) (fun hc => ?_) (fun hc => ?_)
  · have hF := ift hc hF
    refine lv_iload_n hx hb dX3_wrongBy_9 rfl (lv_at hl 0 rfl) ?_
    refine lv_iload_n hx hb dX3_wrongBy_10 rfl (lv_at hl 1 rfl) ?_
    refine lv_icmp_le (tgt := 19) hx hb dX3_wrongBy_11 (by decide) (fun hc => ?_) (fun hc => ?_)
    · have hF := ift hc hF
      refine lv_iconst (v := nI 0) hx hb dX3_wrongBy_19 (by decide) ?_
      obtain rfl := Option.some.inj hF
      exact W.iret (v := (nI 0)) hx hb hr (fun t ht hW => ⟨⟨(nI 0), (), rfl, rfl, QB.of ht hP hD⟩, hS.F ht⟩) hS.2.2 dX3_wrongBy_20
    · have hF := iff_ hc hF
      refine lv_bipush (v := (-6)) hx hb dX3_wrongBy_14 (by decide) ?_
      refine lv_goto (tgt := 20) hx hb dX3_wrongBy_16 (by decide) ?_
      obtain rfl := Option.some.inj hF
      exact W.iret (v := (-6)) hx hb hr (fun t ht hW => ⟨⟨(-6), (), rfl, rfl, QB.of ht hP hD⟩, hS.F ht⟩) hS.2.2 dX3_wrongBy_20
  · have hF := iff_ hc hF
    refine lv_bipush (v := (-4)) hx hb dX3_wrongBy_4 (by decide) ?_
    refine lv_goto (tgt := 20) hx hb dX3_wrongBy_6 (by decide) ?_
    obtain rfl := Option.some.inj hF
    exact W.iret (v := (-4)) hx hb hr (fun t ht hW => ⟨⟨(-4), (), rfl, rfl, QB.of ht hP hD⟩, hS.F ht⟩) hS.2.2 dX3_wrongBy_20
theorem inw_X3_no_X3 : ∀ w ∈ u_ws RX3 TX3 15, w ∈ wsX3_no := fun _ h => List.mem_cons_of_mem _ (List.mem_append_right _ h)
set_option maxHeartbeats 4000000 in
set_option maxRecDepth 100000 in
theorem c_X3_no (l : Launch) (dC : Nat → ClassId) (dI : Nat → Nat → Nat) (cI : ClassId) (sf : SFP) (sz : Nat) (N : Nat) (b : Nat → Nat) (tW : MS) (p1 : Int32) (r : (Int32 × MS)) (hF : F_X3_no N tW p1 = some r) : Met l yX3_no wsX3_no ({ frames := 0, cells := 0, slots := 0, locals := 0 }) (va_Pc [.ref (b 0), .int p1] (PB (dC, dI) cI (cwM cI b tW) sz sf)) (va_Qi (fun (z : Int32) (_ : Unit) => z = r.1) (fun _ t => QB (dC, dI) (cwM cI b r.2) (va_A (cwM cI b tW) sz) t) (va_A (cwM cI b tW) sz)) 0 0 (va_A (cwM cI b tW) sz) := by
  refine Met.ofW (cc := cX3_no) (maxL := 2) (ret := (some .int)) (by decide) rfl ?_
  intro p e s m args below meth c s₁ B hml hv
  obtain ⟨rfl, hsz, hP, hK, hD0, hNN, hSF⟩ := hv
  have hx := B.exec
  have hb := B.bytes
  have hr := B.returns
  have hts := atoms_spec (ws := wsX3_no) B.pre
  have hown : s.vm.findClass RX3 = some m.cls := findClass_of_methodNamed B.named
  have hlocks := B.notSynchronized
  subst hsz
  have hD := hD0.self (sz := s.heap.size)
  generalize hAe : va_A (cwM cI b tW) s.heap.size = A at hD hSF ⊢
  have hA : ∀ q : Nat, s.heap.size ≤ q → A q := fun q h => by rw [← hAe]; exact Or.inr h
  clear hAe hD0
  have hS : va_S A s.heap s.heap [] := va_S.rf
  have hl := lv_entry ([.ref (b 0), .int p1]) (n := 2) (Nat.le_of_ble_eq_true rfl)
  rw [lg_entry_eq]
  generalize (lg_sl ([.ref (b 0), .int p1]) ++ List.replicate (2 - (lg_sl ([.ref (b 0), .int p1])).length) Slot.unset).toArray = ls at hl ⊢
  have hl : lv_has ls 2 [(0, .ref (b 0)), (1, .int p1)] := hl
  rw [F_X3_no] at hF
  refine lv_aload_n hx hb dX3_no_0 rfl (lv_at hl 0 rfl) ?_
  refine va_get (D := (dC, dI)) (ci := 3) (v := .ref (b 7)) (C := RX3) (T := TX3) (N := 15) hx hb hts inw_X3_no_X3 hown hK hP 0 rfl rfl 7 (by decide) (hts (.fieldLink RX3 28 "DeniedOfEachOtherModel" "refused" "[I") (List.mem_of_getElem? (i := 1) rfl)) (fun _ h9 => h9) rfl dX3_no_1 ?_
  refine lv_iload_n hx hb dX3_no_4 rfl (lv_at hl 1 rfl) ?_
  refine lv_ineg hx hb dX3_no_5 ?_
  refine lv_dup2_11 hx hb dX3_no_6 rfl rfl ?_
  refine cki hF (fun hi hF => ?_)
  refine va_iald (D := (dC, dI)) hx hb hK hP 7 0 rfl rfl hi dX3_no_7 ?_
  refine lv_iconst (v := nI 1) hx hb dX3_no_8 (by decide) ?_
  refine lv_iadd hx hb dX3_no_9 ?_
  refine cki hF (fun hi hF => ?_)
  refine va_iast (D := (dC, dI)) hx hb hK hP hD hS 7 0 rfl rfl hi dX3_no_10 (fun H locs hP hD hS => ?_)
  have hP : va_P (dC, dI) vwCl (cwM cI b (tW.1, tW.2.1, tW.2.2.1, tW.2.2.2.1, tW.2.2.2.2.1, tW.2.2.2.2.2.1, tW.2.2.2.2.2.2.1, (upd tW.2.2.2.2.2.2.2.1 (-p1).toNatClampNeg ((tW.2.2.2.2.2.2.2.1 (-p1).toNatClampNeg) + (nI 1))), tW.2.2.2.2.2.2.2.2.1, tW.2.2.2.2.2.2.2.2.2.1, tW.2.2.2.2.2.2.2.2.2.2.1, tW.2.2.2.2.2.2.2.2.2.2.2.1, tW.2.2.2.2.2.2.2.2.2.2.2.2.1, tW.2.2.2.2.2.2.2.2.2.2.2.2.2.1, tW.2.2.2.2.2.2.2.2.2.2.2.2.2.2)) H := hP
  have hD : va_D A (cwM cI b (tW.1, tW.2.1, tW.2.2.1, tW.2.2.2.1, tW.2.2.2.2.1, tW.2.2.2.2.2.1, tW.2.2.2.2.2.2.1, (upd tW.2.2.2.2.2.2.2.1 (-p1).toNatClampNeg ((tW.2.2.2.2.2.2.2.1 (-p1).toNatClampNeg) + (nI 1))), tW.2.2.2.2.2.2.2.2.1, tW.2.2.2.2.2.2.2.2.2.1, tW.2.2.2.2.2.2.2.2.2.2.1, tW.2.2.2.2.2.2.2.2.2.2.2.1, tW.2.2.2.2.2.2.2.2.2.2.2.2.1, tW.2.2.2.2.2.2.2.2.2.2.2.2.2.1, tW.2.2.2.2.2.2.2.2.2.2.2.2.2.2)) := hD
  refine lv_iload_n hx hb dX3_no_11 rfl (lv_at hl 1 rfl) ?_
  obtain rfl := Option.some.inj hF
  exact W.iret (v := p1) hx hb hr (fun t ht hW => ⟨⟨p1, (), rfl, rfl, QB.of ht hP hD⟩, hS.F ht⟩) hS.2.2 dX3_no_12
theorem inw_X3_ages_X3 : ∀ w ∈ u_ws RX3 TX3 15, w ∈ wsX3_ages := fun _ h => List.mem_cons_of_mem _ (List.mem_append_right _ h)
set_option maxHeartbeats 4000000 in
set_option maxRecDepth 100000 in
theorem c_X3_ages (l : Launch) (dC : Nat → ClassId) (dI : Nat → Nat → Nat) (cI : ClassId) (sf : SFP) (sz : Nat) (N : Nat) (b : Nat → Nat) (tW : MS) (p1 : Int32) (p2 : Int32) (r : (Int32 × MS)) (hF : F_X3_ages N tW p1 p2 = some r) : Met l yX3_ages wsX3_ages ({ frames := 2, cells := 0, slots := 0, locals := 43 }) (va_Pc [.ref (b 0), .int p1, .int p2] (PB (dC, dI) cI (cwM cI b tW) sz sf)) (va_Qi (fun (z : Int32) (_ : Unit) => z = r.1) (fun _ t => QB (dC, dI) (cwM cI b r.2) (va_A (cwM cI b tW) sz) t) (va_A (cwM cI b tW) sz)) 0 0 (va_A (cwM cI b tW) sz) := by
  refine Met.ofW (cc := cX3_ages) (maxL := 5) (ret := (some .int)) (by decide) rfl ?_
  intro p e s m args below meth c s₁ B hml hv
  obtain ⟨rfl, hsz, hP, hK, hD0, hNN, hSF⟩ := hv
  have hx := B.exec
  have hb := B.bytes
  have hr := B.returns
  have hts := atoms_spec (ws := wsX3_ages) B.pre
  have hown : s.vm.findClass RX3 = some m.cls := findClass_of_methodNamed B.named
  have hlocks := B.notSynchronized
  subst hsz
  have hD := hD0.self (sz := s.heap.size)
  generalize hAe : va_A (cwM cI b tW) s.heap.size = A at hD hSF ⊢
  have hA : ∀ q : Nat, s.heap.size ≤ q → A q := fun q h => by rw [← hAe]; exact Or.inr h
  clear hAe hD0
  have hS : va_S A s.heap s.heap [] := va_S.rf
  have hl := lv_entry ([.ref (b 0), .int p1, .int p2]) (n := 5) (Nat.le_of_ble_eq_true rfl)
  rw [lg_entry_eq]
  generalize (lg_sl ([.ref (b 0), .int p1, .int p2]) ++ List.replicate (5 - (lg_sl ([.ref (b 0), .int p1, .int p2])).length) Slot.unset).toArray = ls at hl ⊢
  have hl : lv_has ls 5 [(0, .ref (b 0)), (1, .int p1), (2, .int p2)] := hl
  rw [F_X3_ages] at hF
  refine lv_aload_n hx hb dX3_ages_0 rfl (lv_at hl 0 rfl) ?_
  refine lv_iload_n hx hb dX3_ages_1 rfl (lv_at hl 1 rfl) ?_
  have hPc := hP.sub (ws' := (cwM cI b tW)) [0, 1, 2, 3, 4, 5, 6, 7, 8, 9] rfl
  have hDc := hD.sub (ws' := (cwM cI b tW)) [0, 1, 2, 3, 4, 5, 6, 7, 8, 9] (by decide) rfl
  have hFc := va_free (wc := (cwM cI b tW)) hD hS hA [0, 1, 2, 3, 4, 5, 6, 7, 8, 9] rfl
  refine bd hF (fun r2 hG hF => ?_)
  refine va_calli (va_runV (As := [.int p1]) (rest := []) ⟨hx, hb, hml, hown, hts⟩ (c_X3_isCitizen l dC dI cI sf s.heap.size N b tW p1 r2 hG) (cwV 1 hts gX3_ages_X3_isCitizen rfl rfl rfl (by decide +kernel) ⟨Nat.le_of_ble_eq_true rfl, Nat.le_of_ble_eq_true rfl⟩) ⟨fun a U g mk q => ⟨q.1, q.2.call⟩, va_recv hK hP (ci := 3) (q0 := 0) rfl rfl, fun U hU hW => ⟨rfl, PB.of hU hW hPc hK hDc hNN hSF hS hFc⟩⟩ rfl rfl hl.1 rfl (lv_room (Nat.le_of_ble_eq_true rfl)) dX3_ages_2 ⟨Nat.le_of_ble_eq_true rfl, Nat.le_of_ble_eq_true rfl⟩) hS (fun q _ h => hFc q h) hFc (fun z_ u_ t H locs ht hvm hw hB hz1 hk1 hS => ?_)
  subst z_
  obtain ⟨hP1, hD1⟩ := hB
  rw [ht] at hP1
  have hJ := vb_join (ws' := (cwM cI b tW)) hP hD [0, 1, 2, 3, 4, 5, 6, 7, 8, 9] [] [0, 1, 2, 3, 4, 5, 6, 7, 8, 9] rfl rfl (by decide) (by decide) hk1 hFc hP1 hD1 rfl (by decide) rfl
  clear hP hD hPc hDc hFc hP1 hD1 hk1 hz1 ht hvm hG
  obtain ⟨hP, hD⟩ := hJ
  refine vW_have (fun R av Q => ∀ (tW : MS) (x1 : Int32) (x2 : Int32) (z0 : Int32) (H : Heap) (locs : List Loc) (ls : Array Slot), F_X3_ages_18 N tW x1 x2 z0 = some r → va_P (dC, dI) vwCl (cwM cI b tW) H → va_D A (cwM cI b tW) → va_S A s.heap H locs → lv_has ls 5 [(0, .ref (b 0)), (1, .int x1), (2, .int x2)] → W p l e R s m av below meth c H locs 0 0 Q (F0 m 18 ls [.int z0])) ?_ (fun kJ18 => ?_)
  · 
    intro tW x1 x2 z0 H locs ls hF hP hD hS hl
    rw [F_X3_ages_18] at hF
    refine lv_istore_n (lv' := [(3, .int z0), (0, .ref (b 0)), (1, .int x1), (2, .int x2)]) hx hb dX3_ages_18 rfl hl (by decide) rfl (fun ls hl => ?_)
    refine lv_iload_n hx hb dX3_ages_19 rfl (lv_at hl 0 rfl) ?_
    refine lv_if_eq (tgt := 29) hx hb dX3_ages_20 (by decide) (fun hc => ?_) (fun hc => ?_)
    · have hF := ift hc hF
      refine lv_aload_n hx hb dX3_ages_29 rfl (lv_at hl 1 rfl) ?_
      refine va_get (D := (dC, dI)) (ci := 3) (v := .ref (b 1)) (C := RX3) (T := TX3) (N := 15) hx hb hts inw_X3_ages_X3 hown hK hP 0 rfl rfl 0 (by decide) (hts (.fieldLink RX3 9 "DeniedOfEachOtherModel" "s" "[I") (List.mem_of_getElem? (i := 1) rfl)) (fun _ h9 => h9) rfl dX3_ages_30 ?_
      refine lv_iload_n hx hb dX3_ages_33 rfl (lv_at hl 2 rfl) ?_
      refine lv_iconst (v := nI 2) hx hb dX3_ages_34 (by decide) ?_
      have hPc := hP.sub (ws' := ([] : va_W)) [] rfl
      have hDc := hD.sub (ws' := ([] : va_W)) [] (by decide) rfl
      have hFc := va_free (wc := ([] : va_W)) hD hS hA [] rfl
      refine bd hF (fun r35 hG hF => ?_)
      refine va_calli (va_runS (As := [.int x1, .int (nI 2)]) (rest := [.ref (b 1)]) ⟨hx, hb, hml, hown, hts⟩ (c_X3_of l dC dI cI sf H.size N  x1 (nI 2) r35 hG) (va_cwS 2 hts gX3_ages_X3_of rfl rfl rfl (by decide +kernel) ⟨Nat.le_of_ble_eq_true rfl, Nat.le_of_ble_eq_true rfl⟩) ⟨fun a U g mk q => ⟨q.1, q.2.call⟩, fun U hU hW => ⟨rfl, PB.of hU hW hPc hK hDc hNN hSF hS hFc⟩⟩ rfl rfl hl.1 rfl (lv_room (Nat.le_of_ble_eq_true rfl)) dX3_ages_35 ⟨Nat.le_of_ble_eq_true rfl, Nat.le_of_ble_eq_true rfl⟩) hS (fun q _ h => hFc q h) hFc (fun z_ u_ t H locs ht hvm hw hB hz1 hk1 hS => ?_)
      subst z_
      obtain ⟨hP1, hD1⟩ := hB
      rw [ht] at hP1
      have hJ := vb_join (ws' := (cwM cI b tW)) hP hD [] [0, 1, 2, 3, 4, 5, 6, 7, 8, 9] [0, 1, 2, 3, 4, 5, 6, 7, 8, 9] rfl rfl (by decide) (by decide) hk1 hFc hP1 hD1 rfl (by decide) rfl
      clear hP hD hPc hDc hFc hP1 hD1 hk1 hz1 ht hvm hG
      obtain ⟨hP, hD⟩ := hJ
      refine cki hF (fun hi hF => ?_)
      refine va_iald (D := (dC, dI)) hx hb hK hP 1 0 rfl rfl hi dX3_ages_38 ?_
      refine lv_istore (lv' := [(4, .int (tW.1 r35.toNatClampNeg)), (3, .int z0), (0, .ref (b 0)), (1, .int x1), (2, .int x2)]) hx hb dX3_ages_39 hl (by decide) rfl (fun ls hl => ?_)
      refine lv_aload_n hx hb dX3_ages_41 rfl (lv_at hl 2 rfl) ?_
      refine va_get (D := (dC, dI)) (ci := 3) (v := .ref (b 1)) (C := RX3) (T := TX3) (N := 15) hx hb hts inw_X3_ages_X3 hown hK hP 0 rfl rfl 0 (by decide) (hts (.fieldLink RX3 9 "DeniedOfEachOtherModel" "s" "[I") (List.mem_of_getElem? (i := 1) rfl)) (fun _ h9 => h9) rfl dX3_ages_42 ?_
      refine lv_iload_n hx hb dX3_ages_45 rfl (lv_at hl 3 rfl) ?_
      refine lv_iconst (v := nI 2) hx hb dX3_ages_46 (by decide) ?_
      have hPc := hP.sub (ws' := ([] : va_W)) [] rfl
      have hDc := hD.sub (ws' := ([] : va_W)) [] (by decide) rfl
      have hFc := va_free (wc := ([] : va_W)) hD hS hA [] rfl
      refine bd hF (fun r47 hG hF => ?_)
      refine va_calli (va_runS (As := [.int x1, .int (nI 2)]) (rest := [.ref (b 1)]) ⟨hx, hb, hml, hown, hts⟩ (c_X3_of l dC dI cI sf H.size N  x1 (nI 2) r47 hG) (va_cwS 2 hts gX3_ages_X3_of rfl rfl rfl (by decide +kernel) ⟨Nat.le_of_ble_eq_true rfl, Nat.le_of_ble_eq_true rfl⟩) ⟨fun a U g mk q => ⟨q.1, q.2.call⟩, fun U hU hW => ⟨rfl, PB.of hU hW hPc hK hDc hNN hSF hS hFc⟩⟩ rfl rfl hl.1 rfl (lv_room (Nat.le_of_ble_eq_true rfl)) dX3_ages_47 ⟨Nat.le_of_ble_eq_true rfl, Nat.le_of_ble_eq_true rfl⟩) hS (fun q _ h => hFc q h) hFc (fun z_ u_ t H locs ht hvm hw hB hz1 hk1 hS => ?_)
      subst z_
      obtain ⟨hP1, hD1⟩ := hB
      rw [ht] at hP1
      have hJ := vb_join (ws' := (cwM cI b tW)) hP hD [] [0, 1, 2, 3, 4, 5, 6, 7, 8, 9] [0, 1, 2, 3, 4, 5, 6, 7, 8, 9] rfl rfl (by decide) (by decide) hk1 hFc hP1 hD1 rfl (by decide) rfl
      clear hP hD hPc hDc hFc hP1 hD1 hk1 hz1 ht hvm hG
      obtain ⟨hP, hD⟩ := hJ
      refine lv_iload_n hx hb dX3_ages_50 rfl (lv_at hl 4 rfl) ?_
      refine cki hF (fun hi hF => ?_)
      refine va_iast (D := (dC, dI)) hx hb hK hP hD hS 1 0 rfl rfl hi dX3_ages_51 (fun H locs hP hD hS => ?_)
      have hP : va_P (dC, dI) vwCl (cwM cI b ((upd tW.1 r47.toNatClampNeg x2), tW.2.1, tW.2.2.1, tW.2.2.2.1, tW.2.2.2.2.1, tW.2.2.2.2.2.1, tW.2.2.2.2.2.2.1, tW.2.2.2.2.2.2.2.1, tW.2.2.2.2.2.2.2.2.1, tW.2.2.2.2.2.2.2.2.2.1, tW.2.2.2.2.2.2.2.2.2.2.1, tW.2.2.2.2.2.2.2.2.2.2.2.1, tW.2.2.2.2.2.2.2.2.2.2.2.2.1, tW.2.2.2.2.2.2.2.2.2.2.2.2.2.1, tW.2.2.2.2.2.2.2.2.2.2.2.2.2.2)) H := hP
      have hD : va_D A (cwM cI b ((upd tW.1 r47.toNatClampNeg x2), tW.2.1, tW.2.2.1, tW.2.2.2.1, tW.2.2.2.2.1, tW.2.2.2.2.2.1, tW.2.2.2.2.2.2.1, tW.2.2.2.2.2.2.2.1, tW.2.2.2.2.2.2.2.2.1, tW.2.2.2.2.2.2.2.2.2.1, tW.2.2.2.2.2.2.2.2.2.2.1, tW.2.2.2.2.2.2.2.2.2.2.2.1, tW.2.2.2.2.2.2.2.2.2.2.2.2.1, tW.2.2.2.2.2.2.2.2.2.2.2.2.2.1, tW.2.2.2.2.2.2.2.2.2.2.2.2.2.2)) := hD
      refine lv_iload hx hb dX3_ages_52 (lv_at hl 0 rfl) ?_
      obtain rfl := Option.some.inj hF
      exact W.iret (v := (tW.1 r35.toNatClampNeg)) hx hb hr (fun t ht hW => ⟨⟨(tW.1 r35.toNatClampNeg), (), rfl, rfl, QB.of ht hP hD⟩, hS.F ht⟩) hS.2.2 dX3_ages_54
    · have hF := iff_ hc hF
      refine lv_aload_n hx hb dX3_ages_23 rfl (lv_at hl 1 rfl) ?_
      refine lv_iload_n hx hb dX3_ages_24 rfl (lv_at hl 0 rfl) ?_
      have hPc := hP.sub (ws' := (cwM cI b tW)) [0, 1, 2, 3, 4, 5, 6, 7, 8, 9] rfl
      have hDc := hD.sub (ws' := (cwM cI b tW)) [0, 1, 2, 3, 4, 5, 6, 7, 8, 9] (by decide) rfl
      have hFc := va_free (wc := (cwM cI b tW)) hD hS hA [0, 1, 2, 3, 4, 5, 6, 7, 8, 9] rfl
      refine bd hF (fun r25 hG hF => ?_)
      refine va_calli (va_runV (As := [.int z0]) (rest := []) ⟨hx, hb, hml, hown, hts⟩ (c_X3_no l dC dI cI sf H.size N b tW z0 r25 hG) (cwV 1 hts gX3_ages_X3_no rfl rfl rfl (by decide +kernel) ⟨Nat.le_of_ble_eq_true rfl, Nat.le_of_ble_eq_true rfl⟩) ⟨fun a U g mk q => ⟨q.1, q.2.call⟩, va_recv hK hP (ci := 3) (q0 := 0) rfl rfl, fun U hU hW => ⟨rfl, PB.of hU hW hPc hK hDc hNN hSF hS hFc⟩⟩ rfl rfl hl.1 rfl (lv_room (Nat.le_of_ble_eq_true rfl)) dX3_ages_25 ⟨Nat.le_of_ble_eq_true rfl, Nat.le_of_ble_eq_true rfl⟩) hS (fun q _ h => hFc q h) hFc (fun z_ u_ t H locs ht hvm hw hB hz1 hk1 hS => ?_)
      subst z_
      obtain ⟨hP1, hD1⟩ := hB
      rw [ht] at hP1
      have hJ := vb_join (ws' := (cwM cI b r25.2)) hP hD [0, 1, 2, 3, 4, 5, 6, 7, 8, 9] [] [0, 1, 2, 3, 4, 5, 6, 7, 8, 9] rfl rfl (by decide) (by decide) hk1 hFc hP1 hD1 rfl (by decide) rfl
      clear hP hD hPc hDc hFc hP1 hD1 hk1 hz1 ht hvm hG
      obtain ⟨hP, hD⟩ := hJ
      obtain rfl := Option.some.inj hF
      exact W.iret (v := r25.1) hx hb hr (fun t ht hW => ⟨⟨r25.1, (), rfl, rfl, QB.of ht hP hD⟩, hS.F ht⟩) hS.2.2 dX3_ages_28
  refine lv_if_eq (tgt := 17) hx hb dX3_ages_5 (by decide) (fun hc => ?_) (fun hc => ?_)
  · have hF := ift hc hF
    refine lv_iconst (v := (-1)) hx hb dX3_ages_17 (by decide) ?_
    exact kJ18 tW p1 p2 (-1) _ _ _ hF hP hD hS (lv_sub hl [0, 1, 2] rfl)
  · have hF := iff_ hc hF
    refine lv_iload_n hx hb dX3_ages_8 rfl (lv_at hl 2 rfl) ?_
    refine lv_bipush (v := nI 99) hx hb dX3_ages_9 (by decide) ?_
    have hPc := hP.sub (ws' := ([] : va_W)) [] rfl
    have hDc := hD.sub (ws' := ([] : va_W)) [] (by decide) rfl
    have hFc := va_free (wc := ([] : va_W)) hD hS hA [] rfl
    refine bd hF (fun r11 hG hF => ?_)
    refine va_calli (va_runS (As := [.int p2, .int (nI 99)]) (rest := []) ⟨hx, hb, hml, hown, hts⟩ (c_X3_wrongBy l dC dI cI sf H.size N  p2 (nI 99) r11 hG) (va_cwS 2 hts gX3_ages_X3_wrongBy rfl rfl rfl (by decide +kernel) ⟨Nat.le_of_ble_eq_true rfl, Nat.le_of_ble_eq_true rfl⟩) ⟨fun a U g mk q => ⟨q.1, q.2.call⟩, fun U hU hW => ⟨rfl, PB.of hU hW hPc hK hDc hNN hSF hS hFc⟩⟩ rfl rfl hl.1 rfl (lv_room (Nat.le_of_ble_eq_true rfl)) dX3_ages_11 ⟨Nat.le_of_ble_eq_true rfl, Nat.le_of_ble_eq_true rfl⟩) hS (fun q _ h => hFc q h) hFc (fun z_ u_ t H locs ht hvm hw hB hz1 hk1 hS => ?_)
    subst z_
    obtain ⟨hP1, hD1⟩ := hB
    rw [ht] at hP1
    have hJ := vb_join (ws' := (cwM cI b tW)) hP hD [] [0, 1, 2, 3, 4, 5, 6, 7, 8, 9] [0, 1, 2, 3, 4, 5, 6, 7, 8, 9] rfl rfl (by decide) (by decide) hk1 hFc hP1 hD1 rfl (by decide) rfl
    clear hP hD hPc hDc hFc hP1 hD1 hk1 hz1 ht hvm hG
    obtain ⟨hP, hD⟩ := hJ
    refine lv_goto (tgt := 18) hx hb dX3_ages_14 (by decide) ?_
    exact kJ18 tW p1 p2 r11 _ _ _ hF hP hD hS (lv_sub hl [0, 1, 2] rfl)
set_option maxHeartbeats 4000000 in
set_option maxRecDepth 100000 in
theorem c_X3_isAlive (l : Launch) (dC : Nat → ClassId) (dI : Nat → Nat → Nat) (cI : ClassId) (sf : SFP) (sz : Nat) (N : Nat) (j00 : Nat) (g0W : FA) (p1 : Int32) (r : Int32) (hF : F_X3_isAlive N g0W p1 = some r) : Met l yX3_isAlive wsX3_isAlive ({ frames := 1, cells := 0, slots := 0, locals := 21 }) (va_Pc [.ref j00, .int p1] (PB (dC, dI) cI (cwA cI j00 g0W) sz sf)) (va_Qi (fun (z : Int32) (_ : Unit) => z = r) (fun _ t => QB (dC, dI) (cwA cI j00 g0W) (va_A (cwA cI j00 g0W) sz) t) (va_A (cwA cI j00 g0W) sz)) 0 0 (va_A (cwA cI j00 g0W) sz) := by
  refine Met.ofW (cc := cX3_isAlive) (maxL := 2) (ret := (some .boolean)) (by decide) rfl ?_
  intro p e s m args below meth c s₁ B hml hv
  obtain ⟨rfl, hsz, hP, hK, hD0, hNN, hSF⟩ := hv
  have hx := B.exec
  have hb := B.bytes
  have hr := B.returns
  have hts := atoms_spec (ws := wsX3_isAlive) B.pre
  have hown : s.vm.findClass RX3 = some m.cls := findClass_of_methodNamed B.named
  have hlocks := B.notSynchronized
  subst hsz
  have hD := hD0.self (sz := s.heap.size)
  generalize hAe : va_A (cwA cI j00 g0W) s.heap.size = A at hD hSF ⊢
  have hA : ∀ q : Nat, s.heap.size ≤ q → A q := fun q h => by rw [← hAe]; exact Or.inr h
  clear hAe hD0
  have hS : va_S A s.heap s.heap [] := va_S.rf
  have hl := lv_entry ([.ref j00, .int p1]) (n := 2) (Nat.le_of_ble_eq_true rfl)
  rw [lg_entry_eq]
  generalize (lg_sl ([.ref j00, .int p1]) ++ List.replicate (2 - (lg_sl ([.ref j00, .int p1])).length) Slot.unset).toArray = ls at hl ⊢
  have hl : lv_has ls 2 [(0, .ref j00), (1, .int p1)] := hl
  rw [F_X3_isAlive] at hF
  refine lv_aload_n hx hb dX3_isAlive_0 rfl (lv_at hl 0 rfl) ?_
  refine lv_iload_n hx hb dX3_isAlive_1 rfl (lv_at hl 1 rfl) ?_
  refine lv_iconst (v := nI 3) hx hb dX3_isAlive_2 (by decide) ?_
  have hPc := hP.sub (ws' := ([] : va_W)) [] rfl
  have hDc := hD.sub (ws' := ([] : va_W)) [] (by decide) rfl
  have hFc := va_free (wc := ([] : va_W)) hD hS hA [] rfl
  refine bd hF (fun r3 hG hF => ?_)
  refine va_calli (va_runS (As := [.int p1, .int (nI 3)]) (rest := [.ref j00]) ⟨hx, hb, hml, hown, hts⟩ (c_X3_of l dC dI cI sf s.heap.size N  p1 (nI 3) r3 hG) (va_cwS 2 hts gX3_isAlive_X3_of rfl rfl rfl (by decide +kernel) ⟨Nat.le_of_ble_eq_true rfl, Nat.le_of_ble_eq_true rfl⟩) ⟨fun a U g mk q => ⟨q.1, q.2.call⟩, fun U hU hW => ⟨rfl, PB.of hU hW hPc hK hDc hNN hSF hS hFc⟩⟩ rfl rfl hl.1 rfl (lv_room (Nat.le_of_ble_eq_true rfl)) dX3_isAlive_3 ⟨Nat.le_of_ble_eq_true rfl, Nat.le_of_ble_eq_true rfl⟩) hS (fun q _ h => hFc q h) hFc (fun z_ u_ t H locs ht hvm hw hB hz1 hk1 hS => ?_)
  subst z_
  obtain ⟨hP1, hD1⟩ := hB
  rw [ht] at hP1
  have hJ := vb_join (ws' := (cwA cI j00 g0W)) hP hD [] [0] [0] rfl rfl (by decide) (by decide) hk1 hFc hP1 hD1 rfl (by decide) rfl
  clear hP hD hPc hDc hFc hP1 hD1 hk1 hz1 ht hvm hG
  obtain ⟨hP, hD⟩ := hJ
  refine cki hF (fun hi hF => ?_)
  refine va_iald (D := (dC, dI)) hx hb hK hP 0 0 rfl rfl hi dX3_isAlive_6 ?_
  refine lv_if_ne (tgt := 14) hx hb dX3_isAlive_7 (by decide) (fun hc => ?_) (fun hc => ?_)
  · have hF := ift hc hF
    refine lv_iconst (v := nI 0) hx hb dX3_isAlive_14 (by decide) ?_
    obtain rfl := Option.some.inj hF
    exact W.zret (v := (nI 0)) (ty := .boolean) hx hb hr (by decide +kernel) (fun t ht hW => ⟨⟨(nI 0), (), rfl, rfl, QB.of ht hP hD⟩, hS.F ht⟩) hS.2.2 dX3_isAlive_15
  · have hF := iff_ (fun h => h hc) hF
    refine lv_iconst (v := nI 1) hx hb dX3_isAlive_10 (by decide) ?_
    refine lv_goto (tgt := 15) hx hb dX3_isAlive_11 (by decide) ?_
    obtain rfl := Option.some.inj hF
    exact W.zret (v := (nI 1)) (ty := .boolean) hx hb hr (by decide +kernel) (fun t ht hW => ⟨⟨(nI 1), (), rfl, rfl, QB.of ht hP hD⟩, hS.F ht⟩) hS.2.2 dX3_isAlive_15
set_option maxHeartbeats 4000000 in
set_option maxRecDepth 100000 in
theorem c_X3_agesAll (l : Launch) (dC : Nat → ClassId) (dI : Nat → Nat → Nat) (cI : ClassId) (sf : SFP) (sz : Nat) (N : Nat) (j00 : Nat) (g0W : FA) (r : Int32) (hF : F_X3_agesAll N g0W = some r) : Met l yX3_agesAll wsX3_agesAll ({ frames := 2, cells := 0, slots := 0, locals := 42 }) (va_Pc [.ref j00] (PB (dC, dI) cI (cwA cI j00 g0W) sz sf)) (va_Qi (fun (z : Int32) (_ : Unit) => z = r) (fun _ t => QB (dC, dI) (cwA cI j00 g0W) (va_A (cwA cI j00 g0W) sz) t) (va_A (cwA cI j00 g0W) sz)) 0 0 (va_A (cwA cI j00 g0W) sz) := by
  refine Met.ofW (cc := cX3_agesAll) (maxL := 3) (ret := (some .int)) (by decide) rfl ?_
  intro p e s m args below meth c s₁ B hml hv
  obtain ⟨rfl, hsz, hP, hK, hD0, hNN, hSF⟩ := hv
  have hx := B.exec
  have hb := B.bytes
  have hr := B.returns
  have hts := atoms_spec (ws := wsX3_agesAll) B.pre
  have hown : s.vm.findClass RX3 = some m.cls := findClass_of_methodNamed B.named
  have hlocks := B.notSynchronized
  subst hsz
  have hD := hD0.self (sz := s.heap.size)
  generalize hAe : va_A (cwA cI j00 g0W) s.heap.size = A at hD hSF ⊢
  have hA : ∀ q : Nat, s.heap.size ≤ q → A q := fun q h => by rw [← hAe]; exact Or.inr h
  clear hAe hD0
  have hS : va_S A s.heap s.heap [] := va_S.rf
  have hl := lv_entry ([.ref j00]) (n := 3) (Nat.le_of_ble_eq_true rfl)
  rw [lg_entry_eq]
  generalize (lg_sl ([.ref j00]) ++ List.replicate (3 - (lg_sl ([.ref j00])).length) Slot.unset).toArray = ls at hl ⊢
  have hl : lv_has ls 3 [(0, .ref j00)] := hl
  rw [F_X3_agesAll] at hF
  refine lv_iconst (v := nI 0) hx hb dX3_agesAll_0 (by decide) ?_
  refine lv_istore_n (lv' := [(1, .int (nI 0)), (0, .ref j00)]) hx hb dX3_agesAll_1 rfl hl (by decide) rfl (fun ls hl => ?_)
  refine lv_iconst (v := nI 0) hx hb dX3_agesAll_2 (by decide) ?_
  refine vW_have (fun R av Q => ∀ (n4 : Nat) (x1 : Int32) (x2 : Int32) (H : Heap) (locs : List Loc) (ls : Array Slot), F_X3_agesAll_4 N g0W n4 x1 x2 = some r → va_P (dC, dI) vwCl (cwA cI j00 g0W) H → va_D A (cwA cI j00 g0W) → va_S A s.heap H locs → lv_has ls 3 [(0, .ref j00), (1, .int x1), (2, .int x2)] → W p l e R s m av below meth c H locs 0 0 Q (F0 m 4 ls [])) ?_ (fun kJ4 => ?_)
  · intro n4
    induction n4 with
    | zero => intro x1 x2 H locs ls hF; exact nn hF
    | succ n4 ih4 =>
      intro x1 x2 H locs ls hF hP hD hS hl
      rw [F_X3_agesAll_4] at hF
      refine lv_iload_n hx hb dX3_agesAll_4 rfl (lv_at hl 2 rfl) ?_
      refine lv_aload_n hx hb dX3_agesAll_5 rfl (lv_at hl 0 rfl) ?_
      refine lv_iconst (v := nI 0) hx hb dX3_agesAll_6 (by decide) ?_
      refine va_iald (D := (dC, dI)) hx hb hK hP 0 0 rfl rfl (vp_in_nI (n := 0) (N := 74) (by decide) (by decide)) dX3_agesAll_7 ?_
      refine lv_icmp_ge (tgt := 39) hx hb dX3_agesAll_8 (by decide) (fun hc => ?_) (fun hc => ?_)
      · have hF := ift hc hF
        refine lv_iload_n hx hb dX3_agesAll_39 rfl (lv_at hl 1 rfl) ?_
        obtain rfl := Option.some.inj hF
        exact W.iret (v := x1) hx hb hr (fun t ht hW => ⟨⟨x1, (), rfl, rfl, QB.of ht hP hD⟩, hS.F ht⟩) hS.2.2 dX3_agesAll_40
      · have hF := iff_ hc hF
        refine lv_iload_n hx hb dX3_agesAll_11 rfl (lv_at hl 1 rfl) ?_
        refine lv_aload_n hx hb dX3_agesAll_12 rfl (lv_at hl 0 rfl) ?_
        refine lv_iload_n hx hb dX3_agesAll_13 rfl (lv_at hl 2 rfl) ?_
        have hPc := hP.sub (ws' := (cwA cI j00 g0W)) [0] rfl
        have hDc := hD.sub (ws' := (cwA cI j00 g0W)) [0] (by decide) rfl
        have hFc := va_free (wc := (cwA cI j00 g0W)) hD hS hA [0] rfl
        refine bd hF (fun r14 hG hF => ?_)
        refine va_calli (va_runS (As := [.ref j00, .int x2]) (rest := [.int x1]) ⟨hx, hb, hml, hown, hts⟩ (c_X3_isAlive l dC dI cI sf H.size N j00 g0W x2 r14 hG) (va_cwS 2 hts gX3_agesAll_X3_isAlive rfl rfl rfl (by decide +kernel) ⟨Nat.le_of_ble_eq_true rfl, Nat.le_of_ble_eq_true rfl⟩) ⟨fun a U g mk q => ⟨q.1, q.2.call⟩, fun U hU hW => ⟨rfl, PB.of hU hW hPc hK hDc hNN hSF hS hFc⟩⟩ rfl rfl hl.1 rfl (lv_room (Nat.le_of_ble_eq_true rfl)) dX3_agesAll_14 ⟨Nat.le_of_ble_eq_true rfl, Nat.le_of_ble_eq_true rfl⟩) hS (fun q _ h => hFc q h) hFc (fun z_ u_ t H locs ht hvm hw hB hz1 hk1 hS => ?_)
        subst z_
        obtain ⟨hP1, hD1⟩ := hB
        rw [ht] at hP1
        have hJ := vb_join (ws' := (cwA cI j00 g0W)) hP hD [0] [] [0] rfl rfl (by decide) (by decide) hk1 hFc hP1 hD1 rfl (by decide) rfl
        clear hP hD hPc hDc hFc hP1 hD1 hk1 hz1 ht hvm hG
        obtain ⟨hP, hD⟩ := hJ
        refine vW_have (fun R av Q => ∀ (x2 : Int32) (z0 : Int32) (z1 : Int32) (H : Heap) (locs : List Loc) (ls : Array Slot), F_X3_agesAll_31 N g0W (fun cx1 cx2 => F_X3_agesAll_4 N g0W n4 cx1 cx2) x2 z0 z1 = some r → va_P (dC, dI) vwCl (cwA cI j00 g0W) H → va_D A (cwA cI j00 g0W) → va_S A s.heap H locs → lv_has ls 3 [(0, .ref j00), (2, .int x2)] → W p l e R s m av below meth c H locs 0 0 Q (F0 m 31 ls [.int z1, .int z0])) ?_ (fun kJ31 => ?_)
        · 
          intro x2 z0 z1 H locs ls hF hP hD hS hl
          rw [F_X3_agesAll_31] at hF
          refine lv_iadd hx hb dX3_agesAll_31 ?_
          refine lv_istore_n (lv' := [(1, .int (z0 + z1)), (0, .ref j00), (2, .int x2)]) hx hb dX3_agesAll_32 rfl hl (by decide) rfl (fun ls hl => ?_)
          refine lv_iinc (v := x2 + (nI 1)) (lv' := [(2, .int (x2 + (nI 1))), (1, .int (z0 + z1)), (0, .ref j00)]) hx hb dX3_agesAll_33 hl (k := 2) rfl (by rfl) (by decide) rfl (fun ls hl => ?_)
          refine lv_goto (tgt := 4) hx hb dX3_agesAll_36 (by decide) ?_
          exact ih4 (z0 + z1) (x2 + (nI 1)) _ _ _ hF hP hD hS (lv_sub hl [2, 1, 0] rfl)
        refine lv_if_eq (tgt := 30) hx hb dX3_agesAll_17 (by decide) (fun hc => ?_) (fun hc => ?_)
        · have hF := ift hc hF
          refine lv_iconst (v := nI 0) hx hb dX3_agesAll_30 (by decide) ?_
          exact kJ31 x2 x1 (nI 0) _ _ _ hF hP hD hS (lv_sub hl [0, 2] rfl)
        · have hF := iff_ hc hF
          refine lv_aload_n hx hb dX3_agesAll_20 rfl (lv_at hl 0 rfl) ?_
          refine lv_iload_n hx hb dX3_agesAll_21 rfl (lv_at hl 2 rfl) ?_
          refine lv_iconst (v := nI 2) hx hb dX3_agesAll_22 (by decide) ?_
          have hPc := hP.sub (ws' := ([] : va_W)) [] rfl
          have hDc := hD.sub (ws' := ([] : va_W)) [] (by decide) rfl
          have hFc := va_free (wc := ([] : va_W)) hD hS hA [] rfl
          refine bd hF (fun r23 hG hF => ?_)
          refine va_calli (va_runS (As := [.int x2, .int (nI 2)]) (rest := [.ref j00, .int x1]) ⟨hx, hb, hml, hown, hts⟩ (c_X3_of l dC dI cI sf H.size N  x2 (nI 2) r23 hG) (va_cwS 2 hts gX3_agesAll_X3_of rfl rfl rfl (by decide +kernel) ⟨Nat.le_of_ble_eq_true rfl, Nat.le_of_ble_eq_true rfl⟩) ⟨fun a U g mk q => ⟨q.1, q.2.call⟩, fun U hU hW => ⟨rfl, PB.of hU hW hPc hK hDc hNN hSF hS hFc⟩⟩ rfl rfl hl.1 rfl (lv_room (Nat.le_of_ble_eq_true rfl)) dX3_agesAll_23 ⟨Nat.le_of_ble_eq_true rfl, Nat.le_of_ble_eq_true rfl⟩) hS (fun q _ h => hFc q h) hFc (fun z_ u_ t H locs ht hvm hw hB hz1 hk1 hS => ?_)
          subst z_
          obtain ⟨hP1, hD1⟩ := hB
          rw [ht] at hP1
          have hJ := vb_join (ws' := (cwA cI j00 g0W)) hP hD [] [0] [0] rfl rfl (by decide) (by decide) hk1 hFc hP1 hD1 rfl (by decide) rfl
          clear hP hD hPc hDc hFc hP1 hD1 hk1 hz1 ht hvm hG
          obtain ⟨hP, hD⟩ := hJ
          refine cki hF (fun hi hF => ?_)
          refine va_iald (D := (dC, dI)) hx hb hK hP 0 0 rfl rfl hi dX3_agesAll_26 ?_
          refine lv_goto (tgt := 31) hx hb dX3_agesAll_27 (by decide) ?_
          exact kJ31 x2 x1 (g0W r23.toNatClampNeg) _ _ _ hF hP hD hS (lv_sub hl [0, 2] rfl)
  refine lv_istore_n (lv' := [(2, .int (nI 0)), (1, .int (nI 0)), (0, .ref j00)]) hx hb dX3_agesAll_3 rfl hl (by decide) rfl (fun ls hl => ?_)
  exact kJ4 N (nI 0) (nI 0) _ _ _ hF hP hD hS (lv_sub hl [2, 1, 0] rfl)
theorem inw_X3_areTwo_X3 : ∀ w ∈ u_ws RX3 TX3 15, w ∈ wsX3_areTwo := fun _ h => List.mem_cons_of_mem _ (List.mem_append_right _ h)
set_option maxHeartbeats 4000000 in
set_option maxRecDepth 100000 in
theorem c_X3_areTwo (l : Launch) (dC : Nat → ClassId) (dI : Nat → Nat → Nat) (cI : ClassId) (sf : SFP) (sz : Nat) (N : Nat) (b : Nat → Nat) (tW : MS) (p1 : Int32) (p2 : Int32) (r : Int32) (hF : F_X3_areTwo N tW p1 p2 = some r) : Met l yX3_areTwo wsX3_areTwo ({ frames := 2, cells := 0, slots := 0, locals := 43 }) (va_Pc [.ref (b 0), .int p1, .int p2] (PB (dC, dI) cI (cwM cI b tW) sz sf)) (va_Qi (fun (z : Int32) (_ : Unit) => z = r) (fun _ t => QB (dC, dI) (cwM cI b tW) (va_A (cwM cI b tW) sz) t) (va_A (cwM cI b tW) sz)) 0 0 (va_A (cwM cI b tW) sz) := by
  refine Met.ofW (cc := cX3_areTwo) (maxL := 3) (ret := (some .boolean)) (by decide) rfl ?_
  intro p e s m args below meth c s₁ B hml hv
  obtain ⟨rfl, hsz, hP, hK, hD0, hNN, hSF⟩ := hv
  have hx := B.exec
  have hb := B.bytes
  have hr := B.returns
  have hts := atoms_spec (ws := wsX3_areTwo) B.pre
  have hown : s.vm.findClass RX3 = some m.cls := findClass_of_methodNamed B.named
  have hlocks := B.notSynchronized
  subst hsz
  have hD := hD0.self (sz := s.heap.size)
  generalize hAe : va_A (cwM cI b tW) s.heap.size = A at hD hSF ⊢
  have hA : ∀ q : Nat, s.heap.size ≤ q → A q := fun q h => by rw [← hAe]; exact Or.inr h
  clear hAe hD0
  have hS : va_S A s.heap s.heap [] := va_S.rf
  have hl := lv_entry ([.ref (b 0), .int p1, .int p2]) (n := 3) (Nat.le_of_ble_eq_true rfl)
  rw [lg_entry_eq]
  generalize (lg_sl ([.ref (b 0), .int p1, .int p2]) ++ List.replicate (3 - (lg_sl ([.ref (b 0), .int p1, .int p2])).length) Slot.unset).toArray = ls at hl ⊢
  have hl : lv_has ls 3 [(0, .ref (b 0)), (1, .int p1), (2, .int p2)] := hl
  rw [F_X3_areTwo] at hF
  refine lv_aload_n hx hb dX3_areTwo_0 rfl (lv_at hl 0 rfl) ?_
  refine lv_iload_n hx hb dX3_areTwo_1 rfl (lv_at hl 1 rfl) ?_
  have hPc := hP.sub (ws' := (cwM cI b tW)) [0, 1, 2, 3, 4, 5, 6, 7, 8, 9] rfl
  have hDc := hD.sub (ws' := (cwM cI b tW)) [0, 1, 2, 3, 4, 5, 6, 7, 8, 9] (by decide) rfl
  have hFc := va_free (wc := (cwM cI b tW)) hD hS hA [0, 1, 2, 3, 4, 5, 6, 7, 8, 9] rfl
  refine bd hF (fun r2 hG hF => ?_)
  refine va_calli (va_runV (As := [.int p1]) (rest := []) ⟨hx, hb, hml, hown, hts⟩ (c_X3_isCitizen l dC dI cI sf s.heap.size N b tW p1 r2 hG) (cwV 1 hts gX3_areTwo_X3_isCitizen rfl rfl rfl (by decide +kernel) ⟨Nat.le_of_ble_eq_true rfl, Nat.le_of_ble_eq_true rfl⟩) ⟨fun a U g mk q => ⟨q.1, q.2.call⟩, va_recv hK hP (ci := 3) (q0 := 0) rfl rfl, fun U hU hW => ⟨rfl, PB.of hU hW hPc hK hDc hNN hSF hS hFc⟩⟩ rfl rfl hl.1 rfl (lv_room (Nat.le_of_ble_eq_true rfl)) dX3_areTwo_2 ⟨Nat.le_of_ble_eq_true rfl, Nat.le_of_ble_eq_true rfl⟩) hS (fun q _ h => hFc q h) hFc (fun z_ u_ t H locs ht hvm hw hB hz1 hk1 hS => ?_)
  subst z_
  obtain ⟨hP1, hD1⟩ := hB
  rw [ht] at hP1
  have hJ := vb_join (ws' := (cwM cI b tW)) hP hD [0, 1, 2, 3, 4, 5, 6, 7, 8, 9] [] [0, 1, 2, 3, 4, 5, 6, 7, 8, 9] rfl rfl (by decide) (by decide) hk1 hFc hP1 hD1 rfl (by decide) rfl
  clear hP hD hPc hDc hFc hP1 hD1 hk1 hz1 ht hvm hG
  obtain ⟨hP, hD⟩ := hJ
  refine lv_if_eq (tgt := 25) hx hb dX3_areTwo_5 (by decide) (fun hc => ?_) (fun hc => ?_)
  · have hF := ift hc hF
    refine lv_iconst (v := nI 0) hx hb dX3_areTwo_25 (by decide) ?_
    obtain rfl := Option.some.inj hF
    exact W.zret (v := (nI 0)) (ty := .boolean) hx hb hr (by decide +kernel) (fun t ht hW => ⟨⟨(nI 0), (), rfl, rfl, QB.of ht hP hD⟩, hS.F ht⟩) hS.2.2 dX3_areTwo_26
  · have hF := iff_ hc hF
    refine lv_aload_n hx hb dX3_areTwo_8 rfl (lv_at hl 0 rfl) ?_
    refine lv_iload_n hx hb dX3_areTwo_9 rfl (lv_at hl 2 rfl) ?_
    have hPc := hP.sub (ws' := (cwM cI b tW)) [0, 1, 2, 3, 4, 5, 6, 7, 8, 9] rfl
    have hDc := hD.sub (ws' := (cwM cI b tW)) [0, 1, 2, 3, 4, 5, 6, 7, 8, 9] (by decide) rfl
    have hFc := va_free (wc := (cwM cI b tW)) hD hS hA [0, 1, 2, 3, 4, 5, 6, 7, 8, 9] rfl
    refine bd hF (fun r10 hG hF => ?_)
    refine va_calli (va_runV (As := [.int p2]) (rest := []) ⟨hx, hb, hml, hown, hts⟩ (c_X3_isCitizen l dC dI cI sf H.size N b tW p2 r10 hG) (cwV 1 hts gX3_areTwo_X3_isCitizen rfl rfl rfl (by decide +kernel) ⟨Nat.le_of_ble_eq_true rfl, Nat.le_of_ble_eq_true rfl⟩) ⟨fun a U g mk q => ⟨q.1, q.2.call⟩, va_recv hK hP (ci := 3) (q0 := 0) rfl rfl, fun U hU hW => ⟨rfl, PB.of hU hW hPc hK hDc hNN hSF hS hFc⟩⟩ rfl rfl hl.1 rfl (lv_room (Nat.le_of_ble_eq_true rfl)) dX3_areTwo_10 ⟨Nat.le_of_ble_eq_true rfl, Nat.le_of_ble_eq_true rfl⟩) hS (fun q _ h => hFc q h) hFc (fun z_ u_ t H locs ht hvm hw hB hz1 hk1 hS => ?_)
    subst z_
    obtain ⟨hP1, hD1⟩ := hB
    rw [ht] at hP1
    have hJ := vb_join (ws' := (cwM cI b tW)) hP hD [0, 1, 2, 3, 4, 5, 6, 7, 8, 9] [] [0, 1, 2, 3, 4, 5, 6, 7, 8, 9] rfl rfl (by decide) (by decide) hk1 hFc hP1 hD1 rfl (by decide) rfl
    clear hP hD hPc hDc hFc hP1 hD1 hk1 hz1 ht hvm hG
    obtain ⟨hP, hD⟩ := hJ
    refine lv_if_eq (tgt := 25) hx hb dX3_areTwo_13 (by decide) (fun hc => ?_) (fun hc => ?_)
    · have hF := ift hc hF
      refine lv_iconst (v := nI 0) hx hb dX3_areTwo_25 (by decide) ?_
      obtain rfl := Option.some.inj hF
      exact W.zret (v := (nI 0)) (ty := .boolean) hx hb hr (by decide +kernel) (fun t ht hW => ⟨⟨(nI 0), (), rfl, rfl, QB.of ht hP hD⟩, hS.F ht⟩) hS.2.2 dX3_areTwo_26
    · have hF := iff_ hc hF
      refine lv_iload_n hx hb dX3_areTwo_16 rfl (lv_at hl 1 rfl) ?_
      refine lv_iload_n hx hb dX3_areTwo_17 rfl (lv_at hl 2 rfl) ?_
      refine lv_icmp_eq (tgt := 25) hx hb dX3_areTwo_18 (by decide) (fun hc => ?_) (fun hc => ?_)
      · have hF := ift hc hF
        refine lv_iconst (v := nI 0) hx hb dX3_areTwo_25 (by decide) ?_
        obtain rfl := Option.some.inj hF
        exact W.zret (v := (nI 0)) (ty := .boolean) hx hb hr (by decide +kernel) (fun t ht hW => ⟨⟨(nI 0), (), rfl, rfl, QB.of ht hP hD⟩, hS.F ht⟩) hS.2.2 dX3_areTwo_26
      · have hF := iff_ hc hF
        refine lv_iconst (v := nI 1) hx hb dX3_areTwo_21 (by decide) ?_
        refine lv_goto (tgt := 26) hx hb dX3_areTwo_22 (by decide) ?_
        obtain rfl := Option.some.inj hF
        exact W.zret (v := (nI 1)) (ty := .boolean) hx hb hr (by decide +kernel) (fun t ht hW => ⟨⟨(nI 1), (), rfl, rfl, QB.of ht hP hD⟩, hS.F ht⟩) hS.2.2 dX3_areTwo_26
set_option maxHeartbeats 4000000 in
set_option maxRecDepth 100000 in
theorem c_X3_bits (l : Launch) (dC : Nat → ClassId) (dI : Nat → Nat → Nat) (cI : ClassId) (sf : SFP) (sz : Nat) (N : Nat) (p0 : Int32) (r : Int32) (hF : F_X3_bits N p0 = some r) : Met l yX3_bits wsX3_bits ({ frames := 0, cells := 0, slots := 0, locals := 0 }) (va_Pc [.int p0] (PB (dC, dI) cI ([] : va_W) sz sf)) (va_Qi (fun (z : Int32) (_ : Unit) => z = r) (fun _ t => QB (dC, dI) ([] : va_W) (va_A ([] : va_W) sz) t) (va_A ([] : va_W) sz)) 0 0 (va_A ([] : va_W) sz) := by
  refine Met.ofW (cc := cX3_bits) (maxL := 3) (ret := (some .int)) (by decide) rfl ?_
  intro p e s m args below meth c s₁ B hml hv
  obtain ⟨rfl, hsz, hP, hK, hD0, hNN, hSF⟩ := hv
  have hx := B.exec
  have hb := B.bytes
  have hr := B.returns
  have hts := atoms_spec (ws := wsX3_bits) B.pre
  have hown : s.vm.findClass RX3 = some m.cls := findClass_of_methodNamed B.named
  have hlocks := B.notSynchronized
  subst hsz
  have hD := hD0.self (sz := s.heap.size)
  generalize hAe : va_A ([] : va_W) s.heap.size = A at hD hSF ⊢
  have hA : ∀ q : Nat, s.heap.size ≤ q → A q := fun q h => by rw [← hAe]; exact Or.inr h
  clear hAe hD0
  have hS : va_S A s.heap s.heap [] := va_S.rf
  have hl := lv_entry ([.int p0]) (n := 3) (Nat.le_of_ble_eq_true rfl)
  rw [lg_entry_eq]
  generalize (lg_sl ([.int p0]) ++ List.replicate (3 - (lg_sl ([.int p0])).length) Slot.unset).toArray = ls at hl ⊢
  have hl : lv_has ls 3 [(0, .int p0)] := hl
  rw [F_X3_bits] at hF
  refine lv_iconst (v := nI 0) hx hb dX3_bits_0 (by decide) ?_
  refine lv_istore_n (lv' := [(1, .int (nI 0)), (0, .int p0)]) hx hb dX3_bits_1 rfl hl (by decide) rfl (fun ls hl => ?_)
  refine lv_iconst (v := nI 0) hx hb dX3_bits_2 (by decide) ?_
  refine vW_have (fun R av Q => ∀ (n4 : Nat) (x0 : Int32) (x1 : Int32) (x2 : Int32) (H : Heap) (locs : List Loc) (ls : Array Slot), F_X3_bits_4 N n4 x0 x1 x2 = some r → va_P (dC, dI) vwCl ([] : va_W) H → va_D A ([] : va_W) → va_S A s.heap H locs → lv_has ls 3 [(0, .int x0), (1, .int x1), (2, .int x2)] → W p l e R s m av below meth c H locs 0 0 Q (F0 m 4 ls [])) ?_ (fun kJ4 => ?_)
  · intro n4
    induction n4 with
    | zero => intro x0 x1 x2 H locs ls hF; exact nn hF
    | succ n4 ih4 =>
      intro x0 x1 x2 H locs ls hF hP hD hS hl
      rw [F_X3_bits_4] at hF
      refine lv_iload_n hx hb dX3_bits_4 rfl (lv_at hl 2 rfl) ?_
      refine lv_bipush (v := nI 8) hx hb dX3_bits_5 (by decide) ?_
      refine lv_icmp_ge (tgt := 24) hx hb dX3_bits_7 (by decide) (fun hc => ?_) (fun hc => ?_)
      · have hF := ift hc hF
        refine lv_iload_n hx hb dX3_bits_24 rfl (lv_at hl 1 rfl) ?_
        obtain rfl := Option.some.inj hF
        exact W.iret (v := x1) hx hb hr (fun t ht hW => ⟨⟨x1, (), rfl, rfl, QB.of ht hP hD⟩, hS.F ht⟩) hS.2.2 dX3_bits_25
      · have hF := iff_ hc hF
        refine lv_iload_n hx hb dX3_bits_10 rfl (lv_at hl 1 rfl) ?_
        refine lv_iload_n hx hb dX3_bits_11 rfl (lv_at hl 0 rfl) ?_
        refine lv_iload_n hx hb dX3_bits_12 rfl (lv_at hl 2 rfl) ?_
        refine lv_ishr hx hb dX3_bits_13 ?_
        refine lv_iconst (v := nI 1) hx hb dX3_bits_14 (by decide) ?_
        refine lv_iand hx hb dX3_bits_15 ?_
        refine lv_iadd hx hb dX3_bits_16 ?_
        refine lv_istore_n (lv' := [(1, .int (x1 + ((x0 >>> (x2 &&& 31)) &&& (nI 1)))), (0, .int x0), (2, .int x2)]) hx hb dX3_bits_17 rfl hl (by decide) rfl (fun ls hl => ?_)
        refine lv_iinc (v := x2 + (nI 1)) (lv' := [(2, .int (x2 + (nI 1))), (1, .int (x1 + ((x0 >>> (x2 &&& 31)) &&& (nI 1)))), (0, .int x0)]) hx hb dX3_bits_18 hl (k := 2) rfl (by rfl) (by decide) rfl (fun ls hl => ?_)
        refine lv_goto (tgt := 4) hx hb dX3_bits_21 (by decide) ?_
        exact ih4 x0 (x1 + ((x0 >>> (x2 &&& 31)) &&& (nI 1))) (x2 + (nI 1)) _ _ _ hF hP hD hS (lv_sub hl [2, 1, 0] rfl)
  refine lv_istore_n (lv' := [(2, .int (nI 0)), (1, .int (nI 0)), (0, .int p0)]) hx hb dX3_bits_3 rfl hl (by decide) rfl (fun ls hl => ?_)
  exact kJ4 N p0 (nI 0) (nI 0) _ _ _ hF hP hD hS (lv_sub hl [2, 1, 0] rfl)
set_option maxHeartbeats 4000000 in
set_option maxRecDepth 100000 in
theorem c_X3_saying (l : Launch) (dC : Nat → ClassId) (dI : Nat → Nat → Nat) (cI : ClassId) (sf : SFP) (sz : Nat) (N : Nat) (j00 : Nat) (g0W : FA) (p1 : Int32) (p2 : Int32) (r : Int32) (hF : F_X3_saying N g0W p1 p2 = some r) : Met l yX3_saying wsX3_saying ({ frames := 2, cells := 0, slots := 0, locals := 42 }) (va_Pc [.ref j00, .int p1, .int p2] (PB (dC, dI) cI (cwA cI j00 g0W) sz sf)) (va_Qi (fun (z : Int32) (_ : Unit) => z = r) (fun _ t => QB (dC, dI) (cwA cI j00 g0W) (va_A (cwA cI j00 g0W) sz) t) (va_A (cwA cI j00 g0W) sz)) 0 0 (va_A (cwA cI j00 g0W) sz) := by
  refine Met.ofW (cc := cX3_saying) (maxL := 5) (ret := (some .int)) (by decide) rfl ?_
  intro p e s m args below meth c s₁ B hml hv
  obtain ⟨rfl, hsz, hP, hK, hD0, hNN, hSF⟩ := hv
  have hx := B.exec
  have hb := B.bytes
  have hr := B.returns
  have hts := atoms_spec (ws := wsX3_saying) B.pre
  have hown : s.vm.findClass RX3 = some m.cls := findClass_of_methodNamed B.named
  have hlocks := B.notSynchronized
  subst hsz
  have hD := hD0.self (sz := s.heap.size)
  generalize hAe : va_A (cwA cI j00 g0W) s.heap.size = A at hD hSF ⊢
  have hA : ∀ q : Nat, s.heap.size ≤ q → A q := fun q h => by rw [← hAe]; exact Or.inr h
  clear hAe hD0
  have hS : va_S A s.heap s.heap [] := va_S.rf
  have hl := lv_entry ([.ref j00, .int p1, .int p2]) (n := 5) (Nat.le_of_ble_eq_true rfl)
  rw [lg_entry_eq]
  generalize (lg_sl ([.ref j00, .int p1, .int p2]) ++ List.replicate (5 - (lg_sl ([.ref j00, .int p1, .int p2])).length) Slot.unset).toArray = ls at hl ⊢
  have hl : lv_has ls 5 [(0, .ref j00), (1, .int p1), (2, .int p2)] := hl
  rw [F_X3_saying] at hF
  refine lv_iconst (v := nI 0) hx hb dX3_saying_0 (by decide) ?_
  refine lv_istore_n (lv' := [(3, .int (nI 0)), (0, .ref j00), (1, .int p1), (2, .int p2)]) hx hb dX3_saying_1 rfl hl (by decide) rfl (fun ls hl => ?_)
  refine lv_iconst (v := nI 0) hx hb dX3_saying_2 (by decide) ?_
  refine vW_have (fun R av Q => ∀ (n5 : Nat) (x1 : Int32) (x2 : Int32) (x3 : Int32) (x4 : Int32) (H : Heap) (locs : List Loc) (ls : Array Slot), F_X3_saying_5 N g0W n5 x1 x2 x3 x4 = some r → va_P (dC, dI) vwCl (cwA cI j00 g0W) H → va_D A (cwA cI j00 g0W) → va_S A s.heap H locs → lv_has ls 5 [(0, .ref j00), (1, .int x1), (2, .int x2), (3, .int x3), (4, .int x4)] → W p l e R s m av below meth c H locs 0 0 Q (F0 m 5 ls [])) ?_ (fun kJ5 => ?_)
  · intro n5
    induction n5 with
    | zero => intro x1 x2 x3 x4 H locs ls hF; exact nn hF
    | succ n5 ih5 =>
      intro x1 x2 x3 x4 H locs ls hF hP hD hS hl
      rw [F_X3_saying_5] at hF
      refine lv_iload hx hb dX3_saying_5 (lv_at hl 4 rfl) ?_
      refine lv_aload_n hx hb dX3_saying_7 rfl (lv_at hl 0 rfl) ?_
      refine lv_iconst (v := nI 0) hx hb dX3_saying_8 (by decide) ?_
      refine va_iald (D := (dC, dI)) hx hb hK hP 0 0 rfl rfl (vp_in_nI (n := 0) (N := 74) (by decide) (by decide)) dX3_saying_9 ?_
      refine lv_icmp_ge (tgt := 50) hx hb dX3_saying_10 (by decide) (fun hc => ?_) (fun hc => ?_)
      · have hF := ift hc hF
        refine lv_iload_n hx hb dX3_saying_50 rfl (lv_at hl 3 rfl) ?_
        obtain rfl := Option.some.inj hF
        exact W.iret (v := x3) hx hb hr (fun t ht hW => ⟨⟨x3, (), rfl, rfl, QB.of ht hP hD⟩, hS.F ht⟩) hS.2.2 dX3_saying_51
      · have hF := iff_ hc hF
        refine lv_iload_n hx hb dX3_saying_13 rfl (lv_at hl 3 rfl) ?_
        refine lv_aload_n hx hb dX3_saying_14 rfl (lv_at hl 0 rfl) ?_
        refine lv_iload hx hb dX3_saying_15 (lv_at hl 4 rfl) ?_
        have hPc := hP.sub (ws' := (cwA cI j00 g0W)) [0] rfl
        have hDc := hD.sub (ws' := (cwA cI j00 g0W)) [0] (by decide) rfl
        have hFc := va_free (wc := (cwA cI j00 g0W)) hD hS hA [0] rfl
        refine bd hF (fun r17 hG hF => ?_)
        refine va_calli (va_runS (As := [.ref j00, .int x4]) (rest := [.int x3]) ⟨hx, hb, hml, hown, hts⟩ (c_X3_isAlive l dC dI cI sf H.size N j00 g0W x4 r17 hG) (va_cwS 2 hts gX3_saying_X3_isAlive rfl rfl rfl (by decide +kernel) ⟨Nat.le_of_ble_eq_true rfl, Nat.le_of_ble_eq_true rfl⟩) ⟨fun a U g mk q => ⟨q.1, q.2.call⟩, fun U hU hW => ⟨rfl, PB.of hU hW hPc hK hDc hNN hSF hS hFc⟩⟩ rfl rfl hl.1 rfl (lv_room (Nat.le_of_ble_eq_true rfl)) dX3_saying_17 ⟨Nat.le_of_ble_eq_true rfl, Nat.le_of_ble_eq_true rfl⟩) hS (fun q _ h => hFc q h) hFc (fun z_ u_ t H locs ht hvm hw hB hz1 hk1 hS => ?_)
        subst z_
        obtain ⟨hP1, hD1⟩ := hB
        rw [ht] at hP1
        have hJ := vb_join (ws' := (cwA cI j00 g0W)) hP hD [0] [] [0] rfl rfl (by decide) (by decide) hk1 hFc hP1 hD1 rfl (by decide) rfl
        clear hP hD hPc hDc hFc hP1 hD1 hk1 hz1 ht hvm hG
        obtain ⟨hP, hD⟩ := hJ
        refine vW_have (fun R av Q => ∀ (x1 : Int32) (x2 : Int32) (x4 : Int32) (z0 : Int32) (z1 : Int32) (H : Heap) (locs : List Loc) (ls : Array Slot), F_X3_saying_42 N g0W (fun cx1 cx2 cx3 cx4 => F_X3_saying_5 N g0W n5 cx1 cx2 cx3 cx4) x1 x2 x4 z0 z1 = some r → va_P (dC, dI) vwCl (cwA cI j00 g0W) H → va_D A (cwA cI j00 g0W) → va_S A s.heap H locs → lv_has ls 5 [(0, .ref j00), (1, .int x1), (2, .int x2), (4, .int x4)] → W p l e R s m av below meth c H locs 0 0 Q (F0 m 42 ls [.int z1, .int z0])) ?_ (fun kJ42 => ?_)
        · 
          intro x1 x2 x4 z0 z1 H locs ls hF hP hD hS hl
          rw [F_X3_saying_42] at hF
          refine lv_iadd hx hb dX3_saying_42 ?_
          refine lv_istore_n (lv' := [(3, .int (z0 + z1)), (0, .ref j00), (1, .int x1), (2, .int x2), (4, .int x4)]) hx hb dX3_saying_43 rfl hl (by decide) rfl (fun ls hl => ?_)
          refine lv_iinc (v := x4 + (nI 1)) (lv' := [(4, .int (x4 + (nI 1))), (3, .int (z0 + z1)), (0, .ref j00), (1, .int x1), (2, .int x2)]) hx hb dX3_saying_44 hl (k := 4) rfl (by rfl) (by decide) rfl (fun ls hl => ?_)
          refine lv_goto (tgt := 5) hx hb dX3_saying_47 (by decide) ?_
          exact ih5 x1 x2 (z0 + z1) (x4 + (nI 1)) _ _ _ hF hP hD hS (lv_sub hl [2, 3, 4, 1, 0] rfl)
        refine lv_if_eq (tgt := 41) hx hb dX3_saying_20 (by decide) (fun hc => ?_) (fun hc => ?_)
        · have hF := ift hc hF
          refine lv_iconst (v := nI 0) hx hb dX3_saying_41 (by decide) ?_
          exact kJ42 x1 x2 x4 x3 (nI 0) _ _ _ hF hP hD hS (lv_sub hl [0, 1, 2, 4] rfl)
        · have hF := iff_ hc hF
          refine lv_aload_n hx hb dX3_saying_23 rfl (lv_at hl 0 rfl) ?_
          refine lv_iload hx hb dX3_saying_24 (lv_at hl 4 rfl) ?_
          refine lv_iconst (v := nI 4) hx hb dX3_saying_26 (by decide) ?_
          refine lv_iload_n hx hb dX3_saying_27 rfl (lv_at hl 1 rfl) ?_
          refine lv_iadd hx hb dX3_saying_28 ?_
          have hPc := hP.sub (ws' := ([] : va_W)) [] rfl
          have hDc := hD.sub (ws' := ([] : va_W)) [] (by decide) rfl
          have hFc := va_free (wc := ([] : va_W)) hD hS hA [] rfl
          refine bd hF (fun r29 hG hF => ?_)
          refine va_calli (va_runS (As := [.int x4, .int ((nI 4) + x1)]) (rest := [.ref j00, .int x3]) ⟨hx, hb, hml, hown, hts⟩ (c_X3_of l dC dI cI sf H.size N  x4 ((nI 4) + x1) r29 hG) (va_cwS 2 hts gX3_saying_X3_of rfl rfl rfl (by decide +kernel) ⟨Nat.le_of_ble_eq_true rfl, Nat.le_of_ble_eq_true rfl⟩) ⟨fun a U g mk q => ⟨q.1, q.2.call⟩, fun U hU hW => ⟨rfl, PB.of hU hW hPc hK hDc hNN hSF hS hFc⟩⟩ rfl rfl hl.1 rfl (lv_room (Nat.le_of_ble_eq_true rfl)) dX3_saying_29 ⟨Nat.le_of_ble_eq_true rfl, Nat.le_of_ble_eq_true rfl⟩) hS (fun q _ h => hFc q h) hFc (fun z_ u_ t H locs ht hvm hw hB hz1 hk1 hS => ?_)
          subst z_
          obtain ⟨hP1, hD1⟩ := hB
          rw [ht] at hP1
          have hJ := vb_join (ws' := (cwA cI j00 g0W)) hP hD [] [0] [0] rfl rfl (by decide) (by decide) hk1 hFc hP1 hD1 rfl (by decide) rfl
          clear hP hD hPc hDc hFc hP1 hD1 hk1 hz1 ht hvm hG
          obtain ⟨hP, hD⟩ := hJ
          refine cki hF (fun hi hF => ?_)
          refine va_iald (D := (dC, dI)) hx hb hK hP 0 0 rfl rfl hi dX3_saying_32 ?_
          refine lv_iload_n hx hb dX3_saying_33 rfl (lv_at hl 2 rfl) ?_
          refine lv_icmp_ne (tgt := 41) hx hb dX3_saying_34 (by decide) (fun hc => ?_) (fun hc => ?_)
          · have hF := ift hc hF
            refine lv_iconst (v := nI 0) hx hb dX3_saying_41 (by decide) ?_
            exact kJ42 x1 x2 x4 x3 (nI 0) _ _ _ hF hP hD hS (lv_sub hl [0, 1, 2, 4] rfl)
          · have hF := iff_ (fun h => h hc) hF
            refine lv_iconst (v := nI 1) hx hb dX3_saying_37 (by decide) ?_
            refine lv_goto (tgt := 42) hx hb dX3_saying_38 (by decide) ?_
            exact kJ42 x1 x2 x4 x3 (nI 1) _ _ _ hF hP hD hS (lv_sub hl [0, 1, 2, 4] rfl)
  refine lv_istore (lv' := [(4, .int (nI 0)), (3, .int (nI 0)), (0, .ref j00), (1, .int p1), (2, .int p2)]) hx hb dX3_saying_3 hl (by decide) rfl (fun ls hl => ?_)
  exact kJ5 N p1 p2 (nI 0) (nI 0) _ _ _ hF hP hD hS (lv_sub hl [2, 3, 4, 1, 0] rfl)
set_option maxHeartbeats 4000000 in
set_option maxRecDepth 100000 in
theorem c_X3_isWritten (l : Launch) (dC : Nat → ClassId) (dI : Nat → Nat → Nat) (cI : ClassId) (sf : SFP) (sz : Nat) (N : Nat) (j00 : Nat) (g0W : FA) (p1 : Int32) (r : Int32) (hF : F_X3_isWritten N g0W p1 = some r) : Met l yX3_isWritten wsX3_isWritten ({ frames := 3, cells := 0, slots := 0, locals := 66 }) (va_Pc [.ref j00, .int p1] (PB (dC, dI) cI (cwA cI j00 g0W) sz sf)) (va_Qi (fun (z : Int32) (_ : Unit) => z = r) (fun _ t => QB (dC, dI) (cwA cI j00 g0W) (va_A (cwA cI j00 g0W) sz) t) (va_A (cwA cI j00 g0W) sz)) 0 0 (va_A (cwA cI j00 g0W) sz) := by
  refine Met.ofW (cc := cX3_isWritten) (maxL := 2) (ret := (some .boolean)) (by decide) rfl ?_
  intro p e s m args below meth c s₁ B hml hv
  obtain ⟨rfl, hsz, hP, hK, hD0, hNN, hSF⟩ := hv
  have hx := B.exec
  have hb := B.bytes
  have hr := B.returns
  have hts := atoms_spec (ws := wsX3_isWritten) B.pre
  have hown : s.vm.findClass RX3 = some m.cls := findClass_of_methodNamed B.named
  have hlocks := B.notSynchronized
  subst hsz
  have hD := hD0.self (sz := s.heap.size)
  generalize hAe : va_A (cwA cI j00 g0W) s.heap.size = A at hD hSF ⊢
  have hA : ∀ q : Nat, s.heap.size ≤ q → A q := fun q h => by rw [← hAe]; exact Or.inr h
  clear hAe hD0
  have hS : va_S A s.heap s.heap [] := va_S.rf
  have hl := lv_entry ([.ref j00, .int p1]) (n := 2) (Nat.le_of_ble_eq_true rfl)
  rw [lg_entry_eq]
  generalize (lg_sl ([.ref j00, .int p1]) ++ List.replicate (2 - (lg_sl ([.ref j00, .int p1])).length) Slot.unset).toArray = ls at hl ⊢
  have hl : lv_has ls 2 [(0, .ref j00), (1, .int p1)] := hl
  rw [F_X3_isWritten] at hF
  refine lv_aload_n hx hb dX3_isWritten_0 rfl (lv_at hl 0 rfl) ?_
  refine lv_iload_n hx hb dX3_isWritten_1 rfl (lv_at hl 1 rfl) ?_
  refine lv_iconst (v := nI 1) hx hb dX3_isWritten_2 (by decide) ?_
  have hPc := hP.sub (ws' := (cwA cI j00 g0W)) [0] rfl
  have hDc := hD.sub (ws' := (cwA cI j00 g0W)) [0] (by decide) rfl
  have hFc := va_free (wc := (cwA cI j00 g0W)) hD hS hA [0] rfl
  refine bd hF (fun r3 hG hF => ?_)
  refine va_calli (va_runS (As := [.ref j00, .int p1, .int (nI 1)]) (rest := []) ⟨hx, hb, hml, hown, hts⟩ (c_X3_saying l dC dI cI sf s.heap.size N j00 g0W p1 (nI 1) r3 hG) (va_cwS 3 hts gX3_isWritten_X3_saying rfl rfl rfl (by decide +kernel) ⟨Nat.le_of_ble_eq_true rfl, Nat.le_of_ble_eq_true rfl⟩) ⟨fun a U g mk q => ⟨q.1, q.2.call⟩, fun U hU hW => ⟨rfl, PB.of hU hW hPc hK hDc hNN hSF hS hFc⟩⟩ rfl rfl hl.1 rfl (lv_room (Nat.le_of_ble_eq_true rfl)) dX3_isWritten_3 ⟨Nat.le_of_ble_eq_true rfl, Nat.le_of_ble_eq_true rfl⟩) hS (fun q _ h => hFc q h) hFc (fun z_ u_ t H locs ht hvm hw hB hz1 hk1 hS => ?_)
  subst z_
  obtain ⟨hP1, hD1⟩ := hB
  rw [ht] at hP1
  have hJ := vb_join (ws' := (cwA cI j00 g0W)) hP hD [0] [] [0] rfl rfl (by decide) (by decide) hk1 hFc hP1 hD1 rfl (by decide) rfl
  clear hP hD hPc hDc hFc hP1 hD1 hk1 hz1 ht hvm hG
  obtain ⟨hP, hD⟩ := hJ
  refine lv_if_le (tgt := 22) hx hb dX3_isWritten_6 (by decide) (fun hc => ?_) (fun hc => ?_)
  · have hF := ift hc hF
    refine lv_iconst (v := nI 0) hx hb dX3_isWritten_22 (by decide) ?_
    obtain rfl := Option.some.inj hF
    exact W.zret (v := (nI 0)) (ty := .boolean) hx hb hr (by decide +kernel) (fun t ht hW => ⟨⟨(nI 0), (), rfl, rfl, QB.of ht hP hD⟩, hS.F ht⟩) hS.2.2 dX3_isWritten_23
  · have hF := iff_ hc hF
    refine lv_aload_n hx hb dX3_isWritten_9 rfl (lv_at hl 0 rfl) ?_
    refine lv_iload_n hx hb dX3_isWritten_10 rfl (lv_at hl 1 rfl) ?_
    refine lv_iconst (v := nI 2) hx hb dX3_isWritten_11 (by decide) ?_
    have hPc := hP.sub (ws' := (cwA cI j00 g0W)) [0] rfl
    have hDc := hD.sub (ws' := (cwA cI j00 g0W)) [0] (by decide) rfl
    have hFc := va_free (wc := (cwA cI j00 g0W)) hD hS hA [0] rfl
    refine bd hF (fun r12 hG hF => ?_)
    refine va_calli (va_runS (As := [.ref j00, .int p1, .int (nI 2)]) (rest := []) ⟨hx, hb, hml, hown, hts⟩ (c_X3_saying l dC dI cI sf H.size N j00 g0W p1 (nI 2) r12 hG) (va_cwS 3 hts gX3_isWritten_X3_saying rfl rfl rfl (by decide +kernel) ⟨Nat.le_of_ble_eq_true rfl, Nat.le_of_ble_eq_true rfl⟩) ⟨fun a U g mk q => ⟨q.1, q.2.call⟩, fun U hU hW => ⟨rfl, PB.of hU hW hPc hK hDc hNN hSF hS hFc⟩⟩ rfl rfl hl.1 rfl (lv_room (Nat.le_of_ble_eq_true rfl)) dX3_isWritten_12 ⟨Nat.le_of_ble_eq_true rfl, Nat.le_of_ble_eq_true rfl⟩) hS (fun q _ h => hFc q h) hFc (fun z_ u_ t H locs ht hvm hw hB hz1 hk1 hS => ?_)
    subst z_
    obtain ⟨hP1, hD1⟩ := hB
    rw [ht] at hP1
    have hJ := vb_join (ws' := (cwA cI j00 g0W)) hP hD [0] [] [0] rfl rfl (by decide) (by decide) hk1 hFc hP1 hD1 rfl (by decide) rfl
    clear hP hD hPc hDc hFc hP1 hD1 hk1 hz1 ht hvm hG
    obtain ⟨hP, hD⟩ := hJ
    refine lv_if_le (tgt := 22) hx hb dX3_isWritten_15 (by decide) (fun hc => ?_) (fun hc => ?_)
    · have hF := ift hc hF
      refine lv_iconst (v := nI 0) hx hb dX3_isWritten_22 (by decide) ?_
      obtain rfl := Option.some.inj hF
      exact W.zret (v := (nI 0)) (ty := .boolean) hx hb hr (by decide +kernel) (fun t ht hW => ⟨⟨(nI 0), (), rfl, rfl, QB.of ht hP hD⟩, hS.F ht⟩) hS.2.2 dX3_isWritten_23
    · have hF := iff_ hc hF
      refine lv_iconst (v := nI 1) hx hb dX3_isWritten_18 (by decide) ?_
      refine lv_goto (tgt := 23) hx hb dX3_isWritten_19 (by decide) ?_
      obtain rfl := Option.some.inj hF
      exact W.zret (v := (nI 1)) (ty := .boolean) hx hb hr (by decide +kernel) (fun t ht hW => ⟨⟨(nI 1), (), rfl, rfl, QB.of ht hP hD⟩, hS.F ht⟩) hS.2.2 dX3_isWritten_23
set_option maxHeartbeats 4000000 in
set_option maxRecDepth 100000 in
theorem c_X3_chapterOf (l : Launch) (dC : Nat → ClassId) (dI : Nat → Nat → Nat) (cI : ClassId) (sf : SFP) (sz : Nat) (N : Nat) (j00 : Nat) (g0W : FA) (p1 : Int32) (r : Int32) (hF : F_X3_chapterOf N g0W p1 = some r) : Met l yX3_chapterOf wsX3_chapterOf ({ frames := 4, cells := 0, slots := 0, locals := 87 }) (va_Pc [.ref j00, .int p1] (PB (dC, dI) cI (cwA cI j00 g0W) sz sf)) (va_Qi (fun (z : Int32) (_ : Unit) => z = r) (fun _ t => QB (dC, dI) (cwA cI j00 g0W) (va_A (cwA cI j00 g0W) sz) t) (va_A (cwA cI j00 g0W) sz)) 0 0 (va_A (cwA cI j00 g0W) sz) := by
  refine Met.ofW (cc := cX3_chapterOf) (maxL := 4) (ret := (some .int)) (by decide) rfl ?_
  intro p e s m args below meth c s₁ B hml hv
  obtain ⟨rfl, hsz, hP, hK, hD0, hNN, hSF⟩ := hv
  have hx := B.exec
  have hb := B.bytes
  have hr := B.returns
  have hts := atoms_spec (ws := wsX3_chapterOf) B.pre
  have hown : s.vm.findClass RX3 = some m.cls := findClass_of_methodNamed B.named
  have hlocks := B.notSynchronized
  subst hsz
  have hD := hD0.self (sz := s.heap.size)
  generalize hAe : va_A (cwA cI j00 g0W) s.heap.size = A at hD hSF ⊢
  have hA : ∀ q : Nat, s.heap.size ≤ q → A q := fun q h => by rw [← hAe]; exact Or.inr h
  clear hAe hD0
  have hS : va_S A s.heap s.heap [] := va_S.rf
  have hl := lv_entry ([.ref j00, .int p1]) (n := 4) (Nat.le_of_ble_eq_true rfl)
  rw [lg_entry_eq]
  generalize (lg_sl ([.ref j00, .int p1]) ++ List.replicate (4 - (lg_sl ([.ref j00, .int p1])).length) Slot.unset).toArray = ls at hl ⊢
  have hl : lv_has ls 4 [(0, .ref j00), (1, .int p1)] := hl
  rw [F_X3_chapterOf] at hF
  refine lv_iconst (v := nI 0) hx hb dX3_chapterOf_0 (by decide) ?_
  refine lv_istore_n (lv' := [(2, .int (nI 0)), (0, .ref j00), (1, .int p1)]) hx hb dX3_chapterOf_1 rfl hl (by decide) rfl (fun ls hl => ?_)
  refine lv_iconst (v := nI 0) hx hb dX3_chapterOf_2 (by decide) ?_
  refine vW_have (fun R av Q => ∀ (n4 : Nat) (x1 : Int32) (x2 : Int32) (x3 : Int32) (H : Heap) (locs : List Loc) (ls : Array Slot), F_X3_chapterOf_4 N g0W n4 x1 x2 x3 = some r → va_P (dC, dI) vwCl (cwA cI j00 g0W) H → va_D A (cwA cI j00 g0W) → va_S A s.heap H locs → lv_has ls 4 [(0, .ref j00), (1, .int x1), (2, .int x2), (3, .int x3)] → W p l e R s m av below meth c H locs 0 0 Q (F0 m 4 ls [])) ?_ (fun kJ4 => ?_)
  · intro n4
    induction n4 with
    | zero => intro x1 x2 x3 H locs ls hF; exact nn hF
    | succ n4 ih4 =>
      intro x1 x2 x3 H locs ls hF hP hD hS hl
      rw [F_X3_chapterOf_4] at hF
      refine lv_iload_n hx hb dX3_chapterOf_4 rfl (lv_at hl 3 rfl) ?_
      refine lv_bipush (v := nI 8) hx hb dX3_chapterOf_5 (by decide) ?_
      refine lv_icmp_ge (tgt := 52) hx hb dX3_chapterOf_7 (by decide) (fun hc => ?_) (fun hc => ?_)
      · have hF := ift hc hF
        refine lv_iload_n hx hb dX3_chapterOf_52 rfl (lv_at hl 2 rfl) ?_
        obtain rfl := Option.some.inj hF
        exact W.iret (v := x2) hx hb hr (fun t ht hW => ⟨⟨x2, (), rfl, rfl, QB.of ht hP hD⟩, hS.F ht⟩) hS.2.2 dX3_chapterOf_53
      · have hF := iff_ hc hF
        refine lv_iload_n hx hb dX3_chapterOf_10 rfl (lv_at hl 2 rfl) ?_
        refine lv_aload_n hx hb dX3_chapterOf_11 rfl (lv_at hl 0 rfl) ?_
        refine lv_iload_n hx hb dX3_chapterOf_12 rfl (lv_at hl 1 rfl) ?_
        have hPc := hP.sub (ws' := (cwA cI j00 g0W)) [0] rfl
        have hDc := hD.sub (ws' := (cwA cI j00 g0W)) [0] (by decide) rfl
        have hFc := va_free (wc := (cwA cI j00 g0W)) hD hS hA [0] rfl
        refine bd hF (fun r13 hG hF => ?_)
        refine va_calli (va_runS (As := [.ref j00, .int x1]) (rest := [.int x2]) ⟨hx, hb, hml, hown, hts⟩ (c_X3_isAlive l dC dI cI sf H.size N j00 g0W x1 r13 hG) (va_cwS 2 hts gX3_chapterOf_X3_isAlive rfl rfl rfl (by decide +kernel) ⟨Nat.le_of_ble_eq_true rfl, Nat.le_of_ble_eq_true rfl⟩) ⟨fun a U g mk q => ⟨q.1, q.2.call⟩, fun U hU hW => ⟨rfl, PB.of hU hW hPc hK hDc hNN hSF hS hFc⟩⟩ rfl rfl hl.1 rfl (lv_room (Nat.le_of_ble_eq_true rfl)) dX3_chapterOf_13 ⟨Nat.le_of_ble_eq_true rfl, Nat.le_of_ble_eq_true rfl⟩) hS (fun q _ h => hFc q h) hFc (fun z_ u_ t H locs ht hvm hw hB hz1 hk1 hS => ?_)
        subst z_
        obtain ⟨hP1, hD1⟩ := hB
        rw [ht] at hP1
        have hJ := vb_join (ws' := (cwA cI j00 g0W)) hP hD [0] [] [0] rfl rfl (by decide) (by decide) hk1 hFc hP1 hD1 rfl (by decide) rfl
        clear hP hD hPc hDc hFc hP1 hD1 hk1 hz1 ht hvm hG
        obtain ⟨hP, hD⟩ := hJ
        refine vW_have (fun R av Q => ∀ (x1 : Int32) (x3 : Int32) (z0 : Int32) (z1 : Int32) (H : Heap) (locs : List Loc) (ls : Array Slot), F_X3_chapterOf_44 N g0W (fun cx1 cx2 cx3 => F_X3_chapterOf_4 N g0W n4 cx1 cx2 cx3) x1 x3 z0 z1 = some r → va_P (dC, dI) vwCl (cwA cI j00 g0W) H → va_D A (cwA cI j00 g0W) → va_S A s.heap H locs → lv_has ls 4 [(0, .ref j00), (1, .int x1), (3, .int x3)] → W p l e R s m av below meth c H locs 0 0 Q (F0 m 44 ls [.int z1, .int z0])) ?_ (fun kJ44 => ?_)
        · 
          intro x1 x3 z0 z1 H locs ls hF hP hD hS hl
          rw [F_X3_chapterOf_44] at hF
          refine lv_iadd hx hb dX3_chapterOf_44 ?_
          refine lv_istore_n (lv' := [(2, .int (z0 + z1)), (0, .ref j00), (1, .int x1), (3, .int x3)]) hx hb dX3_chapterOf_45 rfl hl (by decide) rfl (fun ls hl => ?_)
          refine lv_iinc (v := x3 + (nI 1)) (lv' := [(3, .int (x3 + (nI 1))), (2, .int (z0 + z1)), (0, .ref j00), (1, .int x1)]) hx hb dX3_chapterOf_46 hl (k := 3) rfl (by rfl) (by decide) rfl (fun ls hl => ?_)
          refine lv_goto (tgt := 4) hx hb dX3_chapterOf_49 (by decide) ?_
          exact ih4 x1 (z0 + z1) (x3 + (nI 1)) _ _ _ hF hP hD hS (lv_sub hl [2, 3, 1, 0] rfl)
        refine lv_if_eq (tgt := 43) hx hb dX3_chapterOf_16 (by decide) (fun hc => ?_) (fun hc => ?_)
        · have hF := ift hc hF
          refine lv_iconst (v := nI 0) hx hb dX3_chapterOf_43 (by decide) ?_
          exact kJ44 x1 x3 x2 (nI 0) _ _ _ hF hP hD hS (lv_sub hl [0, 1, 3] rfl)
        · have hF := iff_ hc hF
          refine lv_aload_n hx hb dX3_chapterOf_19 rfl (lv_at hl 0 rfl) ?_
          refine lv_iload_n hx hb dX3_chapterOf_20 rfl (lv_at hl 1 rfl) ?_
          refine lv_iconst (v := nI 4) hx hb dX3_chapterOf_21 (by decide) ?_
          refine lv_iload_n hx hb dX3_chapterOf_22 rfl (lv_at hl 3 rfl) ?_
          refine lv_iadd hx hb dX3_chapterOf_23 ?_
          have hPc := hP.sub (ws' := ([] : va_W)) [] rfl
          have hDc := hD.sub (ws' := ([] : va_W)) [] (by decide) rfl
          have hFc := va_free (wc := ([] : va_W)) hD hS hA [] rfl
          refine bd hF (fun r24 hG hF => ?_)
          refine va_calli (va_runS (As := [.int x1, .int ((nI 4) + x3)]) (rest := [.ref j00, .int x2]) ⟨hx, hb, hml, hown, hts⟩ (c_X3_of l dC dI cI sf H.size N  x1 ((nI 4) + x3) r24 hG) (va_cwS 2 hts gX3_chapterOf_X3_of rfl rfl rfl (by decide +kernel) ⟨Nat.le_of_ble_eq_true rfl, Nat.le_of_ble_eq_true rfl⟩) ⟨fun a U g mk q => ⟨q.1, q.2.call⟩, fun U hU hW => ⟨rfl, PB.of hU hW hPc hK hDc hNN hSF hS hFc⟩⟩ rfl rfl hl.1 rfl (lv_room (Nat.le_of_ble_eq_true rfl)) dX3_chapterOf_24 ⟨Nat.le_of_ble_eq_true rfl, Nat.le_of_ble_eq_true rfl⟩) hS (fun q _ h => hFc q h) hFc (fun z_ u_ t H locs ht hvm hw hB hz1 hk1 hS => ?_)
          subst z_
          obtain ⟨hP1, hD1⟩ := hB
          rw [ht] at hP1
          have hJ := vb_join (ws' := (cwA cI j00 g0W)) hP hD [] [0] [0] rfl rfl (by decide) (by decide) hk1 hFc hP1 hD1 rfl (by decide) rfl
          clear hP hD hPc hDc hFc hP1 hD1 hk1 hz1 ht hvm hG
          obtain ⟨hP, hD⟩ := hJ
          refine cki hF (fun hi hF => ?_)
          refine va_iald (D := (dC, dI)) hx hb hK hP 0 0 rfl rfl hi dX3_chapterOf_27 ?_
          refine lv_if_eq (tgt := 43) hx hb dX3_chapterOf_28 (by decide) (fun hc => ?_) (fun hc => ?_)
          · have hF := ift hc hF
            refine lv_iconst (v := nI 0) hx hb dX3_chapterOf_43 (by decide) ?_
            exact kJ44 x1 x3 x2 (nI 0) _ _ _ hF hP hD hS (lv_sub hl [0, 1, 3] rfl)
          · have hF := iff_ hc hF
            refine lv_aload_n hx hb dX3_chapterOf_31 rfl (lv_at hl 0 rfl) ?_
            refine lv_iload_n hx hb dX3_chapterOf_32 rfl (lv_at hl 3 rfl) ?_
            have hPc := hP.sub (ws' := (cwA cI j00 g0W)) [0] rfl
            have hDc := hD.sub (ws' := (cwA cI j00 g0W)) [0] (by decide) rfl
            have hFc := va_free (wc := (cwA cI j00 g0W)) hD hS hA [0] rfl
            refine bd hF (fun r33 hG hF => ?_)
            refine va_calli (va_runS (As := [.ref j00, .int x3]) (rest := [.int x2]) ⟨hx, hb, hml, hown, hts⟩ (c_X3_isWritten l dC dI cI sf H.size N j00 g0W x3 r33 hG) (va_cwS 2 hts gX3_chapterOf_X3_isWritten rfl rfl rfl (by decide +kernel) ⟨Nat.le_of_ble_eq_true rfl, Nat.le_of_ble_eq_true rfl⟩) ⟨fun a U g mk q => ⟨q.1, q.2.call⟩, fun U hU hW => ⟨rfl, PB.of hU hW hPc hK hDc hNN hSF hS hFc⟩⟩ rfl rfl hl.1 rfl (lv_room (Nat.le_of_ble_eq_true rfl)) dX3_chapterOf_33 ⟨Nat.le_of_ble_eq_true rfl, Nat.le_of_ble_eq_true rfl⟩) hS (fun q _ h => hFc q h) hFc (fun z_ u_ t H locs ht hvm hw hB hz1 hk1 hS => ?_)
            subst z_
            obtain ⟨hP1, hD1⟩ := hB
            rw [ht] at hP1
            have hJ := vb_join (ws' := (cwA cI j00 g0W)) hP hD [0] [] [0] rfl rfl (by decide) (by decide) hk1 hFc hP1 hD1 rfl (by decide) rfl
            clear hP hD hPc hDc hFc hP1 hD1 hk1 hz1 ht hvm hG
            obtain ⟨hP, hD⟩ := hJ
            refine lv_if_eq (tgt := 43) hx hb dX3_chapterOf_36 (by decide) (fun hc => ?_) (fun hc => ?_)
            · have hF := ift hc hF
              refine lv_iconst (v := nI 0) hx hb dX3_chapterOf_43 (by decide) ?_
              exact kJ44 x1 x3 x2 (nI 0) _ _ _ hF hP hD hS (lv_sub hl [0, 1, 3] rfl)
            · have hF := iff_ hc hF
              refine lv_iconst (v := nI 1) hx hb dX3_chapterOf_39 (by decide) ?_
              refine lv_goto (tgt := 44) hx hb dX3_chapterOf_40 (by decide) ?_
              exact kJ44 x1 x3 x2 (nI 1) _ _ _ hF hP hD hS (lv_sub hl [0, 1, 3] rfl)
  refine lv_istore_n (lv' := [(3, .int (nI 0)), (2, .int (nI 0)), (0, .ref j00), (1, .int p1)]) hx hb dX3_chapterOf_3 rfl hl (by decide) rfl (fun ls hl => ?_)
  exact kJ4 N p1 (nI 0) (nI 0) _ _ _ hF hP hD hS (lv_sub hl [2, 3, 1, 0] rfl)
