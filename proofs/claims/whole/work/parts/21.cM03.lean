theorem inw_X3_dies_X3 : ∀ w ∈ u_ws RX3 TX3 15, w ∈ wsX3_dies := fun _ h => List.mem_cons_of_mem _ (List.mem_append_right _ h)
set_option maxHeartbeats 4000000 in
set_option maxRecDepth 100000 in
theorem c_X3_dies (l : Launch) (dC : Nat → ClassId) (dI : Nat → Nat → Nat) (cI : ClassId) (sf : SFP) (sz : Nat) (N : Nat) (b : Nat → Nat) (tW : MS) (p1 : Int32) (r : (Int32 × MS)) (hF : F_X3_dies N tW p1 = some r) : Met l yX3_dies wsX3_dies ({ frames := 3, cells := 0, slots := 0, locals := 64 }) (va_Pc [.ref (b 0), .int p1] (PB (dC, dI) cI (cwM cI b tW) sz sf)) (va_Qi (fun (z : Int32) (_ : Unit) => z = r.1) (fun _ t => QB (dC, dI) (cwM cI b r.2) (va_A (cwM cI b tW) sz) t) (va_A (cwM cI b tW) sz)) 0 0 (va_A (cwM cI b tW) sz) := by
  refine Met.ofW (cc := cX3_dies) (maxL := 2) (ret := (some .int)) (by decide) rfl ?_
  intro p e s m args below meth c s₁ B hml hv
  obtain ⟨rfl, hsz, hP, hK, hD0, hNN, hSF⟩ := hv
  have hx := B.exec
  have hb := B.bytes
  have hr := B.returns
  have hts := atoms_spec (ws := wsX3_dies) B.pre
  have hown : s.vm.findClass RX3 = some m.cls := findClass_of_methodNamed B.named
  have hlocks := B.notSynchronized
  subst hsz
  have hD := hD0.self (sz := s.heap.size)
  generalize hAe : va_A (cwM cI b tW) s.heap.size = A at hD hSF ⊢
  have hA : ∀ q : Nat, s.heap.size ≤ q → A q := fun q h => by rw [← hAe]; exact Or.inr h
  clear hAe hD0
  have hS : va_S A s.heap s.heap [] := va_S.rf
  have hl := lv_entry ([.ref (b 0), .int p1]) (n := 2) (Nat.le_of_ble_eq_true rfl)
  rw [lg_entry_eq]
  generalize (lg_sl ([.ref (b 0), .int p1]) ++ List.replicate (2 - (lg_sl ([.ref (b 0), .int p1])).length) Slot.unset).toArray = ls at hl ⊢
  have hl : lv_has ls 2 [(0, .ref (b 0)), (1, .int p1)] := hl
  rw [F_X3_dies] at hF
  refine lv_aload_n hx hb dX3_dies_0 rfl (lv_at hl 0 rfl) ?_
  refine lv_iload_n hx hb dX3_dies_1 rfl (lv_at hl 1 rfl) ?_
  have hPc := hP.sub (ws' := (cwM cI b tW)) [0, 1, 2, 3, 4, 5, 6, 7, 8, 9] rfl
  have hDc := hD.sub (ws' := (cwM cI b tW)) [0, 1, 2, 3, 4, 5, 6, 7, 8, 9] (by decide) rfl
  have hFc := va_free (wc := (cwM cI b tW)) hD hS hA [0, 1, 2, 3, 4, 5, 6, 7, 8, 9] rfl
  refine bd hF (fun r2 hG hF => ?_)
  refine va_calli (va_runV (As := [.int p1]) (rest := []) ⟨hx, hb, hml, hown, hts⟩ (c_X3_isCitizen l dC dI cI sf s.heap.size N b tW p1 r2 hG) (cwV 1 hts gX3_dies_X3_isCitizen rfl rfl rfl (by decide +kernel) ⟨Nat.le_of_ble_eq_true rfl, Nat.le_of_ble_eq_true rfl⟩) ⟨fun a U g mk q => ⟨q.1, q.2.call⟩, va_recv hK hP (ci := 3) (q0 := 0) rfl rfl, fun U hU hW => ⟨rfl, PB.of hU hW hPc hK hDc hNN hSF hS hFc⟩⟩ rfl rfl hl.1 rfl (lv_room (Nat.le_of_ble_eq_true rfl)) dX3_dies_2 ⟨Nat.le_of_ble_eq_true rfl, Nat.le_of_ble_eq_true rfl⟩) hS (fun q _ h => hFc q h) hFc (fun z_ u_ t H locs ht hvm hw hB hz1 hk1 hS => ?_)
  subst z_
  obtain ⟨hP1, hD1⟩ := hB
  rw [ht] at hP1
  have hJ := vb_join (ws' := (cwM cI b tW)) hP hD [0, 1, 2, 3, 4, 5, 6, 7, 8, 9] [] [0, 1, 2, 3, 4, 5, 6, 7, 8, 9] rfl rfl (by decide) (by decide) hk1 hFc hP1 hD1 rfl (by decide) rfl
  clear hP hD hPc hDc hFc hP1 hD1 hk1 hz1 ht hvm hG
  obtain ⟨hP, hD⟩ := hJ
  refine lv_if_ne (tgt := 14) hx hb dX3_dies_5 (by decide) (fun hc => ?_) (fun hc => ?_)
  · have hF := ift hc hF
    refine lv_aload_n hx hb dX3_dies_14 rfl (lv_at hl 0 rfl) ?_
    refine va_get (D := (dC, dI)) (ci := 3) (v := .ref (b 1)) (C := RX3) (T := TX3) (N := 15) hx hb hts inw_X3_dies_X3 hown hK hP 0 rfl rfl 0 (by decide) (hts (.fieldLink RX3 9 "DeniedOfEachOtherModel" "s" "[I") (List.mem_of_getElem? (i := 1) rfl)) (fun _ h9 => h9) rfl dX3_dies_15 ?_
    refine lv_iload_n hx hb dX3_dies_18 rfl (lv_at hl 1 rfl) ?_
    have hPc := hP.sub (ws' := (cwA cI (b 1) tW.1)) [1] rfl
    have hDc := hD.sub (ws' := (cwA cI (b 1) tW.1)) [1] (by decide) rfl
    have hFc := va_free (wc := (cwA cI (b 1) tW.1)) hD hS hA [1] rfl
    refine bd hF (fun r19 hG hF => ?_)
    refine va_calli (va_runS (As := [.ref (b 1), .int p1]) (rest := []) ⟨hx, hb, hml, hown, hts⟩ (c_X3_isAlive l dC dI cI sf H.size N (b 1) tW.1 p1 r19 hG) (va_cwS 2 hts gX3_dies_X3_isAlive rfl rfl rfl (by decide +kernel) ⟨Nat.le_of_ble_eq_true rfl, Nat.le_of_ble_eq_true rfl⟩) ⟨fun a U g mk q => ⟨q.1, q.2.call⟩, fun U hU hW => ⟨rfl, PB.of hU hW hPc hK hDc hNN hSF hS hFc⟩⟩ rfl rfl hl.1 rfl (lv_room (Nat.le_of_ble_eq_true rfl)) dX3_dies_19 ⟨Nat.le_of_ble_eq_true rfl, Nat.le_of_ble_eq_true rfl⟩) hS (fun q _ h => hFc q h) hFc (fun z_ u_ t H locs ht hvm hw hB hz1 hk1 hS => ?_)
    subst z_
    obtain ⟨hP1, hD1⟩ := hB
    rw [ht] at hP1
    have hJ := vb_join (ws' := (cwM cI b tW)) hP hD [1] [0, 2, 3, 4, 5, 6, 7, 8, 9] [0, 9, 1, 2, 3, 4, 5, 6, 7, 8] rfl rfl (by decide) (by decide) hk1 hFc hP1 hD1 rfl (by decide) rfl
    clear hP hD hPc hDc hFc hP1 hD1 hk1 hz1 ht hvm hG
    obtain ⟨hP, hD⟩ := hJ
    refine lv_if_ne (tgt := 32) hx hb dX3_dies_22 (by decide) (fun hc => ?_) (fun hc => ?_)
    · have hF := ift hc hF
      refine lv_aload_n hx hb dX3_dies_32 rfl (lv_at hl 0 rfl) ?_
      refine va_get (D := (dC, dI)) (ci := 3) (v := .ref (b 1)) (C := RX3) (T := TX3) (N := 15) hx hb hts inw_X3_dies_X3 hown hK hP 0 rfl rfl 0 (by decide) (hts (.fieldLink RX3 9 "DeniedOfEachOtherModel" "s" "[I") (List.mem_of_getElem? (i := 1) rfl)) (fun _ h9 => h9) rfl dX3_dies_33 ?_
      refine lv_iload_n hx hb dX3_dies_36 rfl (lv_at hl 1 rfl) ?_
      refine lv_iconst (v := nI 3) hx hb dX3_dies_37 (by decide) ?_
      have hPc := hP.sub (ws' := ([] : va_W)) [] rfl
      have hDc := hD.sub (ws' := ([] : va_W)) [] (by decide) rfl
      have hFc := va_free (wc := ([] : va_W)) hD hS hA [] rfl
      refine bd hF (fun r38 hG hF => ?_)
      refine va_calli (va_runS (As := [.int p1, .int (nI 3)]) (rest := [.ref (b 1)]) ⟨hx, hb, hml, hown, hts⟩ (c_X3_of l dC dI cI sf H.size N  p1 (nI 3) r38 hG) (va_cwS 2 hts gX3_dies_X3_of rfl rfl rfl (by decide +kernel) ⟨Nat.le_of_ble_eq_true rfl, Nat.le_of_ble_eq_true rfl⟩) ⟨fun a U g mk q => ⟨q.1, q.2.call⟩, fun U hU hW => ⟨rfl, PB.of hU hW hPc hK hDc hNN hSF hS hFc⟩⟩ rfl rfl hl.1 rfl (lv_room (Nat.le_of_ble_eq_true rfl)) dX3_dies_38 ⟨Nat.le_of_ble_eq_true rfl, Nat.le_of_ble_eq_true rfl⟩) hS (fun q _ h => hFc q h) hFc (fun z_ u_ t H locs ht hvm hw hB hz1 hk1 hS => ?_)
      subst z_
      obtain ⟨hP1, hD1⟩ := hB
      rw [ht] at hP1
      have hJ := vb_join (ws' := (cwM cI b tW)) hP hD [] [0, 1, 2, 3, 4, 5, 6, 7, 8, 9] [0, 1, 2, 3, 4, 5, 6, 7, 8, 9] rfl rfl (by decide) (by decide) hk1 hFc hP1 hD1 rfl (by decide) rfl
      clear hP hD hPc hDc hFc hP1 hD1 hk1 hz1 ht hvm hG
      obtain ⟨hP, hD⟩ := hJ
      refine lv_iconst (v := nI 1) hx hb dX3_dies_41 (by decide) ?_
      refine cki hF (fun hi hF => ?_)
      refine va_iast (D := (dC, dI)) hx hb hK hP hD hS 1 0 rfl rfl hi dX3_dies_42 (fun H locs hP hD hS => ?_)
      have hP : va_P (dC, dI) vwCl (cwM cI b ((upd tW.1 r38.toNatClampNeg (nI 1)), tW.2.1, tW.2.2.1, tW.2.2.2.1, tW.2.2.2.2.1, tW.2.2.2.2.2.1, tW.2.2.2.2.2.2.1, tW.2.2.2.2.2.2.2.1, tW.2.2.2.2.2.2.2.2.1, tW.2.2.2.2.2.2.2.2.2.1, tW.2.2.2.2.2.2.2.2.2.2.1, tW.2.2.2.2.2.2.2.2.2.2.2.1, tW.2.2.2.2.2.2.2.2.2.2.2.2.1, tW.2.2.2.2.2.2.2.2.2.2.2.2.2.1, tW.2.2.2.2.2.2.2.2.2.2.2.2.2.2)) H := hP
      have hD : va_D A (cwM cI b ((upd tW.1 r38.toNatClampNeg (nI 1)), tW.2.1, tW.2.2.1, tW.2.2.2.1, tW.2.2.2.2.1, tW.2.2.2.2.2.1, tW.2.2.2.2.2.2.1, tW.2.2.2.2.2.2.2.1, tW.2.2.2.2.2.2.2.2.1, tW.2.2.2.2.2.2.2.2.2.1, tW.2.2.2.2.2.2.2.2.2.2.1, tW.2.2.2.2.2.2.2.2.2.2.2.1, tW.2.2.2.2.2.2.2.2.2.2.2.2.1, tW.2.2.2.2.2.2.2.2.2.2.2.2.2.1, tW.2.2.2.2.2.2.2.2.2.2.2.2.2.2)) := hD
      refine lv_aload_n hx hb dX3_dies_43 rfl (lv_at hl 0 rfl) ?_
      refine va_get (D := (dC, dI)) (ci := 3) (v := .ref (b 1)) (C := RX3) (T := TX3) (N := 15) hx hb hts inw_X3_dies_X3 hown hK hP 0 rfl rfl 0 (by decide) (hts (.fieldLink RX3 9 "DeniedOfEachOtherModel" "s" "[I") (List.mem_of_getElem? (i := 1) rfl)) (fun _ h9 => h9) rfl dX3_dies_44 ?_
      have hPc := hP.sub (ws' := (cwA cI (b 1) (upd tW.1 r38.toNatClampNeg (nI 1)))) [1] rfl
      have hDc := hD.sub (ws' := (cwA cI (b 1) (upd tW.1 r38.toNatClampNeg (nI 1)))) [1] (by decide) rfl
      have hFc := va_free (wc := (cwA cI (b 1) (upd tW.1 r38.toNatClampNeg (nI 1)))) hD hS hA [1] rfl
      refine bd hF (fun r47 hG hF => ?_)
      refine va_calli (va_runS (As := [.ref (b 1)]) (rest := []) ⟨hx, hb, hml, hown, hts⟩ (c_X3_livingIn l dC dI cI sf H.size N (b 1) (upd tW.1 r38.toNatClampNeg (nI 1)) r47 hG) (va_cwS 1 hts gX3_dies_X3_livingIn rfl rfl rfl (by decide +kernel) ⟨Nat.le_of_ble_eq_true rfl, Nat.le_of_ble_eq_true rfl⟩) ⟨fun a U g mk q => ⟨q.1, q.2.call⟩, fun U hU hW => ⟨rfl, PB.of hU hW hPc hK hDc hNN hSF hS hFc⟩⟩ rfl rfl hl.1 rfl (lv_room (Nat.le_of_ble_eq_true rfl)) dX3_dies_47 ⟨Nat.le_of_ble_eq_true rfl, Nat.le_of_ble_eq_true rfl⟩) hS (fun q _ h => hFc q h) hFc (fun z_ u_ t H locs ht hvm hw hB hz1 hk1 hS => ?_)
      subst z_
      obtain ⟨hP1, hD1⟩ := hB
      rw [ht] at hP1
      have hJ := vb_join (ws' := (cwM cI b ((upd tW.1 r38.toNatClampNeg (nI 1)), tW.2.1, tW.2.2.1, tW.2.2.2.1, tW.2.2.2.2.1, tW.2.2.2.2.2.1, tW.2.2.2.2.2.2.1, tW.2.2.2.2.2.2.2.1, tW.2.2.2.2.2.2.2.2.1, tW.2.2.2.2.2.2.2.2.2.1, tW.2.2.2.2.2.2.2.2.2.2.1, tW.2.2.2.2.2.2.2.2.2.2.2.1, tW.2.2.2.2.2.2.2.2.2.2.2.2.1, tW.2.2.2.2.2.2.2.2.2.2.2.2.2.1, tW.2.2.2.2.2.2.2.2.2.2.2.2.2.2))) hP hD [1] [0, 2, 3, 4, 5, 6, 7, 8, 9] [0, 9, 1, 2, 3, 4, 5, 6, 7, 8] rfl rfl (by decide) (by decide) hk1 hFc hP1 hD1 rfl (by decide) rfl
      clear hP hD hPc hDc hFc hP1 hD1 hk1 hz1 ht hvm hG
      obtain ⟨hP, hD⟩ := hJ
      have hPc := hP.sub (ws' := ([] : va_W)) [] rfl
      have hDc := hD.sub (ws' := ([] : va_W)) [] (by decide) rfl
      have hFc := va_free (wc := ([] : va_W)) hD hS hA [] rfl
      refine bd hF (fun r50 hG hF => ?_)
      refine va_calli (va_runS (As := [.int r47]) (rest := []) ⟨hx, hb, hml, hown, hts⟩ (c_X3_bits l dC dI cI sf H.size N  r47 r50 hG) (va_cwS 1 hts gX3_dies_X3_bits rfl rfl rfl (by decide +kernel) ⟨Nat.le_of_ble_eq_true rfl, Nat.le_of_ble_eq_true rfl⟩) ⟨fun a U g mk q => ⟨q.1, q.2.call⟩, fun U hU hW => ⟨rfl, PB.of hU hW hPc hK hDc hNN hSF hS hFc⟩⟩ rfl rfl hl.1 rfl (lv_room (Nat.le_of_ble_eq_true rfl)) dX3_dies_50 ⟨Nat.le_of_ble_eq_true rfl, Nat.le_of_ble_eq_true rfl⟩) hS (fun q _ h => hFc q h) hFc (fun z_ u_ t H locs ht hvm hw hB hz1 hk1 hS => ?_)
      subst z_
      obtain ⟨hP1, hD1⟩ := hB
      rw [ht] at hP1
      have hJ := vb_join (ws' := (cwM cI b ((upd tW.1 r38.toNatClampNeg (nI 1)), tW.2.1, tW.2.2.1, tW.2.2.2.1, tW.2.2.2.2.1, tW.2.2.2.2.2.1, tW.2.2.2.2.2.2.1, tW.2.2.2.2.2.2.2.1, tW.2.2.2.2.2.2.2.2.1, tW.2.2.2.2.2.2.2.2.2.1, tW.2.2.2.2.2.2.2.2.2.2.1, tW.2.2.2.2.2.2.2.2.2.2.2.1, tW.2.2.2.2.2.2.2.2.2.2.2.2.1, tW.2.2.2.2.2.2.2.2.2.2.2.2.2.1, tW.2.2.2.2.2.2.2.2.2.2.2.2.2.2))) hP hD [] [0, 1, 2, 3, 4, 5, 6, 7, 8, 9] [0, 1, 2, 3, 4, 5, 6, 7, 8, 9] rfl rfl (by decide) (by decide) hk1 hFc hP1 hD1 rfl (by decide) rfl
      clear hP hD hPc hDc hFc hP1 hD1 hk1 hz1 ht hvm hG
      obtain ⟨hP, hD⟩ := hJ
      obtain rfl := Option.some.inj hF
      exact W.iret (v := r50) hx hb hr (fun t ht hW => ⟨⟨r50, (), rfl, rfl, QB.of ht hP hD⟩, hS.F ht⟩) hS.2.2 dX3_dies_53
    · have hF := iff_ (fun h => h hc) hF
      refine lv_aload_n hx hb dX3_dies_25 rfl (lv_at hl 0 rfl) ?_
      refine lv_bipush (v := (-3)) hx hb dX3_dies_26 (by decide) ?_
      have hPc := hP.sub (ws' := (cwM cI b tW)) [0, 1, 2, 3, 4, 5, 6, 7, 8, 9] rfl
      have hDc := hD.sub (ws' := (cwM cI b tW)) [0, 1, 2, 3, 4, 5, 6, 7, 8, 9] (by decide) rfl
      have hFc := va_free (wc := (cwM cI b tW)) hD hS hA [0, 1, 2, 3, 4, 5, 6, 7, 8, 9] rfl
      refine bd hF (fun r28 hG hF => ?_)
      refine va_calli (va_runV (As := [.int (-3)]) (rest := []) ⟨hx, hb, hml, hown, hts⟩ (c_X3_no l dC dI cI sf H.size N b tW (-3) r28 hG) (cwV 1 hts gX3_dies_X3_no rfl rfl rfl (by decide +kernel) ⟨Nat.le_of_ble_eq_true rfl, Nat.le_of_ble_eq_true rfl⟩) ⟨fun a U g mk q => ⟨q.1, q.2.call⟩, va_recv hK hP (ci := 3) (q0 := 0) rfl rfl, fun U hU hW => ⟨rfl, PB.of hU hW hPc hK hDc hNN hSF hS hFc⟩⟩ rfl rfl hl.1 rfl (lv_room (Nat.le_of_ble_eq_true rfl)) dX3_dies_28 ⟨Nat.le_of_ble_eq_true rfl, Nat.le_of_ble_eq_true rfl⟩) hS (fun q _ h => hFc q h) hFc (fun z_ u_ t H locs ht hvm hw hB hz1 hk1 hS => ?_)
      subst z_
      obtain ⟨hP1, hD1⟩ := hB
      rw [ht] at hP1
      have hJ := vb_join (ws' := (cwM cI b r28.2)) hP hD [0, 1, 2, 3, 4, 5, 6, 7, 8, 9] [] [0, 1, 2, 3, 4, 5, 6, 7, 8, 9] rfl rfl (by decide) (by decide) hk1 hFc hP1 hD1 rfl (by decide) rfl
      clear hP hD hPc hDc hFc hP1 hD1 hk1 hz1 ht hvm hG
      obtain ⟨hP, hD⟩ := hJ
      obtain rfl := Option.some.inj hF
      exact W.iret (v := r28.1) hx hb hr (fun t ht hW => ⟨⟨r28.1, (), rfl, rfl, QB.of ht hP hD⟩, hS.F ht⟩) hS.2.2 dX3_dies_31
  · have hF := iff_ (fun h => h hc) hF
    refine lv_aload_n hx hb dX3_dies_8 rfl (lv_at hl 0 rfl) ?_
    refine lv_iconst (v := (-1)) hx hb dX3_dies_9 (by decide) ?_
    have hPc := hP.sub (ws' := (cwM cI b tW)) [0, 1, 2, 3, 4, 5, 6, 7, 8, 9] rfl
    have hDc := hD.sub (ws' := (cwM cI b tW)) [0, 1, 2, 3, 4, 5, 6, 7, 8, 9] (by decide) rfl
    have hFc := va_free (wc := (cwM cI b tW)) hD hS hA [0, 1, 2, 3, 4, 5, 6, 7, 8, 9] rfl
    refine bd hF (fun r10 hG hF => ?_)
    refine va_calli (va_runV (As := [.int (-1)]) (rest := []) ⟨hx, hb, hml, hown, hts⟩ (c_X3_no l dC dI cI sf H.size N b tW (-1) r10 hG) (cwV 1 hts gX3_dies_X3_no rfl rfl rfl (by decide +kernel) ⟨Nat.le_of_ble_eq_true rfl, Nat.le_of_ble_eq_true rfl⟩) ⟨fun a U g mk q => ⟨q.1, q.2.call⟩, va_recv hK hP (ci := 3) (q0 := 0) rfl rfl, fun U hU hW => ⟨rfl, PB.of hU hW hPc hK hDc hNN hSF hS hFc⟩⟩ rfl rfl hl.1 rfl (lv_room (Nat.le_of_ble_eq_true rfl)) dX3_dies_10 ⟨Nat.le_of_ble_eq_true rfl, Nat.le_of_ble_eq_true rfl⟩) hS (fun q _ h => hFc q h) hFc (fun z_ u_ t H locs ht hvm hw hB hz1 hk1 hS => ?_)
    subst z_
    obtain ⟨hP1, hD1⟩ := hB
    rw [ht] at hP1
    have hJ := vb_join (ws' := (cwM cI b r10.2)) hP hD [0, 1, 2, 3, 4, 5, 6, 7, 8, 9] [] [0, 1, 2, 3, 4, 5, 6, 7, 8, 9] rfl rfl (by decide) (by decide) hk1 hFc hP1 hD1 rfl (by decide) rfl
    clear hP hD hPc hDc hFc hP1 hD1 hk1 hz1 ht hvm hG
    obtain ⟨hP, hD⟩ := hJ
    obtain rfl := Option.some.inj hF
    exact W.iret (v := r10.1) hx hb hr (fun t ht hW => ⟨⟨r10.1, (), rfl, rfl, QB.of ht hP hD⟩, hS.F ht⟩) hS.2.2 dX3_dies_13
set_option maxHeartbeats 4000000 in
set_option maxRecDepth 100000 in
theorem c_X3_has (l : Launch) (dC : Nat → ClassId) (dI : Nat → Nat → Nat) (cI : ClassId) (sf : SFP) (sz : Nat) (N : Nat) (p0 : Int32) (p1 : Int32) (r : Int32) (hF : F_X3_has N p0 p1 = some r) : Met l yX3_has wsX3_has ({ frames := 0, cells := 0, slots := 0, locals := 0 }) (va_Pc [.int p0, .int p1] (PB (dC, dI) cI ([] : va_W) sz sf)) (va_Qi (fun (z : Int32) (_ : Unit) => z = r) (fun _ t => QB (dC, dI) ([] : va_W) (va_A ([] : va_W) sz) t) (va_A ([] : va_W) sz)) 0 0 (va_A ([] : va_W) sz) := by
  refine Met.ofW (cc := cX3_has) (maxL := 2) (ret := (some .boolean)) (by decide) rfl ?_
  intro p e s m args below meth c s₁ B hml hv
  obtain ⟨rfl, hsz, hP, hK, hD0, hNN, hSF⟩ := hv
  have hx := B.exec
  have hb := B.bytes
  have hr := B.returns
  have hts := atoms_spec (ws := wsX3_has) B.pre
  have hown : s.vm.findClass RX3 = some m.cls := findClass_of_methodNamed B.named
  have hlocks := B.notSynchronized
  subst hsz
  have hD := hD0.self (sz := s.heap.size)
  generalize hAe : va_A ([] : va_W) s.heap.size = A at hD hSF ⊢
  have hA : ∀ q : Nat, s.heap.size ≤ q → A q := fun q h => by rw [← hAe]; exact Or.inr h
  clear hAe hD0
  have hS : va_S A s.heap s.heap [] := va_S.rf
  have hl := lv_entry ([.int p0, .int p1]) (n := 2) (Nat.le_of_ble_eq_true rfl)
  rw [lg_entry_eq]
  generalize (lg_sl ([.int p0, .int p1]) ++ List.replicate (2 - (lg_sl ([.int p0, .int p1])).length) Slot.unset).toArray = ls at hl ⊢
  have hl : lv_has ls 2 [(0, .int p0), (1, .int p1)] := hl
  rw [F_X3_has] at hF
  refine lv_iload_n hx hb dX3_has_0 rfl (lv_at hl 0 rfl) ?_
  refine lv_iload_n hx hb dX3_has_1 rfl (lv_at hl 1 rfl) ?_
  refine lv_ishr hx hb dX3_has_2 ?_
  refine lv_iconst (v := nI 1) hx hb dX3_has_3 (by decide) ?_
  refine lv_iand hx hb dX3_has_4 ?_
  refine lv_iconst (v := nI 1) hx hb dX3_has_5 (by decide) ?_
  refine lv_icmp_ne (tgt := 13) hx hb dX3_has_6 (by decide) (fun hc => ?_) (fun hc => ?_)
  · have hF := ift hc hF
    refine lv_iconst (v := nI 0) hx hb dX3_has_13 (by decide) ?_
    obtain rfl := Option.some.inj hF
    exact W.zret (v := (nI 0)) (ty := .boolean) hx hb hr (by decide +kernel) (fun t ht hW => ⟨⟨(nI 0), (), rfl, rfl, QB.of ht hP hD⟩, hS.F ht⟩) hS.2.2 dX3_has_14
  · have hF := iff_ (fun h => h hc) hF
    refine lv_iconst (v := nI 1) hx hb dX3_has_9 (by decide) ?_
    refine lv_goto (tgt := 14) hx hb dX3_has_10 (by decide) ?_
    obtain rfl := Option.some.inj hF
    exact W.zret (v := (nI 1)) (ty := .boolean) hx hb hr (by decide +kernel) (fun t ht hW => ⟨⟨(nI 1), (), rfl, rfl, QB.of ht hP hD⟩, hS.F ht⟩) hS.2.2 dX3_has_14
theorem inw_X3_differing_X3 : ∀ w ∈ u_ws RX3 TX3 15, w ∈ wsX3_differing := fun _ h => List.mem_cons_of_mem _ (List.mem_append_right _ h)
set_option maxHeartbeats 4000000 in
set_option maxRecDepth 100000 in
theorem c_X3_differing (l : Launch) (dC : Nat → ClassId) (dI : Nat → Nat → Nat) (cI : ClassId) (sf : SFP) (sz : Nat) (N : Nat) (b : Nat → Nat) (tW : MS) (p1 : Int32) (p2 : Int32) (r : Int32) (hF : F_X3_differing N tW p1 p2 = some r) : Met l yX3_differing wsX3_differing ({ frames := 1, cells := 0, slots := 0, locals := 21 }) (va_Pc [.ref (b 0), .int p1, .int p2] (PB (dC, dI) cI (cwM cI b tW) sz sf)) (va_Qi (fun (z : Int32) (_ : Unit) => z = r) (fun _ t => QB (dC, dI) (cwM cI b tW) (va_A (cwM cI b tW) sz) t) (va_A (cwM cI b tW) sz)) 0 0 (va_A (cwM cI b tW) sz) := by
  refine Met.ofW (cc := cX3_differing) (maxL := 5) (ret := (some .int)) (by decide) rfl ?_
  intro p e s m args below meth c s₁ B hml hv
  obtain ⟨rfl, hsz, hP, hK, hD0, hNN, hSF⟩ := hv
  have hx := B.exec
  have hb := B.bytes
  have hr := B.returns
  have hts := atoms_spec (ws := wsX3_differing) B.pre
  have hown : s.vm.findClass RX3 = some m.cls := findClass_of_methodNamed B.named
  have hlocks := B.notSynchronized
  subst hsz
  have hD := hD0.self (sz := s.heap.size)
  generalize hAe : va_A (cwM cI b tW) s.heap.size = A at hD hSF ⊢
  have hA : ∀ q : Nat, s.heap.size ≤ q → A q := fun q h => by rw [← hAe]; exact Or.inr h
  clear hAe hD0
  have hS : va_S A s.heap s.heap [] := va_S.rf
  have hl := lv_entry ([.ref (b 0), .int p1, .int p2]) (n := 5) (Nat.le_of_ble_eq_true rfl)
  rw [lg_entry_eq]
  generalize (lg_sl ([.ref (b 0), .int p1, .int p2]) ++ List.replicate (5 - (lg_sl ([.ref (b 0), .int p1, .int p2])).length) Slot.unset).toArray = ls at hl ⊢
  have hl : lv_has ls 5 [(0, .ref (b 0)), (1, .int p1), (2, .int p2)] := hl
  rw [F_X3_differing] at hF
  refine lv_iconst (v := nI 0) hx hb dX3_differing_0 (by decide) ?_
  refine lv_istore_n (lv' := [(3, .int (nI 0)), (0, .ref (b 0)), (1, .int p1), (2, .int p2)]) hx hb dX3_differing_1 rfl hl (by decide) rfl (fun ls hl => ?_)
  refine lv_iconst (v := nI 0) hx hb dX3_differing_2 (by decide) ?_
  refine vW_have (fun R av Q => ∀ (n5 : Nat) (x1 : Int32) (x2 : Int32) (x3 : Int32) (x4 : Int32) (H : Heap) (locs : List Loc) (ls : Array Slot), F_X3_differing_5 N tW n5 x1 x2 x3 x4 = some r → va_P (dC, dI) vwCl (cwM cI b tW) H → va_D A (cwM cI b tW) → va_S A s.heap H locs → lv_has ls 5 [(0, .ref (b 0)), (1, .int x1), (2, .int x2), (3, .int x3), (4, .int x4)] → W p l e R s m av below meth c H locs 0 0 Q (F0 m 5 ls [])) ?_ (fun kJ5 => ?_)
  · intro n5
    induction n5 with
    | zero => intro x1 x2 x3 x4 H locs ls hF; exact nn hF
    | succ n5 ih5 =>
      intro x1 x2 x3 x4 H locs ls hF hP hD hS hl
      rw [F_X3_differing_5] at hF
      refine lv_iload hx hb dX3_differing_5 (lv_at hl 4 rfl) ?_
      refine lv_bipush (v := nI 8) hx hb dX3_differing_7 (by decide) ?_
      refine lv_icmp_ge (tgt := 89) hx hb dX3_differing_9 (by decide) (fun hc => ?_) (fun hc => ?_)
      · have hF := ift hc hF
        refine lv_iload_n hx hb dX3_differing_89 rfl (lv_at hl 3 rfl) ?_
        obtain rfl := Option.some.inj hF
        exact W.iret (v := x3) hx hb hr (fun t ht hW => ⟨⟨x3, (), rfl, rfl, QB.of ht hP hD⟩, hS.F ht⟩) hS.2.2 dX3_differing_90
      · have hF := iff_ hc hF
        refine lv_iload_n hx hb dX3_differing_12 rfl (lv_at hl 3 rfl) ?_
        refine lv_aload_n hx hb dX3_differing_13 rfl (lv_at hl 0 rfl) ?_
        refine va_get (D := (dC, dI)) (ci := 3) (v := .ref (b 1)) (C := RX3) (T := TX3) (N := 15) hx hb hts inw_X3_differing_X3 hown hK hP 0 rfl rfl 0 (by decide) (hts (.fieldLink RX3 9 "DeniedOfEachOtherModel" "s" "[I") (List.mem_of_getElem? (i := 1) rfl)) (fun _ h9 => h9) rfl dX3_differing_14 ?_
        refine lv_iload_n hx hb dX3_differing_17 rfl (lv_at hl 1 rfl) ?_
        refine lv_iconst (v := nI 4) hx hb dX3_differing_18 (by decide) ?_
        refine lv_iload hx hb dX3_differing_19 (lv_at hl 4 rfl) ?_
        refine lv_iadd hx hb dX3_differing_21 ?_
        have hPc := hP.sub (ws' := ([] : va_W)) [] rfl
        have hDc := hD.sub (ws' := ([] : va_W)) [] (by decide) rfl
        have hFc := va_free (wc := ([] : va_W)) hD hS hA [] rfl
        refine bd hF (fun r22 hG hF => ?_)
        refine va_calli (va_runS (As := [.int x1, .int ((nI 4) + x4)]) (rest := [.ref (b 1), .int x3]) ⟨hx, hb, hml, hown, hts⟩ (c_X3_of l dC dI cI sf H.size N  x1 ((nI 4) + x4) r22 hG) (va_cwS 2 hts gX3_differing_X3_of rfl rfl rfl (by decide +kernel) ⟨Nat.le_of_ble_eq_true rfl, Nat.le_of_ble_eq_true rfl⟩) ⟨fun a U g mk q => ⟨q.1, q.2.call⟩, fun U hU hW => ⟨rfl, PB.of hU hW hPc hK hDc hNN hSF hS hFc⟩⟩ rfl rfl hl.1 rfl (lv_room (Nat.le_of_ble_eq_true rfl)) dX3_differing_22 ⟨Nat.le_of_ble_eq_true rfl, Nat.le_of_ble_eq_true rfl⟩) hS (fun q _ h => hFc q h) hFc (fun z_ u_ t H locs ht hvm hw hB hz1 hk1 hS => ?_)
        subst z_
        obtain ⟨hP1, hD1⟩ := hB
        rw [ht] at hP1
        have hJ := vb_join (ws' := (cwM cI b tW)) hP hD [] [0, 1, 2, 3, 4, 5, 6, 7, 8, 9] [0, 1, 2, 3, 4, 5, 6, 7, 8, 9] rfl rfl (by decide) (by decide) hk1 hFc hP1 hD1 rfl (by decide) rfl
        clear hP hD hPc hDc hFc hP1 hD1 hk1 hz1 ht hvm hG
        obtain ⟨hP, hD⟩ := hJ
        refine cki hF (fun hi hF => ?_)
        refine va_iald (D := (dC, dI)) hx hb hK hP 1 0 rfl rfl hi dX3_differing_25 ?_
        refine lv_aload_n hx hb dX3_differing_26 rfl (lv_at hl 0 rfl) ?_
        refine va_get (D := (dC, dI)) (ci := 3) (v := .ref (b 1)) (C := RX3) (T := TX3) (N := 15) hx hb hts inw_X3_differing_X3 hown hK hP 0 rfl rfl 0 (by decide) (hts (.fieldLink RX3 9 "DeniedOfEachOtherModel" "s" "[I") (List.mem_of_getElem? (i := 1) rfl)) (fun _ h9 => h9) rfl dX3_differing_27 ?_
        refine lv_iload_n hx hb dX3_differing_30 rfl (lv_at hl 2 rfl) ?_
        refine lv_iconst (v := nI 4) hx hb dX3_differing_31 (by decide) ?_
        refine lv_iload hx hb dX3_differing_32 (lv_at hl 4 rfl) ?_
        refine lv_iadd hx hb dX3_differing_34 ?_
        have hPc := hP.sub (ws' := ([] : va_W)) [] rfl
        have hDc := hD.sub (ws' := ([] : va_W)) [] (by decide) rfl
        have hFc := va_free (wc := ([] : va_W)) hD hS hA [] rfl
        refine bd hF (fun r35 hG hF => ?_)
        refine va_calli (va_runS (As := [.int x2, .int ((nI 4) + x4)]) (rest := [.ref (b 1), .int (tW.1 r22.toNatClampNeg), .int x3]) ⟨hx, hb, hml, hown, hts⟩ (c_X3_of l dC dI cI sf H.size N  x2 ((nI 4) + x4) r35 hG) (va_cwS 2 hts gX3_differing_X3_of rfl rfl rfl (by decide +kernel) ⟨Nat.le_of_ble_eq_true rfl, Nat.le_of_ble_eq_true rfl⟩) ⟨fun a U g mk q => ⟨q.1, q.2.call⟩, fun U hU hW => ⟨rfl, PB.of hU hW hPc hK hDc hNN hSF hS hFc⟩⟩ rfl rfl hl.1 rfl (lv_room (Nat.le_of_ble_eq_true rfl)) dX3_differing_35 ⟨Nat.le_of_ble_eq_true rfl, Nat.le_of_ble_eq_true rfl⟩) hS (fun q _ h => hFc q h) hFc (fun z_ u_ t H locs ht hvm hw hB hz1 hk1 hS => ?_)
        subst z_
        obtain ⟨hP1, hD1⟩ := hB
        rw [ht] at hP1
        have hJ := vb_join (ws' := (cwM cI b tW)) hP hD [] [0, 1, 2, 3, 4, 5, 6, 7, 8, 9] [0, 1, 2, 3, 4, 5, 6, 7, 8, 9] rfl rfl (by decide) (by decide) hk1 hFc hP1 hD1 rfl (by decide) rfl
        clear hP hD hPc hDc hFc hP1 hD1 hk1 hz1 ht hvm hG
        obtain ⟨hP, hD⟩ := hJ
        refine cki hF (fun hi hF => ?_)
        refine va_iald (D := (dC, dI)) hx hb hK hP 1 0 rfl rfl hi dX3_differing_38 ?_
        refine lv_iadd hx hb dX3_differing_39 ?_
        refine lv_iconst (v := nI 3) hx hb dX3_differing_40 (by decide) ?_
        refine vW_have (fun R av Q => ∀ (x1 : Int32) (x2 : Int32) (x4 : Int32) (z0 : Int32) (z1 : Int32) (H : Heap) (locs : List Loc) (ls : Array Slot), F_X3_differing_81 N tW (fun cx1 cx2 cx3 cx4 => F_X3_differing_5 N tW n5 cx1 cx2 cx3 cx4) x1 x2 x4 z0 z1 = some r → va_P (dC, dI) vwCl (cwM cI b tW) H → va_D A (cwM cI b tW) → va_S A s.heap H locs → lv_has ls 5 [(0, .ref (b 0)), (1, .int x1), (2, .int x2), (4, .int x4)] → W p l e R s m av below meth c H locs 0 0 Q (F0 m 81 ls [.int z1, .int z0])) ?_ (fun kJ81 => ?_)
        · 
          intro x1 x2 x4 z0 z1 H locs ls hF hP hD hS hl
          rw [F_X3_differing_81] at hF
          refine lv_iadd hx hb dX3_differing_81 ?_
          refine lv_istore_n (lv' := [(3, .int (z0 + z1)), (0, .ref (b 0)), (1, .int x1), (2, .int x2), (4, .int x4)]) hx hb dX3_differing_82 rfl hl (by decide) rfl (fun ls hl => ?_)
          refine lv_iinc (v := x4 + (nI 1)) (lv' := [(4, .int (x4 + (nI 1))), (3, .int (z0 + z1)), (0, .ref (b 0)), (1, .int x1), (2, .int x2)]) hx hb dX3_differing_83 hl (k := 4) rfl (by rfl) (by decide) rfl (fun ls hl => ?_)
          refine lv_goto (tgt := 5) hx hb dX3_differing_86 (by decide) ?_
          exact ih5 x1 x2 (z0 + z1) (x4 + (nI 1)) _ _ _ hF hP hD hS (lv_sub hl [2, 3, 4, 1, 0] rfl)
        refine lv_icmp_ne (tgt := 80) hx hb dX3_differing_41 (by decide) (fun hc => ?_) (fun hc => ?_)
        · have hF := ift hc hF
          refine lv_iconst (v := nI 0) hx hb dX3_differing_80 (by decide) ?_
          exact kJ81 x1 x2 x4 x3 (nI 0) _ _ _ hF hP hD hS (lv_sub hl [0, 1, 2, 4] rfl)
        · have hF := iff_ (fun h => h hc) hF
          refine lv_aload_n hx hb dX3_differing_44 rfl (lv_at hl 0 rfl) ?_
          refine va_get (D := (dC, dI)) (ci := 3) (v := .ref (b 1)) (C := RX3) (T := TX3) (N := 15) hx hb hts inw_X3_differing_X3 hown hK hP 0 rfl rfl 0 (by decide) (hts (.fieldLink RX3 9 "DeniedOfEachOtherModel" "s" "[I") (List.mem_of_getElem? (i := 1) rfl)) (fun _ h9 => h9) rfl dX3_differing_45 ?_
          refine lv_iload_n hx hb dX3_differing_48 rfl (lv_at hl 1 rfl) ?_
          refine lv_iconst (v := nI 4) hx hb dX3_differing_49 (by decide) ?_
          refine lv_iload hx hb dX3_differing_50 (lv_at hl 4 rfl) ?_
          refine lv_iadd hx hb dX3_differing_52 ?_
          have hPc := hP.sub (ws' := ([] : va_W)) [] rfl
          have hDc := hD.sub (ws' := ([] : va_W)) [] (by decide) rfl
          have hFc := va_free (wc := ([] : va_W)) hD hS hA [] rfl
          refine bd hF (fun r53 hG hF => ?_)
          refine va_calli (va_runS (As := [.int x1, .int ((nI 4) + x4)]) (rest := [.ref (b 1), .int x3]) ⟨hx, hb, hml, hown, hts⟩ (c_X3_of l dC dI cI sf H.size N  x1 ((nI 4) + x4) r53 hG) (va_cwS 2 hts gX3_differing_X3_of rfl rfl rfl (by decide +kernel) ⟨Nat.le_of_ble_eq_true rfl, Nat.le_of_ble_eq_true rfl⟩) ⟨fun a U g mk q => ⟨q.1, q.2.call⟩, fun U hU hW => ⟨rfl, PB.of hU hW hPc hK hDc hNN hSF hS hFc⟩⟩ rfl rfl hl.1 rfl (lv_room (Nat.le_of_ble_eq_true rfl)) dX3_differing_53 ⟨Nat.le_of_ble_eq_true rfl, Nat.le_of_ble_eq_true rfl⟩) hS (fun q _ h => hFc q h) hFc (fun z_ u_ t H locs ht hvm hw hB hz1 hk1 hS => ?_)
          subst z_
          obtain ⟨hP1, hD1⟩ := hB
          rw [ht] at hP1
          have hJ := vb_join (ws' := (cwM cI b tW)) hP hD [] [0, 1, 2, 3, 4, 5, 6, 7, 8, 9] [0, 1, 2, 3, 4, 5, 6, 7, 8, 9] rfl rfl (by decide) (by decide) hk1 hFc hP1 hD1 rfl (by decide) rfl
          clear hP hD hPc hDc hFc hP1 hD1 hk1 hz1 ht hvm hG
          obtain ⟨hP, hD⟩ := hJ
          refine cki hF (fun hi hF => ?_)
          refine va_iald (D := (dC, dI)) hx hb hK hP 1 0 rfl rfl hi dX3_differing_56 ?_
          refine lv_if_eq (tgt := 80) hx hb dX3_differing_57 (by decide) (fun hc => ?_) (fun hc => ?_)
          · have hF := ift hc hF
            refine lv_iconst (v := nI 0) hx hb dX3_differing_80 (by decide) ?_
            exact kJ81 x1 x2 x4 x3 (nI 0) _ _ _ hF hP hD hS (lv_sub hl [0, 1, 2, 4] rfl)
          · have hF := iff_ hc hF
            refine lv_aload_n hx hb dX3_differing_60 rfl (lv_at hl 0 rfl) ?_
            refine va_get (D := (dC, dI)) (ci := 3) (v := .ref (b 1)) (C := RX3) (T := TX3) (N := 15) hx hb hts inw_X3_differing_X3 hown hK hP 0 rfl rfl 0 (by decide) (hts (.fieldLink RX3 9 "DeniedOfEachOtherModel" "s" "[I") (List.mem_of_getElem? (i := 1) rfl)) (fun _ h9 => h9) rfl dX3_differing_61 ?_
            refine lv_iload_n hx hb dX3_differing_64 rfl (lv_at hl 2 rfl) ?_
            refine lv_iconst (v := nI 4) hx hb dX3_differing_65 (by decide) ?_
            refine lv_iload hx hb dX3_differing_66 (lv_at hl 4 rfl) ?_
            refine lv_iadd hx hb dX3_differing_68 ?_
            have hPc := hP.sub (ws' := ([] : va_W)) [] rfl
            have hDc := hD.sub (ws' := ([] : va_W)) [] (by decide) rfl
            have hFc := va_free (wc := ([] : va_W)) hD hS hA [] rfl
            refine bd hF (fun r69 hG hF => ?_)
            refine va_calli (va_runS (As := [.int x2, .int ((nI 4) + x4)]) (rest := [.ref (b 1), .int x3]) ⟨hx, hb, hml, hown, hts⟩ (c_X3_of l dC dI cI sf H.size N  x2 ((nI 4) + x4) r69 hG) (va_cwS 2 hts gX3_differing_X3_of rfl rfl rfl (by decide +kernel) ⟨Nat.le_of_ble_eq_true rfl, Nat.le_of_ble_eq_true rfl⟩) ⟨fun a U g mk q => ⟨q.1, q.2.call⟩, fun U hU hW => ⟨rfl, PB.of hU hW hPc hK hDc hNN hSF hS hFc⟩⟩ rfl rfl hl.1 rfl (lv_room (Nat.le_of_ble_eq_true rfl)) dX3_differing_69 ⟨Nat.le_of_ble_eq_true rfl, Nat.le_of_ble_eq_true rfl⟩) hS (fun q _ h => hFc q h) hFc (fun z_ u_ t H locs ht hvm hw hB hz1 hk1 hS => ?_)
            subst z_
            obtain ⟨hP1, hD1⟩ := hB
            rw [ht] at hP1
            have hJ := vb_join (ws' := (cwM cI b tW)) hP hD [] [0, 1, 2, 3, 4, 5, 6, 7, 8, 9] [0, 1, 2, 3, 4, 5, 6, 7, 8, 9] rfl rfl (by decide) (by decide) hk1 hFc hP1 hD1 rfl (by decide) rfl
            clear hP hD hPc hDc hFc hP1 hD1 hk1 hz1 ht hvm hG
            obtain ⟨hP, hD⟩ := hJ
            refine cki hF (fun hi hF => ?_)
            refine va_iald (D := (dC, dI)) hx hb hK hP 1 0 rfl rfl hi dX3_differing_72 ?_
            refine lv_if_eq (tgt := 80) hx hb dX3_differing_73 (by decide) (fun hc => ?_) (fun hc => ?_)
            · have hF := ift hc hF
              refine lv_iconst (v := nI 0) hx hb dX3_differing_80 (by decide) ?_
              exact kJ81 x1 x2 x4 x3 (nI 0) _ _ _ hF hP hD hS (lv_sub hl [0, 1, 2, 4] rfl)
            · have hF := iff_ hc hF
              refine lv_iconst (v := nI 1) hx hb dX3_differing_76 (by decide) ?_
              refine lv_goto (tgt := 81) hx hb dX3_differing_77 (by decide) ?_
              exact kJ81 x1 x2 x4 x3 (nI 1) _ _ _ hF hP hD hS (lv_sub hl [0, 1, 2, 4] rfl)
  refine lv_istore (lv' := [(4, .int (nI 0)), (3, .int (nI 0)), (0, .ref (b 0)), (1, .int p1), (2, .int p2)]) hx hb dX3_differing_3 hl (by decide) rfl (fun ls hl => ?_)
  exact kJ5 N p1 p2 (nI 0) (nI 0) _ _ _ hF hP hD hS (lv_sub hl [2, 3, 4, 1, 0] rfl)
theorem inw_X3_pairsOf_X3 : ∀ w ∈ u_ws RX3 TX3 15, w ∈ wsX3_pairsOf := fun _ h => List.mem_cons_of_mem _ (List.mem_append_right _ h)
set_option maxHeartbeats 4000000 in
set_option maxRecDepth 100000 in
theorem c_X3_pairsOf_d (l : Launch) (dC : Nat → ClassId) (dI : Nat → Nat → Nat) (cI : ClassId) (sf : SFP) (N : Nat) (b : Nat → Nat) : ∀ (d : Nat) (sz : Nat) (tW : MS) (p1 : Int32) (r : Int32), F_X3_pairsOf N d tW p1 = some r → Met l yX3_pairsOf wsX3_pairsOf ({ frames := d + 4, cells := 0, slots := 0, locals := 40 * d + 100 }) (va_Pc [.ref (b 0), .int p1] (PB (dC, dI) cI (cwM cI b tW) sz sf)) (va_Qi (fun (z : Int32) (_ : Unit) => z = r) (fun _ t => QB (dC, dI) (cwM cI b tW) (va_A (cwM cI b tW) sz) t) (va_A (cwM cI b tW) sz)) 0 0 (va_A (cwM cI b tW) sz) := by
  intro d
  induction d with
  | zero => intro sz tW p1 r hF; exact nn hF
  | succ d ihd =>
    intro sz tW p1 r hF
    refine Met.ofW (cc := cX3_pairsOf) (maxL := 7) (ret := (some .int)) (by decide) rfl ?_
    intro p e s m args below meth c s₁ B hml hv
    obtain ⟨rfl, hsz, hP, hK, hD0, hNN, hSF⟩ := hv
    have hx := B.exec
    have hb := B.bytes
    have hr := B.returns
    have hts := atoms_spec (ws := wsX3_pairsOf) B.pre
    have hown : s.vm.findClass RX3 = some m.cls := findClass_of_methodNamed B.named
    have hlocks := B.notSynchronized
    subst hsz
    have hD := hD0.self (sz := s.heap.size)
    generalize hAe : va_A (cwM cI b tW) s.heap.size = A at hD hSF ⊢
    have hA : ∀ q : Nat, s.heap.size ≤ q → A q := fun q h => by rw [← hAe]; exact Or.inr h
    clear hAe hD0
    have hS : va_S A s.heap s.heap [] := va_S.rf
    have hl := lv_entry ([.ref (b 0), .int p1]) (n := 7) (Nat.le_of_ble_eq_true rfl)
    rw [lg_entry_eq]
    generalize (lg_sl ([.ref (b 0), .int p1]) ++ List.replicate (7 - (lg_sl ([.ref (b 0), .int p1])).length) Slot.unset).toArray = ls at hl ⊢
    have hl : lv_has ls 7 [(0, .ref (b 0)), (1, .int p1)] := hl
    rw [F_X3_pairsOf] at hF
    refine lv_iload_n hx hb dX3_pairsOf_0 rfl (lv_at hl 1 rfl) ?_
    refine lv_if_ne (tgt := 6) hx hb dX3_pairsOf_1 (by decide) (fun hc => ?_) (fun hc => ?_)
    · have hF := ift hc hF
      refine lv_iconst (v := nI 0) hx hb dX3_pairsOf_6 (by decide) ?_
      refine vW_have (fun R av Q => ∀ (n8 : Nat) (x1 : Int32) (x2 : Int32) (H : Heap) (locs : List Loc) (ls : Array Slot), F_X3_pairsOf_8 N tW (fun cy cp => F_X3_pairsOf N d cy cp) n8 x1 x2 = some r → va_P (dC, dI) vwCl (cwM cI b tW) H → va_D A (cwM cI b tW) → va_S A s.heap H locs → lv_has ls 7 [(0, .ref (b 0)), (1, .int x1), (2, .int x2)] → W p l e R s m av below meth c H locs 0 0 Q (F0 m 8 ls [])) ?_ (fun kJ8 => ?_)
      · intro n8
        induction n8 with
        | zero => intro x1 x2 H locs ls hF; exact nn hF
        | succ n8 ih8 =>
          intro x1 x2 H locs ls hF hP hD hS hl
          rw [F_X3_pairsOf_8] at hF
          refine lv_iload_n hx hb dX3_pairsOf_8 rfl (lv_at hl 1 rfl) ?_
          refine lv_iload_n hx hb dX3_pairsOf_9 rfl (lv_at hl 2 rfl) ?_
          have hPc := hP.sub (ws' := ([] : va_W)) [] rfl
          have hDc := hD.sub (ws' := ([] : va_W)) [] (by decide) rfl
          have hFc := va_free (wc := ([] : va_W)) hD hS hA [] rfl
          refine bd hF (fun r10 hG hF => ?_)
          refine va_calli (va_runS (As := [.int x1, .int x2]) (rest := []) ⟨hx, hb, hml, hown, hts⟩ (c_X3_has l dC dI cI sf H.size N  x1 x2 r10 hG) (va_cwS 2 hts gX3_pairsOf_X3_has rfl rfl rfl (by decide +kernel) ⟨(by first | exact Nat.le_of_ble_eq_true rfl | (show d + 4 + 1 ≤ d + 1 + 4; omega) | (show 8 + (7 + 11) + (40 * d + 100) ≤ 40 * (d + 1) + 100; omega)), (by first | exact Nat.le_of_ble_eq_true rfl | (show d + 4 + 1 ≤ d + 1 + 4; omega) | (show 8 + (7 + 11) + (40 * d + 100) ≤ 40 * (d + 1) + 100; omega))⟩) ⟨fun a U g mk q => ⟨q.1, q.2.call⟩, fun U hU hW => ⟨rfl, PB.of hU hW hPc hK hDc hNN hSF hS hFc⟩⟩ rfl rfl hl.1 rfl (lv_room (Nat.le_of_ble_eq_true rfl)) dX3_pairsOf_10 ⟨Nat.le_of_ble_eq_true rfl, Nat.le_of_ble_eq_true rfl⟩) hS (fun q _ h => hFc q h) hFc (fun z_ u_ t H locs ht hvm hw hB hz1 hk1 hS => ?_)
          subst z_
          obtain ⟨hP1, hD1⟩ := hB
          rw [ht] at hP1
          have hJ := vb_join (ws' := (cwM cI b tW)) hP hD [] [0, 1, 2, 3, 4, 5, 6, 7, 8, 9] [0, 1, 2, 3, 4, 5, 6, 7, 8, 9] rfl rfl (by decide) (by decide) hk1 hFc hP1 hD1 rfl (by decide) rfl
          clear hP hD hPc hDc hFc hP1 hD1 hk1 hz1 ht hvm hG
          obtain ⟨hP, hD⟩ := hJ
          refine vW_have (fun R av Q => ∀ (x1 : Int32) (x2 : Int32) (H : Heap) (locs : List Loc) (ls : Array Slot), F_X3_pairsOf_22 N tW (fun cy cp => F_X3_pairsOf N d cy cp) x1 x2 = some r → va_P (dC, dI) vwCl (cwM cI b tW) H → va_D A (cwM cI b tW) → va_S A s.heap H locs → lv_has ls 7 [(0, .ref (b 0)), (1, .int x1), (2, .int x2)] → W p l e R s m av below meth c H locs 0 0 Q (F0 m 22 ls [])) ?_ (fun kJ22 => ?_)
          · 
            intro x1 x2 H locs ls hF hP hD hS hl
            rw [F_X3_pairsOf_22] at hF
            refine lv_iload_n hx hb dX3_pairsOf_22 rfl (lv_at hl 1 rfl) ?_
            refine lv_iconst (v := nI 1) hx hb dX3_pairsOf_23 (by decide) ?_
            refine lv_iload_n hx hb dX3_pairsOf_24 rfl (lv_at hl 2 rfl) ?_
            refine lv_ishl hx hb dX3_pairsOf_25 ?_
            refine lv_iconst (v := (-1)) hx hb dX3_pairsOf_26 (by decide) ?_
            refine lv_ixor hx hb dX3_pairsOf_27 ?_
            refine lv_iand hx hb dX3_pairsOf_28 ?_
            refine lv_istore_n (lv' := [(3, .int (x1 &&& (((nI 1) <<< (x2 &&& 31)) ^^^ (-1)))), (0, .ref (b 0)), (1, .int x1), (2, .int x2)]) hx hb dX3_pairsOf_29 rfl hl (by decide) rfl (fun ls hl => ?_)
            refine lv_aload_n hx hb dX3_pairsOf_30 rfl (lv_at hl 1 rfl) ?_
            refine lv_iload_n hx hb dX3_pairsOf_31 rfl (lv_at hl 0 rfl) ?_
            have hPc := hP.sub (ws' := (cwM cI b tW)) [0, 1, 2, 3, 4, 5, 6, 7, 8, 9] rfl
            have hDc := hD.sub (ws' := (cwM cI b tW)) [0, 1, 2, 3, 4, 5, 6, 7, 8, 9] (by decide) rfl
            have hFc := va_free (wc := (cwM cI b tW)) hD hS hA [0, 1, 2, 3, 4, 5, 6, 7, 8, 9] rfl
            refine bd hF (fun r32 hG hF => ?_)
            refine va_calli (va_runV (As := [.int (x1 &&& (((nI 1) <<< (x2 &&& 31)) ^^^ (-1)))]) (rest := []) ⟨hx, hb, hml, hown, hts⟩ (ihd H.size tW (x1 &&& (((nI 1) <<< (x2 &&& 31)) ^^^ (-1))) r32 hG) (cwV 1 hts gX3_pairsOf_X3_pairsOf rfl rfl rfl (by decide +kernel) ⟨(by first | exact Nat.le_of_ble_eq_true rfl | (show d + 4 + 1 ≤ d + 1 + 4; omega) | (show 8 + (7 + 11) + (40 * d + 100) ≤ 40 * (d + 1) + 100; omega)), (by first | exact Nat.le_of_ble_eq_true rfl | (show d + 4 + 1 ≤ d + 1 + 4; omega) | (show 8 + (7 + 11) + (40 * d + 100) ≤ 40 * (d + 1) + 100; omega))⟩) ⟨fun a U g mk q => ⟨q.1, q.2.call⟩, va_recv hK hP (ci := 3) (q0 := 0) rfl rfl, fun U hU hW => ⟨rfl, PB.of hU hW hPc hK hDc hNN hSF hS hFc⟩⟩ rfl rfl hl.1 rfl (lv_room (Nat.le_of_ble_eq_true rfl)) dX3_pairsOf_32 ⟨Nat.le_of_ble_eq_true rfl, Nat.le_of_ble_eq_true rfl⟩) hS (fun q _ h => hFc q h) hFc (fun z_ u_ t H locs ht hvm hw hB hz1 hk1 hS => ?_)
            subst z_
            obtain ⟨hP1, hD1⟩ := hB
            rw [ht] at hP1
            have hJ := vb_join (ws' := (cwM cI b tW)) hP hD [0, 1, 2, 3, 4, 5, 6, 7, 8, 9] [] [0, 1, 2, 3, 4, 5, 6, 7, 8, 9] rfl rfl (by decide) (by decide) hk1 hFc hP1 hD1 rfl (by decide) rfl
            clear hP hD hPc hDc hFc hP1 hD1 hk1 hz1 ht hvm hG
            obtain ⟨hP, hD⟩ := hJ
            refine lv_istore (lv' := [(4, .int r32), (3, .int (x1 &&& (((nI 1) <<< (x2 &&& 31)) ^^^ (-1)))), (0, .ref (b 0)), (1, .int x1), (2, .int x2)]) hx hb dX3_pairsOf_35 hl (by decide) rfl (fun ls hl => ?_)
            refine lv_iload_n hx hb dX3_pairsOf_37 rfl (lv_at hl 4 rfl) ?_
            refine lv_iconst (v := nI 1) hx hb dX3_pairsOf_38 (by decide) ?_
            refine lv_iadd hx hb dX3_pairsOf_39 ?_
            refine vW_have (fun R av Q => ∀ (n42 : Nat) (x2 : Int32) (x3 : Int32) (x4 : Int32) (x5 : Int32) (H : Heap) (locs : List Loc) (ls : Array Slot), F_X3_pairsOf_42 N tW (fun cy cp => F_X3_pairsOf N d cy cp) n42 x2 x3 x4 x5 = some r → va_P (dC, dI) vwCl (cwM cI b tW) H → va_D A (cwM cI b tW) → va_S A s.heap H locs → lv_has ls 7 [(0, .ref (b 0)), (2, .int x2), (3, .int x3), (4, .int x4), (5, .int x5)] → W p l e R s m av below meth c H locs 0 0 Q (F0 m 42 ls [])) ?_ (fun kJ42 => ?_)
            · intro n42
              induction n42 with
              | zero => intro x2 x3 x4 x5 H locs ls hF; exact nn hF
              | succ n42 ih42 =>
                intro x2 x3 x4 x5 H locs ls hF hP hD hS hl
                rw [F_X3_pairsOf_42] at hF
                refine lv_iload hx hb dX3_pairsOf_42 (lv_at hl 4 rfl) ?_
                refine lv_aload_n hx hb dX3_pairsOf_44 rfl (lv_at hl 0 rfl) ?_
                refine va_get (D := (dC, dI)) (ci := 3) (v := .ref (b 1)) (C := RX3) (T := TX3) (N := 15) hx hb hts inw_X3_pairsOf_X3 hown hK hP 0 rfl rfl 0 (by decide) (hts (.fieldLink RX3 9 "DeniedOfEachOtherModel" "s" "[I") (List.mem_of_getElem? (i := 1) rfl)) (fun _ h9 => h9) rfl dX3_pairsOf_45 ?_
                refine lv_iconst (v := nI 0) hx hb dX3_pairsOf_48 (by decide) ?_
                refine va_iald (D := (dC, dI)) hx hb hK hP 1 0 rfl rfl (vp_in_nI (n := 0) (N := 74) (by decide) (by decide)) dX3_pairsOf_49 ?_
                refine lv_icmp_ge (tgt := 113) hx hb dX3_pairsOf_50 (by decide) (fun hc => ?_) (fun hc => ?_)
                · have hF := ift hc hF
                  refine lv_iload hx hb dX3_pairsOf_113 (lv_at hl 3 rfl) ?_
                  obtain rfl := Option.some.inj hF
                  exact W.iret (v := x4) hx hb hr (fun t ht hW => ⟨⟨x4, (), rfl, rfl, QB.of ht hP hD⟩, hS.F ht⟩) hS.2.2 dX3_pairsOf_115
                · have hF := iff_ hc hF
                  refine lv_iload_n hx hb dX3_pairsOf_53 rfl (lv_at hl 2 rfl) ?_
                  refine lv_iload hx hb dX3_pairsOf_54 (lv_at hl 4 rfl) ?_
                  have hPc := hP.sub (ws' := ([] : va_W)) [] rfl
                  have hDc := hD.sub (ws' := ([] : va_W)) [] (by decide) rfl
                  have hFc := va_free (wc := ([] : va_W)) hD hS hA [] rfl
                  refine bd hF (fun r56 hG hF => ?_)
                  refine va_calli (va_runS (As := [.int x3, .int x5]) (rest := []) ⟨hx, hb, hml, hown, hts⟩ (c_X3_has l dC dI cI sf H.size N  x3 x5 r56 hG) (va_cwS 2 hts gX3_pairsOf_X3_has rfl rfl rfl (by decide +kernel) ⟨(by first | exact Nat.le_of_ble_eq_true rfl | (show d + 4 + 1 ≤ d + 1 + 4; omega) | (show 8 + (7 + 11) + (40 * d + 100) ≤ 40 * (d + 1) + 100; omega)), (by first | exact Nat.le_of_ble_eq_true rfl | (show d + 4 + 1 ≤ d + 1 + 4; omega) | (show 8 + (7 + 11) + (40 * d + 100) ≤ 40 * (d + 1) + 100; omega))⟩) ⟨fun a U g mk q => ⟨q.1, q.2.call⟩, fun U hU hW => ⟨rfl, PB.of hU hW hPc hK hDc hNN hSF hS hFc⟩⟩ rfl rfl hl.1 rfl (lv_room (Nat.le_of_ble_eq_true rfl)) dX3_pairsOf_56 ⟨Nat.le_of_ble_eq_true rfl, Nat.le_of_ble_eq_true rfl⟩) hS (fun q _ h => hFc q h) hFc (fun z_ u_ t H locs ht hvm hw hB hz1 hk1 hS => ?_)
                  subst z_
                  obtain ⟨hP1, hD1⟩ := hB
                  rw [ht] at hP1
                  have hJ := vb_join (ws' := (cwM cI b tW)) hP hD [] [0, 1, 2, 3, 4, 5, 6, 7, 8, 9] [0, 1, 2, 3, 4, 5, 6, 7, 8, 9] rfl rfl (by decide) (by decide) hk1 hFc hP1 hD1 rfl (by decide) rfl
                  clear hP hD hPc hDc hFc hP1 hD1 hk1 hz1 ht hvm hG
                  obtain ⟨hP, hD⟩ := hJ
                  refine vW_have (fun R av Q => ∀ (x2 : Int32) (x3 : Int32) (x4 : Int32) (x5 : Int32) (H : Heap) (locs : List Loc) (ls : Array Slot), F_X3_pairsOf_107 N tW (fun cy cp => F_X3_pairsOf N d cy cp) (fun cx2 cx3 cx4 cx5 => F_X3_pairsOf_42 N tW (fun cy cp => F_X3_pairsOf N d cy cp) n42 cx2 cx3 cx4 cx5) x2 x3 x4 x5 = some r → va_P (dC, dI) vwCl (cwM cI b tW) H → va_D A (cwM cI b tW) → va_S A s.heap H locs → lv_has ls 7 [(0, .ref (b 0)), (2, .int x2), (3, .int x3), (4, .int x4), (5, .int x5)] → W p l e R s m av below meth c H locs 0 0 Q (F0 m 107 ls [])) ?_ (fun kJ107 => ?_)
                  · 
                    intro x2 x3 x4 x5 H locs ls hF hP hD hS hl
                    rw [F_X3_pairsOf_107] at hF
                    refine lv_iinc (v := x5 + (nI 1)) (lv' := [(5, .int (x5 + (nI 1))), (0, .ref (b 0)), (2, .int x2), (3, .int x3), (4, .int x4)]) hx hb dX3_pairsOf_107 hl (k := 4) rfl (by rfl) (by decide) rfl (fun ls hl => ?_)
                    refine lv_goto (tgt := 42) hx hb dX3_pairsOf_110 (by decide) ?_
                    exact ih42 x2 x3 x4 (x5 + (nI 1)) _ _ _ hF hP hD hS (lv_sub hl [1, 2, 3, 4, 0] rfl)
                  refine lv_if_eq (tgt := 107) hx hb dX3_pairsOf_59 (by decide) (fun hc => ?_) (fun hc => ?_)
                  · have hF := ift hc hF
                    exact kJ107 x2 x3 x4 x5 _ _ _ hF hP hD hS (lv_sub hl [0, 1, 2, 3, 4] rfl)
                  · have hF := iff_ hc hF
                    refine lv_aload_n hx hb dX3_pairsOf_62 rfl (lv_at hl 0 rfl) ?_
                    refine lv_iload_n hx hb dX3_pairsOf_63 rfl (lv_at hl 1 rfl) ?_
                    refine lv_iload hx hb dX3_pairsOf_64 (lv_at hl 4 rfl) ?_
                    have hPc := hP.sub (ws' := (cwM cI b tW)) [0, 1, 2, 3, 4, 5, 6, 7, 8, 9] rfl
                    have hDc := hD.sub (ws' := (cwM cI b tW)) [0, 1, 2, 3, 4, 5, 6, 7, 8, 9] (by decide) rfl
                    have hFc := va_free (wc := (cwM cI b tW)) hD hS hA [0, 1, 2, 3, 4, 5, 6, 7, 8, 9] rfl
                    refine bd hF (fun r66 hG hF => ?_)
                    refine va_calli (va_runV (As := [.int x2, .int x5]) (rest := []) ⟨hx, hb, hml, hown, hts⟩ (c_X3_differing l dC dI cI sf H.size N b tW x2 x5 r66 hG) (cwV 2 hts gX3_pairsOf_X3_differing rfl rfl rfl (by decide +kernel) ⟨(by first | exact Nat.le_of_ble_eq_true rfl | (show d + 4 + 1 ≤ d + 1 + 4; omega) | (show 8 + (7 + 11) + (40 * d + 100) ≤ 40 * (d + 1) + 100; omega)), (by first | exact Nat.le_of_ble_eq_true rfl | (show d + 4 + 1 ≤ d + 1 + 4; omega) | (show 8 + (7 + 11) + (40 * d + 100) ≤ 40 * (d + 1) + 100; omega))⟩) ⟨fun a U g mk q => ⟨q.1, q.2.call⟩, va_recv hK hP (ci := 3) (q0 := 0) rfl rfl, fun U hU hW => ⟨rfl, PB.of hU hW hPc hK hDc hNN hSF hS hFc⟩⟩ rfl rfl hl.1 rfl (lv_room (Nat.le_of_ble_eq_true rfl)) dX3_pairsOf_66 ⟨Nat.le_of_ble_eq_true rfl, Nat.le_of_ble_eq_true rfl⟩) hS (fun q _ h => hFc q h) hFc (fun z_ u_ t H locs ht hvm hw hB hz1 hk1 hS => ?_)
                    subst z_
                    obtain ⟨hP1, hD1⟩ := hB
                    rw [ht] at hP1
                    have hJ := vb_join (ws' := (cwM cI b tW)) hP hD [0, 1, 2, 3, 4, 5, 6, 7, 8, 9] [] [0, 1, 2, 3, 4, 5, 6, 7, 8, 9] rfl rfl (by decide) (by decide) hk1 hFc hP1 hD1 rfl (by decide) rfl
                    clear hP hD hPc hDc hFc hP1 hD1 hk1 hz1 ht hvm hG
                    obtain ⟨hP, hD⟩ := hJ
                    refine lv_if_ne (tgt := 75) hx hb dX3_pairsOf_69 (by decide) (fun hc => ?_) (fun hc => ?_)
                    · have hF := ift hc hF
                      refine lv_iconst (v := nI 1) hx hb dX3_pairsOf_75 (by decide) ?_
                      refine lv_aload_n hx hb dX3_pairsOf_76 rfl (lv_at hl 0 rfl) ?_
                      refine lv_iload_n hx hb dX3_pairsOf_77 rfl (lv_at hl 2 rfl) ?_
                      refine lv_iconst (v := nI 1) hx hb dX3_pairsOf_78 (by decide) ?_
                      refine lv_iload hx hb dX3_pairsOf_79 (lv_at hl 4 rfl) ?_
                      refine lv_ishl hx hb dX3_pairsOf_81 ?_
                      refine lv_iconst (v := (-1)) hx hb dX3_pairsOf_82 (by decide) ?_
                      refine lv_ixor hx hb dX3_pairsOf_83 ?_
                      refine lv_iand hx hb dX3_pairsOf_84 ?_
                      have hPc := hP.sub (ws' := (cwM cI b tW)) [0, 1, 2, 3, 4, 5, 6, 7, 8, 9] rfl
                      have hDc := hD.sub (ws' := (cwM cI b tW)) [0, 1, 2, 3, 4, 5, 6, 7, 8, 9] (by decide) rfl
                      have hFc := va_free (wc := (cwM cI b tW)) hD hS hA [0, 1, 2, 3, 4, 5, 6, 7, 8, 9] rfl
                      refine bd hF (fun r85 hG hF => ?_)
                      refine va_calli (va_runV (As := [.int (x3 &&& (((nI 1) <<< (x5 &&& 31)) ^^^ (-1)))]) (rest := [.int (nI 1)]) ⟨hx, hb, hml, hown, hts⟩ (ihd H.size tW (x3 &&& (((nI 1) <<< (x5 &&& 31)) ^^^ (-1))) r85 hG) (cwV 1 hts gX3_pairsOf_X3_pairsOf rfl rfl rfl (by decide +kernel) ⟨(by first | exact Nat.le_of_ble_eq_true rfl | (show d + 4 + 1 ≤ d + 1 + 4; omega) | (show 8 + (7 + 11) + (40 * d + 100) ≤ 40 * (d + 1) + 100; omega)), (by first | exact Nat.le_of_ble_eq_true rfl | (show d + 4 + 1 ≤ d + 1 + 4; omega) | (show 8 + (7 + 11) + (40 * d + 100) ≤ 40 * (d + 1) + 100; omega))⟩) ⟨fun a U g mk q => ⟨q.1, q.2.call⟩, va_recv hK hP (ci := 3) (q0 := 0) rfl rfl, fun U hU hW => ⟨rfl, PB.of hU hW hPc hK hDc hNN hSF hS hFc⟩⟩ rfl rfl hl.1 rfl (lv_room (Nat.le_of_ble_eq_true rfl)) dX3_pairsOf_85 ⟨Nat.le_of_ble_eq_true rfl, Nat.le_of_ble_eq_true rfl⟩) hS (fun q _ h => hFc q h) hFc (fun z_ u_ t H locs ht hvm hw hB hz1 hk1 hS => ?_)
                      subst z_
                      obtain ⟨hP1, hD1⟩ := hB
                      rw [ht] at hP1
                      have hJ := vb_join (ws' := (cwM cI b tW)) hP hD [0, 1, 2, 3, 4, 5, 6, 7, 8, 9] [] [0, 1, 2, 3, 4, 5, 6, 7, 8, 9] rfl rfl (by decide) (by decide) hk1 hFc hP1 hD1 rfl (by decide) rfl
                      clear hP hD hPc hDc hFc hP1 hD1 hk1 hz1 ht hvm hG
                      obtain ⟨hP, hD⟩ := hJ
                      refine lv_iadd hx hb dX3_pairsOf_88 ?_
                      refine lv_istore (lv' := [(6, .int ((nI 1) + r85)), (0, .ref (b 0)), (2, .int x2), (3, .int x3), (4, .int x4), (5, .int x5)]) hx hb dX3_pairsOf_89 hl (by decide) rfl (fun ls hl => ?_)
                      refine lv_iload hx hb dX3_pairsOf_91 (lv_at hl 0 rfl) ?_
                      refine lv_iload hx hb dX3_pairsOf_93 (lv_at hl 4 rfl) ?_
                      refine vW_have (fun R av Q => ∀ (x2 : Int32) (x3 : Int32) (x5 : Int32) (z0 : Int32) (H : Heap) (locs : List Loc) (ls : Array Slot), F_X3_pairsOf_105 N tW (fun cy cp => F_X3_pairsOf N d cy cp) (fun cx2 cx3 cx4 cx5 => F_X3_pairsOf_42 N tW (fun cy cp => F_X3_pairsOf N d cy cp) n42 cx2 cx3 cx4 cx5) x2 x3 x5 z0 = some r → va_P (dC, dI) vwCl (cwM cI b tW) H → va_D A (cwM cI b tW) → va_S A s.heap H locs → lv_has ls 7 [(0, .ref (b 0)), (2, .int x2), (3, .int x3), (5, .int x5)] → W p l e R s m av below meth c H locs 0 0 Q (F0 m 105 ls [.int z0])) ?_ (fun kJ105 => ?_)
                      · 
                        intro x2 x3 x5 z0 H locs ls hF hP hD hS hl
                        rw [F_X3_pairsOf_105] at hF
                        refine lv_istore (lv' := [(4, .int z0), (0, .ref (b 0)), (2, .int x2), (3, .int x3), (5, .int x5)]) hx hb dX3_pairsOf_105 hl (by decide) rfl (fun ls hl => ?_)
                        exact kJ107 x2 x3 z0 x5 _ _ _ hF hP hD hS (lv_sub hl [1, 2, 3, 0, 4] rfl)
                      refine lv_icmp_le (tgt := 103) hx hb dX3_pairsOf_95 (by decide) (fun hc => ?_) (fun hc => ?_)
                      · have hF := ift hc hF
                        refine lv_iload hx hb dX3_pairsOf_103 (lv_at hl 4 rfl) ?_
                        exact kJ105 x2 x3 x5 x4 _ _ _ hF hP hD hS (lv_sub hl [1, 2, 3, 5] rfl)
                      · have hF := iff_ hc hF
                        refine lv_iload hx hb dX3_pairsOf_98 (lv_at hl 0 rfl) ?_
                        refine lv_goto (tgt := 105) hx hb dX3_pairsOf_100 (by decide) ?_
                        exact kJ105 x2 x3 x5 ((nI 1) + r85) _ _ _ hF hP hD hS (lv_sub hl [1, 2, 3, 5] rfl)
                    · have hF := iff_ (fun h => h hc) hF
                      refine lv_goto (tgt := 107) hx hb dX3_pairsOf_72 (by decide) ?_
                      exact kJ107 x2 x3 x4 x5 _ _ _ hF hP hD hS (lv_sub hl [0, 1, 2, 3, 4] rfl)
            refine lv_istore (lv' := [(5, .int (x2 + (nI 1))), (4, .int r32), (3, .int (x1 &&& (((nI 1) <<< (x2 &&& 31)) ^^^ (-1)))), (0, .ref (b 0)), (1, .int x1), (2, .int x2)]) hx hb dX3_pairsOf_40 hl (by decide) rfl (fun ls hl => ?_)
            exact kJ42 N x2 (x1 &&& (((nI 1) <<< (x2 &&& 31)) ^^^ (-1))) r32 (x2 + (nI 1)) _ _ _ hF hP hD hS (lv_sub hl [3, 5, 2, 1, 0] rfl)
          refine lv_if_ne (tgt := 22) hx hb dX3_pairsOf_13 (by decide) (fun hc => ?_) (fun hc => ?_)
          · have hF := ift hc hF
            exact kJ22 x1 x2 _ _ _ hF hP hD hS (lv_sub hl [0, 1, 2] rfl)
          · have hF := iff_ (fun h => h hc) hF
            refine lv_iinc (v := x2 + (nI 1)) (lv' := [(2, .int (x2 + (nI 1))), (0, .ref (b 0)), (1, .int x1)]) hx hb dX3_pairsOf_16 hl (k := 2) rfl (by rfl) (by decide) rfl (fun ls hl => ?_)
            refine lv_goto (tgt := 8) hx hb dX3_pairsOf_19 (by decide) ?_
            exact ih8 x1 (x2 + (nI 1)) _ _ _ hF hP hD hS (lv_sub hl [1, 2, 0] rfl)
      refine lv_istore_n (lv' := [(2, .int (nI 0)), (0, .ref (b 0)), (1, .int p1)]) hx hb dX3_pairsOf_7 rfl hl (by decide) rfl (fun ls hl => ?_)
      exact kJ8 N p1 (nI 0) _ _ _ hF hP hD hS (lv_sub hl [1, 2, 0] rfl)
    · have hF := iff_ (fun h => h hc) hF
      refine lv_iconst (v := nI 0) hx hb dX3_pairsOf_4 (by decide) ?_
      obtain rfl := Option.some.inj hF
      exact W.iret (v := (nI 0)) hx hb hr (fun t ht hW => ⟨⟨(nI 0), (), rfl, rfl, QB.of ht hP hD⟩, hS.F ht⟩) hS.2.2 dX3_pairsOf_5
theorem c_X3_pairsOf (l : Launch) (dC : Nat → ClassId) (dI : Nat → Nat → Nat) (cI : ClassId) (sf : SFP) (sz : Nat) (N : Nat) (b : Nat → Nat) (tW : MS) (p1 : Int32) (r : Int32) (hF : F_X3_pairsOf N 8 tW p1 = some r) : Met l yX3_pairsOf wsX3_pairsOf ({ frames := 12, cells := 0, slots := 0, locals := 420 }) (va_Pc [.ref (b 0), .int p1] (PB (dC, dI) cI (cwM cI b tW) sz sf)) (va_Qi (fun (z : Int32) (_ : Unit) => z = r) (fun _ t => QB (dC, dI) (cwM cI b tW) (va_A (cwM cI b tW) sz) t) (va_A (cwM cI b tW) sz)) 0 0 (va_A (cwM cI b tW) sz) := c_X3_pairsOf_d l dC dI cI sf N b 8 sz tW p1 r hF
theorem inw_X3_differ_X3 : ∀ w ∈ u_ws RX3 TX3 15, w ∈ wsX3_differ := fun _ h => List.mem_cons_of_mem _ (List.mem_append_right _ h)
set_option maxHeartbeats 4000000 in
set_option maxRecDepth 100000 in
theorem c_X3_differ (l : Launch) (dC : Nat → ClassId) (dI : Nat → Nat → Nat) (cI : ClassId) (sf : SFP) (sz : Nat) (N : Nat) (b : Nat → Nat) (tW : MS) (p1 : Int32) (r : (Int32 × MS)) (hF : F_X3_differ N tW p1 = some r) : Met l yX3_differ wsX3_differ ({ frames := 13, cells := 0, slots := 0, locals := 446 }) (va_Pc [.ref (b 0), .int p1] (PB (dC, dI) cI (cwM cI b tW) sz sf)) (va_Qi (fun (z : Int32) (_ : Unit) => z = r.1) (fun _ t => QB (dC, dI) (cwM cI b r.2) (va_A (cwM cI b tW) sz) t) (va_A (cwM cI b tW) sz)) 0 0 (va_A (cwM cI b tW) sz) := by
  refine Met.ofW (cc := cX3_differ) (maxL := 7) (ret := (some .int)) (by decide) rfl ?_
  intro p e s m args below meth c s₁ B hml hv
  obtain ⟨rfl, hsz, hP, hK, hD0, hNN, hSF⟩ := hv
  have hx := B.exec
  have hb := B.bytes
  have hr := B.returns
  have hts := atoms_spec (ws := wsX3_differ) B.pre
  have hown : s.vm.findClass RX3 = some m.cls := findClass_of_methodNamed B.named
  have hlocks := B.notSynchronized
  subst hsz
  have hD := hD0.self (sz := s.heap.size)
  generalize hAe : va_A (cwM cI b tW) s.heap.size = A at hD hSF ⊢
  have hA : ∀ q : Nat, s.heap.size ≤ q → A q := fun q h => by rw [← hAe]; exact Or.inr h
  clear hAe hD0
  have hS : va_S A s.heap s.heap [] := va_S.rf
  have hl := lv_entry ([.ref (b 0), .int p1]) (n := 7) (Nat.le_of_ble_eq_true rfl)
  rw [lg_entry_eq]
  generalize (lg_sl ([.ref (b 0), .int p1]) ++ List.replicate (7 - (lg_sl ([.ref (b 0), .int p1])).length) Slot.unset).toArray = ls at hl ⊢
  have hl : lv_has ls 7 [(0, .ref (b 0)), (1, .int p1)] := hl
  rw [F_X3_differ] at hF
  refine lv_iload_n hx hb dX3_differ_0 rfl (lv_at hl 1 rfl) ?_
  refine lv_iconst (v := nI 0) hx hb dX3_differ_1 (by decide) ?_
  refine lv_iconst (v := nI 2) hx hb dX3_differ_2 (by decide) ?_
  have hPc := hP.sub (ws' := ([] : va_W)) [] rfl
  have hDc := hD.sub (ws' := ([] : va_W)) [] (by decide) rfl
  have hFc := va_free (wc := ([] : va_W)) hD hS hA [] rfl
  refine bd hF (fun r3 hG hF => ?_)
  refine va_calli (va_runS (As := [.int p1, .int (nI 0), .int (nI 2)]) (rest := []) ⟨hx, hb, hml, hown, hts⟩ (c_X3_isIn l dC dI cI sf s.heap.size N  p1 (nI 0) (nI 2) r3 hG) (va_cwS 3 hts gX3_differ_X3_isIn rfl rfl rfl (by decide +kernel) ⟨Nat.le_of_ble_eq_true rfl, Nat.le_of_ble_eq_true rfl⟩) ⟨fun a U g mk q => ⟨q.1, q.2.call⟩, fun U hU hW => ⟨rfl, PB.of hU hW hPc hK hDc hNN hSF hS hFc⟩⟩ rfl rfl hl.1 rfl (lv_room (Nat.le_of_ble_eq_true rfl)) dX3_differ_3 ⟨Nat.le_of_ble_eq_true rfl, Nat.le_of_ble_eq_true rfl⟩) hS (fun q _ h => hFc q h) hFc (fun z_ u_ t H locs ht hvm hw hB hz1 hk1 hS => ?_)
  subst z_
  obtain ⟨hP1, hD1⟩ := hB
  rw [ht] at hP1
  have hJ := vb_join (ws' := (cwM cI b tW)) hP hD [] [0, 1, 2, 3, 4, 5, 6, 7, 8, 9] [0, 1, 2, 3, 4, 5, 6, 7, 8, 9] rfl rfl (by decide) (by decide) hk1 hFc hP1 hD1 rfl (by decide) rfl
  clear hP hD hPc hDc hFc hP1 hD1 hk1 hz1 ht hvm hG
  obtain ⟨hP, hD⟩ := hJ
  refine lv_if_ne (tgt := 16) hx hb dX3_differ_6 (by decide) (fun hc => ?_) (fun hc => ?_)
  · have hF := ift hc hF
    refine lv_iload_n hx hb dX3_differ_16 rfl (lv_at hl 1 rfl) ?_
    refine lv_iconst (v := nI 2) hx hb dX3_differ_17 (by decide) ?_
    refine lv_icmp_ne (tgt := 33) hx hb dX3_differ_18 (by decide) (fun hc => ?_) (fun hc => ?_)
    · have hF := ift hc hF
      refine lv_bipush (v := (-9)) hx hb dX3_differ_33 (by decide) ?_
      refine lv_istore_n (lv' := [(2, .int (-9)), (0, .ref (b 0)), (1, .int p1)]) hx hb dX3_differ_35 rfl hl (by decide) rfl (fun ls hl => ?_)
      refine lv_iconst (v := (-1)) hx hb dX3_differ_36 (by decide) ?_
      refine lv_istore_n (lv' := [(3, .int (-1)), (2, .int (-9)), (0, .ref (b 0)), (1, .int p1)]) hx hb dX3_differ_37 rfl hl (by decide) rfl (fun ls hl => ?_)
      refine lv_iconst (v := nI 0) hx hb dX3_differ_38 (by decide) ?_
      refine vW_have (fun R av Q => ∀ (n41 : Nat) (tW : MS) (x1 : Int32) (x2 : Int32) (x3 : Int32) (x4 : Int32) (H : Heap) (locs : List Loc) (ls : Array Slot), F_X3_differ_41 N n41 tW x1 x2 x3 x4 = some r → va_P (dC, dI) vwCl (cwM cI b tW) H → va_D A (cwM cI b tW) → va_S A s.heap H locs → lv_has ls 7 [(0, .ref (b 0)), (1, .int x1), (2, .int x2), (3, .int x3), (4, .int x4)] → W p l e R s m av below meth c H locs 0 0 Q (F0 m 41 ls [])) ?_ (fun kJ41 => ?_)
      · intro n41
        induction n41 with
        | zero => intro tW x1 x2 x3 x4 H locs ls hF; exact nn hF
        | succ n41 ih41 =>
          intro tW x1 x2 x3 x4 H locs ls hF hP hD hS hl
          rw [F_X3_differ_41] at hF
          refine lv_iload hx hb dX3_differ_41 (lv_at hl 4 rfl) ?_
          refine lv_aload_n hx hb dX3_differ_43 rfl (lv_at hl 0 rfl) ?_
          refine va_get (D := (dC, dI)) (ci := 3) (v := .ref (b 1)) (C := RX3) (T := TX3) (N := 15) hx hb hts inw_X3_differ_X3 hown hK hP 0 rfl rfl 0 (by decide) (hts (.fieldLink RX3 9 "DeniedOfEachOtherModel" "s" "[I") (List.mem_of_getElem? (i := 1) rfl)) (fun _ h9 => h9) rfl dX3_differ_44 ?_
          refine lv_iconst (v := nI 0) hx hb dX3_differ_47 (by decide) ?_
          refine va_iald (D := (dC, dI)) hx hb hK hP 1 0 rfl rfl (vp_in_nI (n := 0) (N := 74) (by decide) (by decide)) dX3_differ_48 ?_
          refine vW_have (fun R av Q => ∀ (tW : MS) (x1 : Int32) (x2 : Int32) (x3 : Int32) (H : Heap) (locs : List Loc) (ls : Array Slot), F_X3_differ_140 N tW x1 x2 x3 = some r → va_P (dC, dI) vwCl (cwM cI b tW) H → va_D A (cwM cI b tW) → va_S A s.heap H locs → lv_has ls 7 [(1, .int x1), (2, .int x2), (3, .int x3)] → W p l e R s m av below meth c H locs 0 0 Q (F0 m 140 ls [])) ?_ (fun kJ140 => ?_)
          · 
            intro tW x1 x2 x3 H locs ls hF hP hD hS hl
            rw [F_X3_differ_140] at hF
            refine lv_iload_n hx hb dX3_differ_140 rfl (lv_at hl 1 rfl) ?_
            refine lv_if_lt (tgt := 148) hx hb dX3_differ_141 (by decide) (fun hc => ?_) (fun hc => ?_)
            · have hF := ift hc hF
              refine lv_iload_n hx hb dX3_differ_148 rfl (lv_at hl 1 rfl) ?_
              refine lv_goto (tgt := 153) hx hb dX3_differ_149 (by decide) ?_
              obtain rfl := Option.some.inj hF
              exact W.iret (v := x2) hx hb hr (fun t ht hW => ⟨⟨x2, (), rfl, rfl, QB.of ht hP hD⟩, hS.F ht⟩) hS.2.2 dX3_differ_153
            · have hF := iff_ hc hF
              refine lv_iload_n hx hb dX3_differ_144 rfl (lv_at hl 0 rfl) ?_
              refine lv_if_ne (tgt := 152) hx hb dX3_differ_145 (by decide) (fun hc => ?_) (fun hc => ?_)
              · have hF := ift hc hF
                refine lv_iload_n hx hb dX3_differ_152 rfl (lv_at hl 2 rfl) ?_
                obtain rfl := Option.some.inj hF
                exact W.iret (v := x3) hx hb hr (fun t ht hW => ⟨⟨x3, (), rfl, rfl, QB.of ht hP hD⟩, hS.F ht⟩) hS.2.2 dX3_differ_153
              · have hF := iff_ (fun h => h hc) hF
                refine lv_iload_n hx hb dX3_differ_148 rfl (lv_at hl 1 rfl) ?_
                refine lv_goto (tgt := 153) hx hb dX3_differ_149 (by decide) ?_
                obtain rfl := Option.some.inj hF
                exact W.iret (v := x2) hx hb hr (fun t ht hW => ⟨⟨x2, (), rfl, rfl, QB.of ht hP hD⟩, hS.F ht⟩) hS.2.2 dX3_differ_153
          refine lv_icmp_ge (tgt := 140) hx hb dX3_differ_49 (by decide) (fun hc => ?_) (fun hc => ?_)
          · have hF := ift hc hF
            exact kJ140 tW x1 x2 x3 _ _ _ hF hP hD hS (lv_sub hl [1, 2, 3] rfl)
          · have hF := iff_ hc hF
            refine lv_iload hx hb dX3_differ_52 (lv_at hl 4 rfl) ?_
            refine lv_iconst (v := nI 1) hx hb dX3_differ_54 (by decide) ?_
            refine lv_iadd hx hb dX3_differ_55 ?_
            refine vW_have (fun R av Q => ∀ (n58 : Nat) (tW : MS) (x1 : Int32) (x2 : Int32) (x3 : Int32) (x4 : Int32) (x5 : Int32) (H : Heap) (locs : List Loc) (ls : Array Slot), F_X3_differ_58 N (fun ctW cx1 cx2 cx3 cx4 => F_X3_differ_41 N n41 ctW cx1 cx2 cx3 cx4) n58 tW x1 x2 x3 x4 x5 = some r → va_P (dC, dI) vwCl (cwM cI b tW) H → va_D A (cwM cI b tW) → va_S A s.heap H locs → lv_has ls 7 [(0, .ref (b 0)), (1, .int x1), (2, .int x2), (3, .int x3), (4, .int x4), (5, .int x5)] → W p l e R s m av below meth c H locs 0 0 Q (F0 m 58 ls [])) ?_ (fun kJ58 => ?_)
            · intro n58
              induction n58 with
              | zero => intro tW x1 x2 x3 x4 x5 H locs ls hF; exact nn hF
              | succ n58 ih58 =>
                intro tW x1 x2 x3 x4 x5 H locs ls hF hP hD hS hl
                rw [F_X3_differ_58] at hF
                refine lv_iload hx hb dX3_differ_58 (lv_at hl 5 rfl) ?_
                refine lv_aload_n hx hb dX3_differ_60 rfl (lv_at hl 0 rfl) ?_
                refine va_get (D := (dC, dI)) (ci := 3) (v := .ref (b 1)) (C := RX3) (T := TX3) (N := 15) hx hb hts inw_X3_differ_X3 hown hK hP 0 rfl rfl 0 (by decide) (hts (.fieldLink RX3 9 "DeniedOfEachOtherModel" "s" "[I") (List.mem_of_getElem? (i := 1) rfl)) (fun _ h9 => h9) rfl dX3_differ_61 ?_
                refine lv_iconst (v := nI 0) hx hb dX3_differ_64 (by decide) ?_
                refine va_iald (D := (dC, dI)) hx hb hK hP 1 0 rfl rfl (vp_in_nI (n := 0) (N := 74) (by decide) (by decide)) dX3_differ_65 ?_
                refine vW_have (fun R av Q => ∀ (tW : MS) (x1 : Int32) (x2 : Int32) (x3 : Int32) (x4 : Int32) (H : Heap) (locs : List Loc) (ls : Array Slot), F_X3_differ_134 N (fun ctW cx1 cx2 cx3 cx4 => F_X3_differ_41 N n41 ctW cx1 cx2 cx3 cx4) tW x1 x2 x3 x4 = some r → va_P (dC, dI) vwCl (cwM cI b tW) H → va_D A (cwM cI b tW) → va_S A s.heap H locs → lv_has ls 7 [(0, .ref (b 0)), (1, .int x1), (2, .int x2), (3, .int x3), (4, .int x4)] → W p l e R s m av below meth c H locs 0 0 Q (F0 m 134 ls [])) ?_ (fun kJ134 => ?_)
                · 
                  intro tW x1 x2 x3 x4 H locs ls hF hP hD hS hl
                  rw [F_X3_differ_134] at hF
                  refine lv_iinc (v := x4 + (nI 1)) (lv' := [(4, .int (x4 + (nI 1))), (0, .ref (b 0)), (1, .int x1), (2, .int x2), (3, .int x3)]) hx hb dX3_differ_134 hl (k := 4) rfl (by rfl) (by decide) rfl (fun ls hl => ?_)
                  refine lv_goto (tgt := 41) hx hb dX3_differ_137 (by decide) ?_
                  exact ih41 tW x1 x2 x3 (x4 + (nI 1)) _ _ _ hF hP hD hS (lv_sub hl [1, 2, 3, 4, 0] rfl)
                refine lv_icmp_ge (tgt := 134) hx hb dX3_differ_66 (by decide) (fun hc => ?_) (fun hc => ?_)
                · have hF := ift hc hF
                  exact kJ134 tW x1 x2 x3 x4 _ _ _ hF hP hD hS (lv_sub hl [0, 1, 2, 3, 4] rfl)
                · have hF := iff_ hc hF
                  refine lv_aload_n hx hb dX3_differ_69 rfl (lv_at hl 0 rfl) ?_
                  refine va_get (D := (dC, dI)) (ci := 3) (v := .ref (b 1)) (C := RX3) (T := TX3) (N := 15) hx hb hts inw_X3_differ_X3 hown hK hP 0 rfl rfl 0 (by decide) (hts (.fieldLink RX3 9 "DeniedOfEachOtherModel" "s" "[I") (List.mem_of_getElem? (i := 1) rfl)) (fun _ h9 => h9) rfl dX3_differ_70 ?_
                  refine lv_iload hx hb dX3_differ_73 (lv_at hl 4 rfl) ?_
                  have hPc := hP.sub (ws' := (cwA cI (b 1) tW.1)) [1] rfl
                  have hDc := hD.sub (ws' := (cwA cI (b 1) tW.1)) [1] (by decide) rfl
                  have hFc := va_free (wc := (cwA cI (b 1) tW.1)) hD hS hA [1] rfl
                  refine bd hF (fun r75 hG hF => ?_)
                  refine va_calli (va_runS (As := [.ref (b 1), .int x4]) (rest := []) ⟨hx, hb, hml, hown, hts⟩ (c_X3_isAlive l dC dI cI sf H.size N (b 1) tW.1 x4 r75 hG) (va_cwS 2 hts gX3_differ_X3_isAlive rfl rfl rfl (by decide +kernel) ⟨Nat.le_of_ble_eq_true rfl, Nat.le_of_ble_eq_true rfl⟩) ⟨fun a U g mk q => ⟨q.1, q.2.call⟩, fun U hU hW => ⟨rfl, PB.of hU hW hPc hK hDc hNN hSF hS hFc⟩⟩ rfl rfl hl.1 rfl (lv_room (Nat.le_of_ble_eq_true rfl)) dX3_differ_75 ⟨Nat.le_of_ble_eq_true rfl, Nat.le_of_ble_eq_true rfl⟩) hS (fun q _ h => hFc q h) hFc (fun z_ u_ t H locs ht hvm hw hB hz1 hk1 hS => ?_)
                  subst z_
                  obtain ⟨hP1, hD1⟩ := hB
                  rw [ht] at hP1
                  have hJ := vb_join (ws' := (cwM cI b tW)) hP hD [1] [0, 2, 3, 4, 5, 6, 7, 8, 9] [0, 9, 1, 2, 3, 4, 5, 6, 7, 8] rfl rfl (by decide) (by decide) hk1 hFc hP1 hD1 rfl (by decide) rfl
                  clear hP hD hPc hDc hFc hP1 hD1 hk1 hz1 ht hvm hG
                  obtain ⟨hP, hD⟩ := hJ
                  refine vW_have (fun R av Q => ∀ (tW : MS) (x1 : Int32) (x2 : Int32) (x3 : Int32) (x4 : Int32) (x5 : Int32) (z0 : Int32) (H : Heap) (locs : List Loc) (ls : Array Slot), F_X3_differ_105 N (fun ctW cx1 cx2 cx3 cx4 => F_X3_differ_41 N n41 ctW cx1 cx2 cx3 cx4) (fun ctW cx1 cx2 cx3 cx4 cx5 => F_X3_differ_58 N (fun ctW cx1 cx2 cx3 cx4 => F_X3_differ_41 N n41 ctW cx1 cx2 cx3 cx4) n58 ctW cx1 cx2 cx3 cx4 cx5) tW x1 x2 x3 x4 x5 z0 = some r → va_P (dC, dI) vwCl (cwM cI b tW) H → va_D A (cwM cI b tW) → va_S A s.heap H locs → lv_has ls 7 [(0, .ref (b 0)), (1, .int x1), (2, .int x2), (3, .int x3), (4, .int x4), (5, .int x5)] → W p l e R s m av below meth c H locs 0 0 Q (F0 m 105 ls [.int z0])) ?_ (fun kJ105 => ?_)
                  · 
                    intro tW x1 x2 x3 x4 x5 z0 H locs ls hF hP hD hS hl
                    rw [F_X3_differ_105] at hF
                    refine lv_istore (lv' := [(6, .int z0), (0, .ref (b 0)), (1, .int x1), (2, .int x2), (3, .int x3), (4, .int x4), (5, .int x5)]) hx hb dX3_differ_105 hl (by decide) rfl (fun ls hl => ?_)
                    refine lv_iload hx hb dX3_differ_107 (lv_at hl 0 rfl) ?_
                    refine lv_iload_n hx hb dX3_differ_109 rfl (lv_at hl 4 rfl) ?_
                    refine vW_have (fun R av Q => ∀ (tW : MS) (x1 : Int32) (x2 : Int32) (x3 : Int32) (x4 : Int32) (x5 : Int32) (H : Heap) (locs : List Loc) (ls : Array Slot), F_X3_differ_128 N (fun ctW cx1 cx2 cx3 cx4 => F_X3_differ_41 N n41 ctW cx1 cx2 cx3 cx4) (fun ctW cx1 cx2 cx3 cx4 cx5 => F_X3_differ_58 N (fun ctW cx1 cx2 cx3 cx4 => F_X3_differ_41 N n41 ctW cx1 cx2 cx3 cx4) n58 ctW cx1 cx2 cx3 cx4 cx5) tW x1 x2 x3 x4 x5 = some r → va_P (dC, dI) vwCl (cwM cI b tW) H → va_D A (cwM cI b tW) → va_S A s.heap H locs → lv_has ls 7 [(0, .ref (b 0)), (1, .int x1), (2, .int x2), (3, .int x3), (4, .int x4), (5, .int x5)] → W p l e R s m av below meth c H locs 0 0 Q (F0 m 128 ls [])) ?_ (fun kJ128 => ?_)
                    · 
                      intro tW x1 x2 x3 x4 x5 H locs ls hF hP hD hS hl
                      rw [F_X3_differ_128] at hF
                      refine lv_iinc (v := x5 + (nI 1)) (lv' := [(5, .int (x5 + (nI 1))), (0, .ref (b 0)), (1, .int x1), (2, .int x2), (3, .int x3), (4, .int x4)]) hx hb dX3_differ_128 hl (k := 5) rfl (by rfl) (by decide) rfl (fun ls hl => ?_)
                      refine lv_goto (tgt := 58) hx hb dX3_differ_131 (by decide) ?_
                      exact ih58 tW x1 x2 x3 x4 (x5 + (nI 1)) _ _ _ hF hP hD hS (lv_sub hl [1, 2, 3, 4, 5, 0] rfl)
                    refine lv_icmp_gt (tgt := 116) hx hb dX3_differ_110 (by decide) (fun hc => ?_) (fun hc => ?_)
                    · have hF := ift hc hF
                      refine lv_bipush (v := nI 10) hx hb dX3_differ_116 (by decide) ?_
                      refine lv_iload hx hb dX3_differ_118 (lv_at hl 5 rfl) ?_
                      refine lv_imul hx hb dX3_differ_120 ?_
                      refine lv_iload hx hb dX3_differ_121 (lv_at hl 6 rfl) ?_
                      refine lv_iadd hx hb dX3_differ_123 ?_
                      refine lv_istore_n (lv' := [(2, .int (((nI 10) * x4) + x5)), (6, .int z0), (0, .ref (b 0)), (1, .int x1), (3, .int x3), (4, .int x4), (5, .int x5)]) hx hb dX3_differ_124 rfl hl (by decide) rfl (fun ls hl => ?_)
                      refine lv_iload hx hb dX3_differ_125 (lv_at hl 1 rfl) ?_
                      refine lv_istore_n (lv' := [(3, .int z0), (2, .int (((nI 10) * x4) + x5)), (6, .int z0), (0, .ref (b 0)), (1, .int x1), (4, .int x4), (5, .int x5)]) hx hb dX3_differ_127 rfl hl (by decide) rfl (fun ls hl => ?_)
                      exact kJ128 tW x1 (((nI 10) * x4) + x5) z0 x4 x5 _ _ _ hF hP hD hS (lv_sub hl [3, 4, 1, 0, 5, 6] rfl)
                    · have hF := iff_ hc hF
                      refine lv_goto (tgt := 128) hx hb dX3_differ_113 (by decide) ?_
                      exact kJ128 tW x1 x2 x3 x4 x5 _ _ _ hF hP hD hS (lv_sub hl [1, 2, 3, 4, 5, 6] rfl)
                  refine lv_if_eq (tgt := 104) hx hb dX3_differ_78 (by decide) (fun hc => ?_) (fun hc => ?_)
                  · have hF := ift hc hF
                    refine lv_iconst (v := (-1)) hx hb dX3_differ_104 (by decide) ?_
                    exact kJ105 tW x1 x2 x3 x4 x5 (-1) _ _ _ hF hP hD hS (lv_sub hl [0, 1, 2, 3, 4, 5] rfl)
                  · have hF := iff_ hc hF
                    refine lv_aload_n hx hb dX3_differ_81 rfl (lv_at hl 0 rfl) ?_
                    refine va_get (D := (dC, dI)) (ci := 3) (v := .ref (b 1)) (C := RX3) (T := TX3) (N := 15) hx hb hts inw_X3_differ_X3 hown hK hP 0 rfl rfl 0 (by decide) (hts (.fieldLink RX3 9 "DeniedOfEachOtherModel" "s" "[I") (List.mem_of_getElem? (i := 1) rfl)) (fun _ h9 => h9) rfl dX3_differ_82 ?_
                    refine lv_iload hx hb dX3_differ_85 (lv_at hl 5 rfl) ?_
                    have hPc := hP.sub (ws' := (cwA cI (b 1) tW.1)) [1] rfl
                    have hDc := hD.sub (ws' := (cwA cI (b 1) tW.1)) [1] (by decide) rfl
                    have hFc := va_free (wc := (cwA cI (b 1) tW.1)) hD hS hA [1] rfl
                    refine bd hF (fun r87 hG hF => ?_)
                    refine va_calli (va_runS (As := [.ref (b 1), .int x5]) (rest := []) ⟨hx, hb, hml, hown, hts⟩ (c_X3_isAlive l dC dI cI sf H.size N (b 1) tW.1 x5 r87 hG) (va_cwS 2 hts gX3_differ_X3_isAlive rfl rfl rfl (by decide +kernel) ⟨Nat.le_of_ble_eq_true rfl, Nat.le_of_ble_eq_true rfl⟩) ⟨fun a U g mk q => ⟨q.1, q.2.call⟩, fun U hU hW => ⟨rfl, PB.of hU hW hPc hK hDc hNN hSF hS hFc⟩⟩ rfl rfl hl.1 rfl (lv_room (Nat.le_of_ble_eq_true rfl)) dX3_differ_87 ⟨Nat.le_of_ble_eq_true rfl, Nat.le_of_ble_eq_true rfl⟩) hS (fun q _ h => hFc q h) hFc (fun z_ u_ t H locs ht hvm hw hB hz1 hk1 hS => ?_)
                    subst z_
                    obtain ⟨hP1, hD1⟩ := hB
                    rw [ht] at hP1
                    have hJ := vb_join (ws' := (cwM cI b tW)) hP hD [1] [0, 2, 3, 4, 5, 6, 7, 8, 9] [0, 9, 1, 2, 3, 4, 5, 6, 7, 8] rfl rfl (by decide) (by decide) hk1 hFc hP1 hD1 rfl (by decide) rfl
                    clear hP hD hPc hDc hFc hP1 hD1 hk1 hz1 ht hvm hG
                    obtain ⟨hP, hD⟩ := hJ
                    refine lv_if_eq (tgt := 104) hx hb dX3_differ_90 (by decide) (fun hc => ?_) (fun hc => ?_)
                    · have hF := ift hc hF
                      refine lv_iconst (v := (-1)) hx hb dX3_differ_104 (by decide) ?_
                      exact kJ105 tW x1 x2 x3 x4 x5 (-1) _ _ _ hF hP hD hS (lv_sub hl [0, 1, 2, 3, 4, 5] rfl)
                    · have hF := iff_ hc hF
                      refine lv_aload_n hx hb dX3_differ_93 rfl (lv_at hl 0 rfl) ?_
                      refine lv_iload hx hb dX3_differ_94 (lv_at hl 4 rfl) ?_
                      refine lv_iload hx hb dX3_differ_96 (lv_at hl 5 rfl) ?_
                      have hPc := hP.sub (ws' := (cwM cI b tW)) [0, 1, 2, 3, 4, 5, 6, 7, 8, 9] rfl
                      have hDc := hD.sub (ws' := (cwM cI b tW)) [0, 1, 2, 3, 4, 5, 6, 7, 8, 9] (by decide) rfl
                      have hFc := va_free (wc := (cwM cI b tW)) hD hS hA [0, 1, 2, 3, 4, 5, 6, 7, 8, 9] rfl
                      refine bd hF (fun r98 hG hF => ?_)
                      refine va_calli (va_runV (As := [.int x4, .int x5]) (rest := []) ⟨hx, hb, hml, hown, hts⟩ (c_X3_differing l dC dI cI sf H.size N b tW x4 x5 r98 hG) (cwV 2 hts gX3_differ_X3_differing rfl rfl rfl (by decide +kernel) ⟨Nat.le_of_ble_eq_true rfl, Nat.le_of_ble_eq_true rfl⟩) ⟨fun a U g mk q => ⟨q.1, q.2.call⟩, va_recv hK hP (ci := 3) (q0 := 0) rfl rfl, fun U hU hW => ⟨rfl, PB.of hU hW hPc hK hDc hNN hSF hS hFc⟩⟩ rfl rfl hl.1 rfl (lv_room (Nat.le_of_ble_eq_true rfl)) dX3_differ_98 ⟨Nat.le_of_ble_eq_true rfl, Nat.le_of_ble_eq_true rfl⟩) hS (fun q _ h => hFc q h) hFc (fun z_ u_ t H locs ht hvm hw hB hz1 hk1 hS => ?_)
                      subst z_
                      obtain ⟨hP1, hD1⟩ := hB
                      rw [ht] at hP1
                      have hJ := vb_join (ws' := (cwM cI b tW)) hP hD [0, 1, 2, 3, 4, 5, 6, 7, 8, 9] [] [0, 1, 2, 3, 4, 5, 6, 7, 8, 9] rfl rfl (by decide) (by decide) hk1 hFc hP1 hD1 rfl (by decide) rfl
                      clear hP hD hPc hDc hFc hP1 hD1 hk1 hz1 ht hvm hG
                      obtain ⟨hP, hD⟩ := hJ
                      refine lv_goto (tgt := 105) hx hb dX3_differ_101 (by decide) ?_
                      exact kJ105 tW x1 x2 x3 x4 x5 r98 _ _ _ hF hP hD hS (lv_sub hl [0, 1, 2, 3, 4, 5] rfl)
            refine lv_istore (lv' := [(5, .int (x4 + (nI 1))), (0, .ref (b 0)), (1, .int x1), (2, .int x2), (3, .int x3), (4, .int x4)]) hx hb dX3_differ_56 hl (by decide) rfl (fun ls hl => ?_)
            exact kJ58 N tW x1 x2 x3 x4 (x4 + (nI 1)) _ _ _ hF hP hD hS (lv_sub hl [1, 2, 3, 4, 5, 0] rfl)
      refine lv_istore (lv' := [(4, .int (nI 0)), (3, .int (-1)), (2, .int (-9)), (0, .ref (b 0)), (1, .int p1)]) hx hb dX3_differ_39 hl (by decide) rfl (fun ls hl => ?_)
      exact kJ41 N tW p1 (-9) (-1) (nI 0) _ _ _ hF hP hD hS (lv_sub hl [3, 4, 2, 1, 0] rfl)
    · have hF := iff_ (fun h => h hc) hF
      refine lv_aload_n hx hb dX3_differ_21 rfl (lv_at hl 0 rfl) ?_
      refine lv_aload_n hx hb dX3_differ_22 rfl (lv_at hl 0 rfl) ?_
      refine va_get (D := (dC, dI)) (ci := 3) (v := .ref (b 1)) (C := RX3) (T := TX3) (N := 15) hx hb hts inw_X3_differ_X3 hown hK hP 0 rfl rfl 0 (by decide) (hts (.fieldLink RX3 9 "DeniedOfEachOtherModel" "s" "[I") (List.mem_of_getElem? (i := 1) rfl)) (fun _ h9 => h9) rfl dX3_differ_23 ?_
      have hPc := hP.sub (ws' := (cwA cI (b 1) tW.1)) [1] rfl
      have hDc := hD.sub (ws' := (cwA cI (b 1) tW.1)) [1] (by decide) rfl
      have hFc := va_free (wc := (cwA cI (b 1) tW.1)) hD hS hA [1] rfl
      refine bd hF (fun r26 hG hF => ?_)
      refine va_calli (va_runS (As := [.ref (b 1)]) (rest := [.ref (b 0)]) ⟨hx, hb, hml, hown, hts⟩ (c_X3_livingIn l dC dI cI sf H.size N (b 1) tW.1 r26 hG) (va_cwS 1 hts gX3_differ_X3_livingIn rfl rfl rfl (by decide +kernel) ⟨Nat.le_of_ble_eq_true rfl, Nat.le_of_ble_eq_true rfl⟩) ⟨fun a U g mk q => ⟨q.1, q.2.call⟩, fun U hU hW => ⟨rfl, PB.of hU hW hPc hK hDc hNN hSF hS hFc⟩⟩ rfl rfl hl.1 rfl (lv_room (Nat.le_of_ble_eq_true rfl)) dX3_differ_26 ⟨Nat.le_of_ble_eq_true rfl, Nat.le_of_ble_eq_true rfl⟩) hS (fun q _ h => hFc q h) hFc (fun z_ u_ t H locs ht hvm hw hB hz1 hk1 hS => ?_)
      subst z_
      obtain ⟨hP1, hD1⟩ := hB
      rw [ht] at hP1
      have hJ := vb_join (ws' := (cwM cI b tW)) hP hD [1] [0, 2, 3, 4, 5, 6, 7, 8, 9] [0, 9, 1, 2, 3, 4, 5, 6, 7, 8] rfl rfl (by decide) (by decide) hk1 hFc hP1 hD1 rfl (by decide) rfl
      clear hP hD hPc hDc hFc hP1 hD1 hk1 hz1 ht hvm hG
      obtain ⟨hP, hD⟩ := hJ
      have hPc := hP.sub (ws' := (cwM cI b tW)) [0, 1, 2, 3, 4, 5, 6, 7, 8, 9] rfl
      have hDc := hD.sub (ws' := (cwM cI b tW)) [0, 1, 2, 3, 4, 5, 6, 7, 8, 9] (by decide) rfl
      have hFc := va_free (wc := (cwM cI b tW)) hD hS hA [0, 1, 2, 3, 4, 5, 6, 7, 8, 9] rfl
      refine bd hF (fun r29 hG hF => ?_)
      refine va_calli (va_runV (As := [.int r26]) (rest := []) ⟨hx, hb, hml, hown, hts⟩ (c_X3_pairsOf l dC dI cI sf H.size N b tW r26 r29 hG) (cwV 1 hts gX3_differ_X3_pairsOf rfl rfl rfl (by decide +kernel) ⟨Nat.le_of_ble_eq_true rfl, Nat.le_of_ble_eq_true rfl⟩) ⟨fun a U g mk q => ⟨q.1, q.2.call⟩, va_recv hK hP (ci := 3) (q0 := 0) rfl rfl, fun U hU hW => ⟨rfl, PB.of hU hW hPc hK hDc hNN hSF hS hFc⟩⟩ rfl rfl hl.1 rfl (lv_room (Nat.le_of_ble_eq_true rfl)) dX3_differ_29 ⟨Nat.le_of_ble_eq_true rfl, Nat.le_of_ble_eq_true rfl⟩) hS (fun q _ h => hFc q h) hFc (fun z_ u_ t H locs ht hvm hw hB hz1 hk1 hS => ?_)
      subst z_
      obtain ⟨hP1, hD1⟩ := hB
      rw [ht] at hP1
      have hJ := vb_join (ws' := (cwM cI b tW)) hP hD [0, 1, 2, 3, 4, 5, 6, 7, 8, 9] [] [0, 1, 2, 3, 4, 5, 6, 7, 8, 9] rfl rfl (by decide) (by decide) hk1 hFc hP1 hD1 rfl (by decide) rfl
      clear hP hD hPc hDc hFc hP1 hD1 hk1 hz1 ht hvm hG
      obtain ⟨hP, hD⟩ := hJ
      obtain rfl := Option.some.inj hF
      exact W.iret (v := r29) hx hb hr (fun t ht hW => ⟨⟨r29, (), rfl, rfl, QB.of ht hP hD⟩, hS.F ht⟩) hS.2.2 dX3_differ_32
  · have hF := iff_ (fun h => h hc) hF
    refine lv_aload_n hx hb dX3_differ_9 rfl (lv_at hl 0 rfl) ?_
    refine lv_bipush (v := (-2)) hx hb dX3_differ_10 (by decide) ?_
    have hPc := hP.sub (ws' := (cwM cI b tW)) [0, 1, 2, 3, 4, 5, 6, 7, 8, 9] rfl
    have hDc := hD.sub (ws' := (cwM cI b tW)) [0, 1, 2, 3, 4, 5, 6, 7, 8, 9] (by decide) rfl
    have hFc := va_free (wc := (cwM cI b tW)) hD hS hA [0, 1, 2, 3, 4, 5, 6, 7, 8, 9] rfl
    refine bd hF (fun r12 hG hF => ?_)
    refine va_calli (va_runV (As := [.int (-2)]) (rest := []) ⟨hx, hb, hml, hown, hts⟩ (c_X3_no l dC dI cI sf H.size N b tW (-2) r12 hG) (cwV 1 hts gX3_differ_X3_no rfl rfl rfl (by decide +kernel) ⟨Nat.le_of_ble_eq_true rfl, Nat.le_of_ble_eq_true rfl⟩) ⟨fun a U g mk q => ⟨q.1, q.2.call⟩, va_recv hK hP (ci := 3) (q0 := 0) rfl rfl, fun U hU hW => ⟨rfl, PB.of hU hW hPc hK hDc hNN hSF hS hFc⟩⟩ rfl rfl hl.1 rfl (lv_room (Nat.le_of_ble_eq_true rfl)) dX3_differ_12 ⟨Nat.le_of_ble_eq_true rfl, Nat.le_of_ble_eq_true rfl⟩) hS (fun q _ h => hFc q h) hFc (fun z_ u_ t H locs ht hvm hw hB hz1 hk1 hS => ?_)
    subst z_
    obtain ⟨hP1, hD1⟩ := hB
    rw [ht] at hP1
    have hJ := vb_join (ws' := (cwM cI b r12.2)) hP hD [0, 1, 2, 3, 4, 5, 6, 7, 8, 9] [] [0, 1, 2, 3, 4, 5, 6, 7, 8, 9] rfl rfl (by decide) (by decide) hk1 hFc hP1 hD1 rfl (by decide) rfl
    clear hP hD hPc hDc hFc hP1 hD1 hk1 hz1 ht hvm hG
    obtain ⟨hP, hD⟩ := hJ
    obtain rfl := Option.some.inj hF
    exact W.iret (v := r12.1) hx hb hr (fun t ht hW => ⟨⟨r12.1, (), rfl, rfl, QB.of ht hP hD⟩, hS.F ht⟩) hS.2.2 dX3_differ_15
theorem inw_X3_drawn_X3 : ∀ w ∈ u_ws RX3 TX3 15, w ∈ wsX3_drawn := fun _ h => List.mem_cons_of_mem _ (List.mem_append_right _ h)
set_option maxHeartbeats 4000000 in
set_option maxRecDepth 100000 in
theorem c_X3_drawn (l : Launch) (dC : Nat → ClassId) (dI : Nat → Nat → Nat) (cI : ClassId) (sf : SFP) (sz : Nat) (N : Nat) (b : Nat → Nat) (tW : MS) (p1 : Int32) (r : (Int32 × MS)) (hF : F_X3_drawn N tW p1 = some r) : Met l yX3_drawn wsX3_drawn ({ frames := 0, cells := 0, slots := 0, locals := 0 }) (va_Pc [.ref (b 0), .int p1] (PB (dC, dI) cI (cwM cI b tW) sz sf)) (va_Qi (fun (z : Int32) (_ : Unit) => z = r.1) (fun _ t => QB (dC, dI) (cwM cI b r.2) (va_A (cwM cI b tW) sz) t) (va_A (cwM cI b tW) sz)) 0 0 (va_A (cwM cI b tW) sz) := by
  refine Met.ofW (cc := cX3_drawn) (maxL := 2) (ret := (some .int)) (by decide) rfl ?_
  intro p e s m args below meth c s₁ B hml hv
  obtain ⟨rfl, hsz, hP, hK, hD0, hNN, hSF⟩ := hv
  have hx := B.exec
  have hb := B.bytes
  have hr := B.returns
  have hts := atoms_spec (ws := wsX3_drawn) B.pre
  have hown : s.vm.findClass RX3 = some m.cls := findClass_of_methodNamed B.named
  have hlocks := B.notSynchronized
  subst hsz
  have hD := hD0.self (sz := s.heap.size)
  generalize hAe : va_A (cwM cI b tW) s.heap.size = A at hD hSF ⊢
  have hA : ∀ q : Nat, s.heap.size ≤ q → A q := fun q h => by rw [← hAe]; exact Or.inr h
  clear hAe hD0
  have hS : va_S A s.heap s.heap [] := va_S.rf
  have hl := lv_entry ([.ref (b 0), .int p1]) (n := 2) (Nat.le_of_ble_eq_true rfl)
  rw [lg_entry_eq]
  generalize (lg_sl ([.ref (b 0), .int p1]) ++ List.replicate (2 - (lg_sl ([.ref (b 0), .int p1])).length) Slot.unset).toArray = ls at hl ⊢
  have hl : lv_has ls 2 [(0, .ref (b 0)), (1, .int p1)] := hl
  rw [F_X3_drawn] at hF
  refine lv_aload_n hx hb dX3_drawn_0 rfl (lv_at hl 0 rfl) ?_
  refine lv_aload_n hx hb dX3_drawn_1 rfl (lv_at hl 0 rfl) ?_
  refine va_get (D := (dC, dI)) (ci := 3) (v := .int tW.2.2.2.2.2.2.2.2.2.2.2.2.2.2) (C := RX3) (T := TX3) (N := 15) hx hb hts inw_X3_drawn_X3 hown hK hP 0 rfl rfl 14 (by decide) (hts (.fieldLink RX3 211 "DeniedOfEachOtherModel" "seed" "I") (List.mem_of_getElem? (i := 1) rfl)) (fun _ h9 => h9) rfl dX3_drawn_2 ?_
  refine lv_ldc (v := nI 1664525) hx hb hown (hts (.constant RX3 214 (1664525)) (List.mem_of_getElem? (i := 2) rfl)) dX3_drawn_5 ?_
  refine lv_imul hx hb dX3_drawn_7 ?_
  refine lv_ldc (v := nI 1013904223) hx hb hown (hts (.constant RX3 215 (1013904223)) (List.mem_of_getElem? (i := 3) rfl)) dX3_drawn_8 ?_
  refine lv_iadd hx hb dX3_drawn_10 ?_
  refine lv_topi (fun y11 ey11 => ?_)
  rw [← ey11] at hF
  refine va_put (D := (dC, dI)) (ci := 3) (v := .int y11) (ty := .int) (C := RX3) (T := TX3) (N := 15) hx hb hts inw_X3_drawn_X3 tyX3 tyX3_ok nmX3 hown hK hP hD hS 0 rfl rfl 14 (by decide) (hts (.fieldLink RX3 211 "DeniedOfEachOtherModel" "seed" "I") (List.mem_of_getElem? (i := 1) rfl)) (fun _ h9 => h9) rfl (by decide +kernel) rfl rfl (Nat.le_of_ble_eq_true rfl) dX3_drawn_11 (fun H locs hP hD hS => ?_)
  have hP : va_P (dC, dI) vwCl (cwM cI b (tW.1, tW.2.1, tW.2.2.1, tW.2.2.2.1, tW.2.2.2.2.1, tW.2.2.2.2.2.1, tW.2.2.2.2.2.2.1, tW.2.2.2.2.2.2.2.1, tW.2.2.2.2.2.2.2.2.1, tW.2.2.2.2.2.2.2.2.2.1, tW.2.2.2.2.2.2.2.2.2.2.1, tW.2.2.2.2.2.2.2.2.2.2.2.1, tW.2.2.2.2.2.2.2.2.2.2.2.2.1, tW.2.2.2.2.2.2.2.2.2.2.2.2.2.1, y11)) H := hP
  have hD : va_D A (cwM cI b (tW.1, tW.2.1, tW.2.2.1, tW.2.2.2.1, tW.2.2.2.2.1, tW.2.2.2.2.2.1, tW.2.2.2.2.2.2.1, tW.2.2.2.2.2.2.2.1, tW.2.2.2.2.2.2.2.2.1, tW.2.2.2.2.2.2.2.2.2.1, tW.2.2.2.2.2.2.2.2.2.2.1, tW.2.2.2.2.2.2.2.2.2.2.2.1, tW.2.2.2.2.2.2.2.2.2.2.2.2.1, tW.2.2.2.2.2.2.2.2.2.2.2.2.2.1, y11)) := hD
  refine lv_aload_n hx hb dX3_drawn_14 rfl (lv_at hl 0 rfl) ?_
  refine va_get (D := (dC, dI)) (ci := 3) (v := .int y11) (C := RX3) (T := TX3) (N := 15) hx hb hts inw_X3_drawn_X3 hown hK hP 0 rfl rfl 14 (by decide) (hts (.fieldLink RX3 211 "DeniedOfEachOtherModel" "seed" "I") (List.mem_of_getElem? (i := 1) rfl)) (fun _ h9 => h9) rfl dX3_drawn_15 ?_
  refine lv_ldc (v := nI 2147483647) hx hb hown (hts (.constant RX3 216 (2147483647)) (List.mem_of_getElem? (i := 4) rfl)) dX3_drawn_18 ?_
  refine lv_iand hx hb dX3_drawn_20 ?_
  refine lv_sipush (v := nI 256) hx hb dX3_drawn_21 (by decide) ?_
  refine lv_idiv hx hb dX3_drawn_24 (by decide) ?_
  refine lv_iload_n hx hb dX3_drawn_25 rfl (lv_at hl 1 rfl) ?_
  refine ckz hF (fun hz hF => ?_)
  refine lv_irem hx hb dX3_drawn_26 hz ?_
  refine lv_topi (fun z27 ez27 => ?_)
  rw [← ez27] at hF
  obtain rfl := Option.some.inj hF
  exact W.iret (v := z27) hx hb hr (fun t ht hW => ⟨⟨z27, (), rfl, rfl, QB.of ht hP hD⟩, hS.F ht⟩) hS.2.2 dX3_drawn_27
theorem inw_X3_friends_X3 : ∀ w ∈ u_ws RX3 TX3 15, w ∈ wsX3_friends := fun _ h => List.mem_cons_of_mem _ (List.mem_append_right _ h)
set_option maxHeartbeats 4000000 in
set_option maxRecDepth 100000 in
theorem c_X3_friends (l : Launch) (dC : Nat → ClassId) (dI : Nat → Nat → Nat) (cI : ClassId) (sf : SFP) (sz : Nat) (N : Nat) (b : Nat → Nat) (tW : MS) (p1 : Int32) (r : (Int32 × MS)) (hF : F_X3_friends N tW p1 = some r) : Met l yX3_friends wsX3_friends ({ frames := 2, cells := 0, slots := 0, locals := 45 }) (va_Pc [.ref (b 0), .int p1] (PB (dC, dI) cI (cwM cI b tW) sz sf)) (va_Qi (fun (z : Int32) (_ : Unit) => z = r.1) (fun _ t => QB (dC, dI) (cwM cI b r.2) (va_A (cwM cI b tW) sz) t) (va_A (cwM cI b tW) sz)) 0 0 (va_A (cwM cI b tW) sz) := by
  refine Met.ofW (cc := cX3_friends) (maxL := 4) (ret := (some .int)) (by decide) rfl ?_
  intro p e s m args below meth c s₁ B hml hv
  obtain ⟨rfl, hsz, hP, hK, hD0, hNN, hSF⟩ := hv
  have hx := B.exec
  have hb := B.bytes
  have hr := B.returns
  have hts := atoms_spec (ws := wsX3_friends) B.pre
  have hown : s.vm.findClass RX3 = some m.cls := findClass_of_methodNamed B.named
  have hlocks := B.notSynchronized
  subst hsz
  have hD := hD0.self (sz := s.heap.size)
  generalize hAe : va_A (cwM cI b tW) s.heap.size = A at hD hSF ⊢
  have hA : ∀ q : Nat, s.heap.size ≤ q → A q := fun q h => by rw [← hAe]; exact Or.inr h
  clear hAe hD0
  have hS : va_S A s.heap s.heap [] := va_S.rf
  have hl := lv_entry ([.ref (b 0), .int p1]) (n := 4) (Nat.le_of_ble_eq_true rfl)
  rw [lg_entry_eq]
  generalize (lg_sl ([.ref (b 0), .int p1]) ++ List.replicate (4 - (lg_sl ([.ref (b 0), .int p1])).length) Slot.unset).toArray = ls at hl ⊢
  have hl : lv_has ls 4 [(0, .ref (b 0)), (1, .int p1)] := hl
  rw [F_X3_friends] at hF
  refine lv_aload_n hx hb dX3_friends_0 rfl (lv_at hl 0 rfl) ?_
  refine lv_iload_n hx hb dX3_friends_1 rfl (lv_at hl 1 rfl) ?_
  have hPc := hP.sub (ws' := (cwM cI b tW)) [0, 1, 2, 3, 4, 5, 6, 7, 8, 9] rfl
  have hDc := hD.sub (ws' := (cwM cI b tW)) [0, 1, 2, 3, 4, 5, 6, 7, 8, 9] (by decide) rfl
  have hFc := va_free (wc := (cwM cI b tW)) hD hS hA [0, 1, 2, 3, 4, 5, 6, 7, 8, 9] rfl
  refine bd hF (fun r2 hG hF => ?_)
  refine va_calli (va_runV (As := [.int p1]) (rest := []) ⟨hx, hb, hml, hown, hts⟩ (c_X3_isCitizen l dC dI cI sf s.heap.size N b tW p1 r2 hG) (cwV 1 hts gX3_friends_X3_isCitizen rfl rfl rfl (by decide +kernel) ⟨Nat.le_of_ble_eq_true rfl, Nat.le_of_ble_eq_true rfl⟩) ⟨fun a U g mk q => ⟨q.1, q.2.call⟩, va_recv hK hP (ci := 3) (q0 := 0) rfl rfl, fun U hU hW => ⟨rfl, PB.of hU hW hPc hK hDc hNN hSF hS hFc⟩⟩ rfl rfl hl.1 rfl (lv_room (Nat.le_of_ble_eq_true rfl)) dX3_friends_2 ⟨Nat.le_of_ble_eq_true rfl, Nat.le_of_ble_eq_true rfl⟩) hS (fun q _ h => hFc q h) hFc (fun z_ u_ t H locs ht hvm hw hB hz1 hk1 hS => ?_)
  subst z_
  obtain ⟨hP1, hD1⟩ := hB
  rw [ht] at hP1
  have hJ := vb_join (ws' := (cwM cI b tW)) hP hD [0, 1, 2, 3, 4, 5, 6, 7, 8, 9] [] [0, 1, 2, 3, 4, 5, 6, 7, 8, 9] rfl rfl (by decide) (by decide) hk1 hFc hP1 hD1 rfl (by decide) rfl
  clear hP hD hPc hDc hFc hP1 hD1 hk1 hz1 ht hvm hG
  obtain ⟨hP, hD⟩ := hJ
  refine lv_if_ne (tgt := 14) hx hb dX3_friends_5 (by decide) (fun hc => ?_) (fun hc => ?_)
  · have hF := ift hc hF
    refine lv_aload_n hx hb dX3_friends_14 rfl (lv_at hl 0 rfl) ?_
    refine va_get (D := (dC, dI)) (ci := 3) (v := .ref (b 1)) (C := RX3) (T := TX3) (N := 15) hx hb hts inw_X3_friends_X3 hown hK hP 0 rfl rfl 0 (by decide) (hts (.fieldLink RX3 9 "DeniedOfEachOtherModel" "s" "[I") (List.mem_of_getElem? (i := 1) rfl)) (fun _ h9 => h9) rfl dX3_friends_15 ?_
    refine lv_iload_n hx hb dX3_friends_18 rfl (lv_at hl 1 rfl) ?_
    have hPc := hP.sub (ws' := (cwA cI (b 1) tW.1)) [1] rfl
    have hDc := hD.sub (ws' := (cwA cI (b 1) tW.1)) [1] (by decide) rfl
    have hFc := va_free (wc := (cwA cI (b 1) tW.1)) hD hS hA [1] rfl
    refine bd hF (fun r19 hG hF => ?_)
    refine va_calli (va_runS (As := [.ref (b 1), .int p1]) (rest := []) ⟨hx, hb, hml, hown, hts⟩ (c_X3_isAlive l dC dI cI sf H.size N (b 1) tW.1 p1 r19 hG) (va_cwS 2 hts gX3_friends_X3_isAlive rfl rfl rfl (by decide +kernel) ⟨Nat.le_of_ble_eq_true rfl, Nat.le_of_ble_eq_true rfl⟩) ⟨fun a U g mk q => ⟨q.1, q.2.call⟩, fun U hU hW => ⟨rfl, PB.of hU hW hPc hK hDc hNN hSF hS hFc⟩⟩ rfl rfl hl.1 rfl (lv_room (Nat.le_of_ble_eq_true rfl)) dX3_friends_19 ⟨Nat.le_of_ble_eq_true rfl, Nat.le_of_ble_eq_true rfl⟩) hS (fun q _ h => hFc q h) hFc (fun z_ u_ t H locs ht hvm hw hB hz1 hk1 hS => ?_)
    subst z_
    obtain ⟨hP1, hD1⟩ := hB
    rw [ht] at hP1
    have hJ := vb_join (ws' := (cwM cI b tW)) hP hD [1] [0, 2, 3, 4, 5, 6, 7, 8, 9] [0, 9, 1, 2, 3, 4, 5, 6, 7, 8] rfl rfl (by decide) (by decide) hk1 hFc hP1 hD1 rfl (by decide) rfl
    clear hP hD hPc hDc hFc hP1 hD1 hk1 hz1 ht hvm hG
    obtain ⟨hP, hD⟩ := hJ
    refine lv_if_ne (tgt := 32) hx hb dX3_friends_22 (by decide) (fun hc => ?_) (fun hc => ?_)
    · have hF := ift hc hF
      refine lv_iconst (v := nI 0) hx hb dX3_friends_32 (by decide) ?_
      refine lv_istore_n (lv' := [(2, .int (nI 0)), (0, .ref (b 0)), (1, .int p1)]) hx hb dX3_friends_33 rfl hl (by decide) rfl (fun ls hl => ?_)
      refine lv_iconst (v := nI 0) hx hb dX3_friends_34 (by decide) ?_
      refine vW_have (fun R av Q => ∀ (n36 : Nat) (tW : MS) (x1 : Int32) (x2 : Int32) (x3 : Int32) (H : Heap) (locs : List Loc) (ls : Array Slot), F_X3_friends_36 N n36 tW x1 x2 x3 = some r → va_P (dC, dI) vwCl (cwM cI b tW) H → va_D A (cwM cI b tW) → va_S A s.heap H locs → lv_has ls 4 [(0, .ref (b 0)), (1, .int x1), (2, .int x2), (3, .int x3)] → W p l e R s m av below meth c H locs 0 0 Q (F0 m 36 ls [])) ?_ (fun kJ36 => ?_)
      · intro n36
        induction n36 with
        | zero => intro tW x1 x2 x3 H locs ls hF; exact nn hF
        | succ n36 ih36 =>
          intro tW x1 x2 x3 H locs ls hF hP hD hS hl
          rw [F_X3_friends_36] at hF
          refine lv_iload_n hx hb dX3_friends_36 rfl (lv_at hl 3 rfl) ?_
          refine lv_aload_n hx hb dX3_friends_37 rfl (lv_at hl 0 rfl) ?_
          refine va_get (D := (dC, dI)) (ci := 3) (v := .ref (b 1)) (C := RX3) (T := TX3) (N := 15) hx hb hts inw_X3_friends_X3 hown hK hP 0 rfl rfl 0 (by decide) (hts (.fieldLink RX3 9 "DeniedOfEachOtherModel" "s" "[I") (List.mem_of_getElem? (i := 1) rfl)) (fun _ h9 => h9) rfl dX3_friends_38 ?_
          refine lv_iconst (v := nI 0) hx hb dX3_friends_41 (by decide) ?_
          refine va_iald (D := (dC, dI)) hx hb hK hP 1 0 rfl rfl (vp_in_nI (n := 0) (N := 74) (by decide) (by decide)) dX3_friends_42 ?_
          refine lv_icmp_ge (tgt := 87) hx hb dX3_friends_43 (by decide) (fun hc => ?_) (fun hc => ?_)
          · have hF := ift hc hF
            refine lv_iload_n hx hb dX3_friends_87 rfl (lv_at hl 2 rfl) ?_
            obtain rfl := Option.some.inj hF
            exact W.iret (v := x2) hx hb hr (fun t ht hW => ⟨⟨x2, (), rfl, rfl, QB.of ht hP hD⟩, hS.F ht⟩) hS.2.2 dX3_friends_88
          · have hF := iff_ hc hF
            refine lv_iload_n hx hb dX3_friends_46 rfl (lv_at hl 2 rfl) ?_
            refine lv_iload_n hx hb dX3_friends_47 rfl (lv_at hl 3 rfl) ?_
            refine lv_iload_n hx hb dX3_friends_48 rfl (lv_at hl 1 rfl) ?_
            refine vW_have (fun R av Q => ∀ (tW : MS) (x1 : Int32) (x3 : Int32) (z0 : Int32) (z1 : Int32) (H : Heap) (locs : List Loc) (ls : Array Slot), F_X3_friends_79 N (fun ctW cx1 cx2 cx3 => F_X3_friends_36 N n36 ctW cx1 cx2 cx3) tW x1 x3 z0 z1 = some r → va_P (dC, dI) vwCl (cwM cI b tW) H → va_D A (cwM cI b tW) → va_S A s.heap H locs → lv_has ls 4 [(0, .ref (b 0)), (1, .int x1), (3, .int x3)] → W p l e R s m av below meth c H locs 0 0 Q (F0 m 79 ls [.int z1, .int z0])) ?_ (fun kJ79 => ?_)
            · 
              intro tW x1 x3 z0 z1 H locs ls hF hP hD hS hl
              rw [F_X3_friends_79] at hF
              refine lv_ior hx hb dX3_friends_79 ?_
              refine lv_istore_n (lv' := [(2, .int (z0 ||| z1)), (0, .ref (b 0)), (1, .int x1), (3, .int x3)]) hx hb dX3_friends_80 rfl hl (by decide) rfl (fun ls hl => ?_)
              refine lv_iinc (v := x3 + (nI 1)) (lv' := [(3, .int (x3 + (nI 1))), (2, .int (z0 ||| z1)), (0, .ref (b 0)), (1, .int x1)]) hx hb dX3_friends_81 hl (k := 3) rfl (by rfl) (by decide) rfl (fun ls hl => ?_)
              refine lv_goto (tgt := 36) hx hb dX3_friends_84 (by decide) ?_
              exact ih36 tW x1 (z0 ||| z1) (x3 + (nI 1)) _ _ _ hF hP hD hS (lv_sub hl [2, 3, 1, 0] rfl)
            refine lv_icmp_eq (tgt := 78) hx hb dX3_friends_49 (by decide) (fun hc => ?_) (fun hc => ?_)
            · have hF := ift hc hF
              refine lv_iconst (v := nI 0) hx hb dX3_friends_78 (by decide) ?_
              exact kJ79 tW x1 x3 x2 (nI 0) _ _ _ hF hP hD hS (lv_sub hl [0, 1, 3] rfl)
            · have hF := iff_ hc hF
              refine lv_aload_n hx hb dX3_friends_52 rfl (lv_at hl 0 rfl) ?_
              refine va_get (D := (dC, dI)) (ci := 3) (v := .ref (b 1)) (C := RX3) (T := TX3) (N := 15) hx hb hts inw_X3_friends_X3 hown hK hP 0 rfl rfl 0 (by decide) (hts (.fieldLink RX3 9 "DeniedOfEachOtherModel" "s" "[I") (List.mem_of_getElem? (i := 1) rfl)) (fun _ h9 => h9) rfl dX3_friends_53 ?_
              refine lv_iload_n hx hb dX3_friends_56 rfl (lv_at hl 3 rfl) ?_
              have hPc := hP.sub (ws' := (cwA cI (b 1) tW.1)) [1] rfl
              have hDc := hD.sub (ws' := (cwA cI (b 1) tW.1)) [1] (by decide) rfl
              have hFc := va_free (wc := (cwA cI (b 1) tW.1)) hD hS hA [1] rfl
              refine bd hF (fun r57 hG hF => ?_)
              refine va_calli (va_runS (As := [.ref (b 1), .int x3]) (rest := [.int x2]) ⟨hx, hb, hml, hown, hts⟩ (c_X3_isAlive l dC dI cI sf H.size N (b 1) tW.1 x3 r57 hG) (va_cwS 2 hts gX3_friends_X3_isAlive rfl rfl rfl (by decide +kernel) ⟨Nat.le_of_ble_eq_true rfl, Nat.le_of_ble_eq_true rfl⟩) ⟨fun a U g mk q => ⟨q.1, q.2.call⟩, fun U hU hW => ⟨rfl, PB.of hU hW hPc hK hDc hNN hSF hS hFc⟩⟩ rfl rfl hl.1 rfl (lv_room (Nat.le_of_ble_eq_true rfl)) dX3_friends_57 ⟨Nat.le_of_ble_eq_true rfl, Nat.le_of_ble_eq_true rfl⟩) hS (fun q _ h => hFc q h) hFc (fun z_ u_ t H locs ht hvm hw hB hz1 hk1 hS => ?_)
              subst z_
              obtain ⟨hP1, hD1⟩ := hB
              rw [ht] at hP1
              have hJ := vb_join (ws' := (cwM cI b tW)) hP hD [1] [0, 2, 3, 4, 5, 6, 7, 8, 9] [0, 9, 1, 2, 3, 4, 5, 6, 7, 8] rfl rfl (by decide) (by decide) hk1 hFc hP1 hD1 rfl (by decide) rfl
              clear hP hD hPc hDc hFc hP1 hD1 hk1 hz1 ht hvm hG
              obtain ⟨hP, hD⟩ := hJ
              refine lv_if_eq (tgt := 78) hx hb dX3_friends_60 (by decide) (fun hc => ?_) (fun hc => ?_)
              · have hF := ift hc hF
                refine lv_iconst (v := nI 0) hx hb dX3_friends_78 (by decide) ?_
                exact kJ79 tW x1 x3 x2 (nI 0) _ _ _ hF hP hD hS (lv_sub hl [0, 1, 3] rfl)
              · have hF := iff_ hc hF
                refine lv_aload_n hx hb dX3_friends_63 rfl (lv_at hl 0 rfl) ?_
                refine lv_iload_n hx hb dX3_friends_64 rfl (lv_at hl 1 rfl) ?_
                refine lv_iload_n hx hb dX3_friends_65 rfl (lv_at hl 3 rfl) ?_
                have hPc := hP.sub (ws' := (cwM cI b tW)) [0, 1, 2, 3, 4, 5, 6, 7, 8, 9] rfl
                have hDc := hD.sub (ws' := (cwM cI b tW)) [0, 1, 2, 3, 4, 5, 6, 7, 8, 9] (by decide) rfl
                have hFc := va_free (wc := (cwM cI b tW)) hD hS hA [0, 1, 2, 3, 4, 5, 6, 7, 8, 9] rfl
                refine bd hF (fun r66 hG hF => ?_)
                refine va_calli (va_runV (As := [.int x1, .int x3]) (rest := [.int x2]) ⟨hx, hb, hml, hown, hts⟩ (c_X3_differing l dC dI cI sf H.size N b tW x1 x3 r66 hG) (cwV 2 hts gX3_friends_X3_differing rfl rfl rfl (by decide +kernel) ⟨Nat.le_of_ble_eq_true rfl, Nat.le_of_ble_eq_true rfl⟩) ⟨fun a U g mk q => ⟨q.1, q.2.call⟩, va_recv hK hP (ci := 3) (q0 := 0) rfl rfl, fun U hU hW => ⟨rfl, PB.of hU hW hPc hK hDc hNN hSF hS hFc⟩⟩ rfl rfl hl.1 rfl (lv_room (Nat.le_of_ble_eq_true rfl)) dX3_friends_66 ⟨Nat.le_of_ble_eq_true rfl, Nat.le_of_ble_eq_true rfl⟩) hS (fun q _ h => hFc q h) hFc (fun z_ u_ t H locs ht hvm hw hB hz1 hk1 hS => ?_)
                subst z_
                obtain ⟨hP1, hD1⟩ := hB
                rw [ht] at hP1
                have hJ := vb_join (ws' := (cwM cI b tW)) hP hD [0, 1, 2, 3, 4, 5, 6, 7, 8, 9] [] [0, 1, 2, 3, 4, 5, 6, 7, 8, 9] rfl rfl (by decide) (by decide) hk1 hFc hP1 hD1 rfl (by decide) rfl
                clear hP hD hPc hDc hFc hP1 hD1 hk1 hz1 ht hvm hG
                obtain ⟨hP, hD⟩ := hJ
                refine lv_if_ne (tgt := 78) hx hb dX3_friends_69 (by decide) (fun hc => ?_) (fun hc => ?_)
                · have hF := ift hc hF
                  refine lv_iconst (v := nI 0) hx hb dX3_friends_78 (by decide) ?_
                  exact kJ79 tW x1 x3 x2 (nI 0) _ _ _ hF hP hD hS (lv_sub hl [0, 1, 3] rfl)
                · have hF := iff_ (fun h => h hc) hF
                  refine lv_iconst (v := nI 1) hx hb dX3_friends_72 (by decide) ?_
                  refine lv_iload_n hx hb dX3_friends_73 rfl (lv_at hl 3 rfl) ?_
                  refine lv_ishl hx hb dX3_friends_74 ?_
                  refine lv_goto (tgt := 79) hx hb dX3_friends_75 (by decide) ?_
                  exact kJ79 tW x1 x3 x2 ((nI 1) <<< (x3 &&& 31)) _ _ _ hF hP hD hS (lv_sub hl [0, 1, 3] rfl)
      refine lv_istore_n (lv' := [(3, .int (nI 0)), (2, .int (nI 0)), (0, .ref (b 0)), (1, .int p1)]) hx hb dX3_friends_35 rfl hl (by decide) rfl (fun ls hl => ?_)
      exact kJ36 N tW p1 (nI 0) (nI 0) _ _ _ hF hP hD hS (lv_sub hl [2, 3, 1, 0] rfl)
    · have hF := iff_ (fun h => h hc) hF
      refine lv_aload_n hx hb dX3_friends_25 rfl (lv_at hl 0 rfl) ?_
      refine lv_bipush (v := (-3)) hx hb dX3_friends_26 (by decide) ?_
      have hPc := hP.sub (ws' := (cwM cI b tW)) [0, 1, 2, 3, 4, 5, 6, 7, 8, 9] rfl
      have hDc := hD.sub (ws' := (cwM cI b tW)) [0, 1, 2, 3, 4, 5, 6, 7, 8, 9] (by decide) rfl
      have hFc := va_free (wc := (cwM cI b tW)) hD hS hA [0, 1, 2, 3, 4, 5, 6, 7, 8, 9] rfl
      refine bd hF (fun r28 hG hF => ?_)
      refine va_calli (va_runV (As := [.int (-3)]) (rest := []) ⟨hx, hb, hml, hown, hts⟩ (c_X3_no l dC dI cI sf H.size N b tW (-3) r28 hG) (cwV 1 hts gX3_friends_X3_no rfl rfl rfl (by decide +kernel) ⟨Nat.le_of_ble_eq_true rfl, Nat.le_of_ble_eq_true rfl⟩) ⟨fun a U g mk q => ⟨q.1, q.2.call⟩, va_recv hK hP (ci := 3) (q0 := 0) rfl rfl, fun U hU hW => ⟨rfl, PB.of hU hW hPc hK hDc hNN hSF hS hFc⟩⟩ rfl rfl hl.1 rfl (lv_room (Nat.le_of_ble_eq_true rfl)) dX3_friends_28 ⟨Nat.le_of_ble_eq_true rfl, Nat.le_of_ble_eq_true rfl⟩) hS (fun q _ h => hFc q h) hFc (fun z_ u_ t H locs ht hvm hw hB hz1 hk1 hS => ?_)
      subst z_
      obtain ⟨hP1, hD1⟩ := hB
      rw [ht] at hP1
      have hJ := vb_join (ws' := (cwM cI b r28.2)) hP hD [0, 1, 2, 3, 4, 5, 6, 7, 8, 9] [] [0, 1, 2, 3, 4, 5, 6, 7, 8, 9] rfl rfl (by decide) (by decide) hk1 hFc hP1 hD1 rfl (by decide) rfl
      clear hP hD hPc hDc hFc hP1 hD1 hk1 hz1 ht hvm hG
      obtain ⟨hP, hD⟩ := hJ
      obtain rfl := Option.some.inj hF
      exact W.iret (v := r28.1) hx hb hr (fun t ht hW => ⟨⟨r28.1, (), rfl, rfl, QB.of ht hP hD⟩, hS.F ht⟩) hS.2.2 dX3_friends_31
  · have hF := iff_ (fun h => h hc) hF
    refine lv_aload_n hx hb dX3_friends_8 rfl (lv_at hl 0 rfl) ?_
    refine lv_iconst (v := (-1)) hx hb dX3_friends_9 (by decide) ?_
    have hPc := hP.sub (ws' := (cwM cI b tW)) [0, 1, 2, 3, 4, 5, 6, 7, 8, 9] rfl
    have hDc := hD.sub (ws' := (cwM cI b tW)) [0, 1, 2, 3, 4, 5, 6, 7, 8, 9] (by decide) rfl
    have hFc := va_free (wc := (cwM cI b tW)) hD hS hA [0, 1, 2, 3, 4, 5, 6, 7, 8, 9] rfl
    refine bd hF (fun r10 hG hF => ?_)
    refine va_calli (va_runV (As := [.int (-1)]) (rest := []) ⟨hx, hb, hml, hown, hts⟩ (c_X3_no l dC dI cI sf H.size N b tW (-1) r10 hG) (cwV 1 hts gX3_friends_X3_no rfl rfl rfl (by decide +kernel) ⟨Nat.le_of_ble_eq_true rfl, Nat.le_of_ble_eq_true rfl⟩) ⟨fun a U g mk q => ⟨q.1, q.2.call⟩, va_recv hK hP (ci := 3) (q0 := 0) rfl rfl, fun U hU hW => ⟨rfl, PB.of hU hW hPc hK hDc hNN hSF hS hFc⟩⟩ rfl rfl hl.1 rfl (lv_room (Nat.le_of_ble_eq_true rfl)) dX3_friends_10 ⟨Nat.le_of_ble_eq_true rfl, Nat.le_of_ble_eq_true rfl⟩) hS (fun q _ h => hFc q h) hFc (fun z_ u_ t H locs ht hvm hw hB hz1 hk1 hS => ?_)
    subst z_
    obtain ⟨hP1, hD1⟩ := hB
    rw [ht] at hP1
    have hJ := vb_join (ws' := (cwM cI b r10.2)) hP hD [0, 1, 2, 3, 4, 5, 6, 7, 8, 9] [] [0, 1, 2, 3, 4, 5, 6, 7, 8, 9] rfl rfl (by decide) (by decide) hk1 hFc hP1 hD1 rfl (by decide) rfl
    clear hP hD hPc hDc hFc hP1 hD1 hk1 hz1 ht hvm hG
    obtain ⟨hP, hD⟩ := hJ
    obtain rfl := Option.some.inj hF
    exact W.iret (v := r10.1) hx hb hr (fun t ht hW => ⟨⟨r10.1, (), rfl, rfl, QB.of ht hP hD⟩, hS.F ht⟩) hS.2.2 dX3_friends_13
set_option maxHeartbeats 4000000 in
set_option maxRecDepth 100000 in
theorem c_X3_gcd (l : Launch) (dC : Nat → ClassId) (dI : Nat → Nat → Nat) (cI : ClassId) (sf : SFP) (sz : Nat) (N : Nat) (p0 : Int64) (p2 : Int64) (r : Int64) (hF : F_X3_gcd N p0 p2 = some r) : Met l yX3_gcd wsX3_gcd ({ frames := 0, cells := 0, slots := 0, locals := 0 }) (va_Pc [.long p0, .long p2] (PB (dC, dI) cI ([] : va_W) sz sf)) (va_Ql (fun (z : Int64) (_ : Unit) => z = r) (fun _ t => QB (dC, dI) ([] : va_W) (va_A ([] : va_W) sz) t) (va_A ([] : va_W) sz)) 0 0 (va_A ([] : va_W) sz) := by
  refine Met.ofW (cc := cX3_gcd) (maxL := 10) (ret := (some .long)) (by decide) rfl ?_
  intro p e s m args below meth c s₁ B hml hv
  obtain ⟨rfl, hsz, hP, hK, hD0, hNN, hSF⟩ := hv
  have hx := B.exec
  have hb := B.bytes
  have hr := B.returns
  have hts := atoms_spec (ws := wsX3_gcd) B.pre
  have hown : s.vm.findClass RX3 = some m.cls := findClass_of_methodNamed B.named
  have hlocks := B.notSynchronized
  subst hsz
  have hD := hD0.self (sz := s.heap.size)
  generalize hAe : va_A ([] : va_W) s.heap.size = A at hD hSF ⊢
  have hA : ∀ q : Nat, s.heap.size ≤ q → A q := fun q h => by rw [← hAe]; exact Or.inr h
  clear hAe hD0
  have hS : va_S A s.heap s.heap [] := va_S.rf
  have hl := lv_entry ([.long p0, .long p2]) (n := 10) (Nat.le_of_ble_eq_true rfl)
  rw [lg_entry_eq]
  generalize (lg_sl ([.long p0, .long p2]) ++ List.replicate (10 - (lg_sl ([.long p0, .long p2])).length) Slot.unset).toArray = ls at hl ⊢
  have hl : lv_has ls 10 [(0, .long p0), (2, .long p2)] := hl
  rw [F_X3_gcd] at hF
  refine lv_lload_n hx hb dX3_gcd_0 rfl (lv_at hl 0 rfl) ?_
  refine lv_lstore (lv' := [(4, .long p0), (0, .long p0), (2, .long p2)]) hx hb dX3_gcd_1 hl (by decide) rfl (fun ls hl => ?_)
  refine lv_lload_n hx hb dX3_gcd_3 rfl (lv_at hl 2 rfl) ?_
  refine vW_have (fun R av Q => ∀ (n6 : Nat) (x4 : Int64) (x6 : Int64) (H : Heap) (locs : List Loc) (ls : Array Slot), F_X3_gcd_6 N n6 x4 x6 = some r → va_P (dC, dI) vwCl ([] : va_W) H → va_D A ([] : va_W) → va_S A s.heap H locs → lv_has ls 10 [(4, .long x4), (6, .long x6)] → W p l e R s m av below meth c H locs 0 0 Q (F0 m 6 ls [])) ?_ (fun kJ6 => ?_)
  · intro n6
    induction n6 with
    | zero => intro x4 x6 H locs ls hF; exact nn hF
    | succ n6 ih6 =>
      intro x4 x6 H locs ls hF hP hD hS hl
      rw [F_X3_gcd_6] at hF
      refine lv_lload hx hb dX3_gcd_6 (lv_at hl 1 rfl) ?_
      refine lv_lconst (v := lN 0) hx hb dX3_gcd_8 rfl ?_
      refine W.lcmp hx hb dX3_gcd_9 ?_
      refine lv_if_eq (tgt := 31) hx hb dX3_gcd_10 (by decide) (fun hc => ?_) (fun hc => ?_)
      · have hF := ift hc hF
        refine lv_lload hx hb dX3_gcd_31 (lv_at hl 0 rfl) ?_
        obtain rfl := Option.some.inj hF
        exact W.lret (v := x4) hx hb hr (fun t ht hW => ⟨⟨x4, (), rfl, rfl, QB.of ht hP hD⟩, hS.F ht⟩) hS.2.2 dX3_gcd_33
      · have hF := iff_ hc hF
        refine lv_lload hx hb dX3_gcd_13 (lv_at hl 0 rfl) ?_
        refine lv_lload hx hb dX3_gcd_15 (lv_at hl 1 rfl) ?_
        refine ckl hF (fun hz hF => ?_)
        refine lv_lrem hx hb dX3_gcd_17 hz ?_
        refine lv_lstore (lv' := [(8, .long (x4 - x4 / x6 * x6)), (4, .long x4), (6, .long x6)]) hx hb dX3_gcd_18 hl (by decide) rfl (fun ls hl => ?_)
        refine lv_lload hx hb dX3_gcd_20 (lv_at hl 2 rfl) ?_
        refine lv_lstore (lv' := [(4, .long x6), (8, .long (x4 - x4 / x6 * x6)), (6, .long x6)]) hx hb dX3_gcd_22 hl (by decide) rfl (fun ls hl => ?_)
        refine lv_lload hx hb dX3_gcd_24 (lv_at hl 1 rfl) ?_
        refine lv_lstore (lv' := [(6, .long (x4 - x4 / x6 * x6)), (4, .long x6), (8, .long (x4 - x4 / x6 * x6))]) hx hb dX3_gcd_26 hl (by decide) rfl (fun ls hl => ?_)
        refine lv_goto (tgt := 6) hx hb dX3_gcd_28 (by decide) ?_
        exact ih6 x6 (x4 - x4 / x6 * x6) _ _ _ hF hP hD hS (lv_sub hl [1, 0] rfl)
  refine lv_lstore (lv' := [(6, .long p2), (4, .long p0), (0, .long p0), (2, .long p2)]) hx hb dX3_gcd_4 hl (by decide) rfl (fun ls hl => ?_)
  exact kJ6 N p0 p2 _ _ _ hF hP hD hS (lv_sub hl [1, 0] rfl)
