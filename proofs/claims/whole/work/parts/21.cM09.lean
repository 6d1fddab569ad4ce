theorem inw_X3_still_X3 : ∀ w ∈ u_ws RX3 TX3 15, w ∈ wsX3_still := fun _ h => List.mem_cons_of_mem _ (List.mem_append_right _ h)
set_option maxHeartbeats 4000000 in
set_option maxRecDepth 100000 in
theorem c_X3_still (l : Launch) (dC : Nat → ClassId) (dI : Nat → Nat → Nat) (cI : ClassId) (sf : SFP) (sz : Nat) (N : Nat) (b : Nat → Nat) (tW : MS) (p1 : Int32) (r : (Int32 × MS)) (hF : F_X3_still N tW p1 = some r) : Met l yX3_still wsX3_still ({ frames := 6, cells := 0, slots := 0, locals := 139 }) (va_Pc [.ref (b 0), .int p1] (PB (dC, dI) cI (cwM cI b tW) sz sf)) (va_Qi (fun (z : Int32) (_ : Unit) => z = r.1) (fun _ t => QB (dC, dI) (cwM cI b r.2) (va_A (cwM cI b tW) sz) t) (va_A (cwM cI b tW) sz)) 0 0 (va_A (cwM cI b tW) sz) := by
  refine Met.ofW (cc := cX3_still) (maxL := 3) (ret := (some .int)) (by decide) rfl ?_
  intro p e s m args below meth c s₁ B hml hv
  obtain ⟨rfl, hsz, hP, hK, hD0, hNN, hSF⟩ := hv
  have hx := B.exec
  have hb := B.bytes
  have hr := B.returns
  have hts := atoms_spec (ws := wsX3_still) B.pre
  have hown : s.vm.findClass RX3 = some m.cls := findClass_of_methodNamed B.named
  have hlocks := B.notSynchronized
  subst hsz
  have hD := hD0.self (sz := s.heap.size)
  generalize hAe : va_A (cwM cI b tW) s.heap.size = A at hD hSF ⊢
  have hA : ∀ q : Nat, s.heap.size ≤ q → A q := fun q h => by rw [← hAe]; exact Or.inr h
  clear hAe hD0
  have hS : va_S A s.heap s.heap [] := va_S.rf
  have hl := lv_entry ([.ref (b 0), .int p1]) (n := 3) (Nat.le_of_ble_eq_true rfl)
  rw [lg_entry_eq]
  generalize (lg_sl ([.ref (b 0), .int p1]) ++ List.replicate (3 - (lg_sl ([.ref (b 0), .int p1])).length) Slot.unset).toArray = ls at hl ⊢
  have hl : lv_has ls 3 [(0, .ref (b 0)), (1, .int p1)] := hl
  rw [F_X3_still] at hF
  refine lv_iload_n hx hb dX3_still_0 rfl (lv_at hl 1 rfl) ?_
  refine lv_iconst (v := nI 0) hx hb dX3_still_1 (by decide) ?_
  refine lv_iconst (v := nI 1) hx hb dX3_still_2 (by decide) ?_
  have hPc := hP.sub (ws' := ([] : va_W)) [] rfl
  have hDc := hD.sub (ws' := ([] : va_W)) [] (by decide) rfl
  have hFc := va_free (wc := ([] : va_W)) hD hS hA [] rfl
  refine bd hF (fun r3 hG hF => ?_)
  refine va_calli (va_runS (As := [.int p1, .int (nI 0), .int (nI 1)]) (rest := []) ⟨hx, hb, hml, hown, hts⟩ (c_X3_isIn l dC dI cI sf s.heap.size N  p1 (nI 0) (nI 1) r3 hG) (va_cwS 3 hts gX3_still_X3_isIn rfl rfl rfl (by decide +kernel) ⟨Nat.le_of_ble_eq_true rfl, Nat.le_of_ble_eq_true rfl⟩) ⟨fun a U g mk q => ⟨q.1, q.2.call⟩, fun U hU hW => ⟨rfl, PB.of hU hW hPc hK hDc hNN hSF hS hFc⟩⟩ rfl rfl hl.1 rfl (lv_room (Nat.le_of_ble_eq_true rfl)) dX3_still_3 ⟨Nat.le_of_ble_eq_true rfl, Nat.le_of_ble_eq_true rfl⟩) hS (fun q _ h => hFc q h) hFc (fun z_ u_ t H locs ht hvm hw hB hz1 hk1 hS => ?_)
  subst z_
  obtain ⟨hP1, hD1⟩ := hB
  rw [ht] at hP1
  have hJ := vb_join (ws' := (cwM cI b tW)) hP hD [] [0, 1, 2, 3, 4, 5, 6, 7, 8, 9] [0, 1, 2, 3, 4, 5, 6, 7, 8, 9] rfl rfl (by decide) (by decide) hk1 hFc hP1 hD1 rfl (by decide) rfl
  clear hP hD hPc hDc hFc hP1 hD1 hk1 hz1 ht hvm hG
  obtain ⟨hP, hD⟩ := hJ
  refine lv_if_ne (tgt := 16) hx hb dX3_still_6 (by decide) (fun hc => ?_) (fun hc => ?_)
  · have hF := ift hc hF
    refine lv_aload_n hx hb dX3_still_16 rfl (lv_at hl 0 rfl) ?_
    refine va_get (D := (dC, dI)) (ci := 3) (v := .ref (b 1)) (C := RX3) (T := TX3) (N := 15) hx hb hts inw_X3_still_X3 hown hK hP 0 rfl rfl 0 (by decide) (hts (.fieldLink RX3 9 "DeniedOfEachOtherModel" "s" "[I") (List.mem_of_getElem? (i := 1) rfl)) (fun _ h9 => h9) rfl dX3_still_17 ?_
    refine lv_aload_n hx hb dX3_still_20 rfl (lv_at hl 0 rfl) ?_
    refine va_get (D := (dC, dI)) (ci := 3) (v := .ref (b 2)) (C := RX3) (T := TX3) (N := 15) hx hb hts inw_X3_still_X3 hown hK hP 0 rfl rfl 1 (by decide) (hts (.fieldLink RX3 13 "DeniedOfEachOtherModel" "m" "[I") (List.mem_of_getElem? (i := 2) rfl)) (fun _ h9 => h9) rfl dX3_still_21 ?_
    have hPc := hP.sub (ws' := (cwA cI (b 1) tW.1 ++ cwA cI (b 2) tW.2.1)) [1, 2] rfl
    have hDc := hD.sub (ws' := (cwA cI (b 1) tW.1 ++ cwA cI (b 2) tW.2.1)) [1, 2] (by decide) rfl
    have hFc := va_free (wc := (cwA cI (b 1) tW.1 ++ cwA cI (b 2) tW.2.1)) hD hS hA [1, 2] rfl
    refine bd hF (fun r24 hG hF => ?_)
    refine va_callv (va_runS (As := [.ref (b 1), .ref (b 2)]) (rest := []) ⟨hx, hb, hml, hown, hts⟩ (c_X3_copies l dC dI cI sf H.size N (b 1) (b 2) tW.1 tW.2.1 r24 hG) (va_cwS 2 hts gX3_still_X3_copies rfl rfl rfl (by decide +kernel) ⟨Nat.le_of_ble_eq_true rfl, Nat.le_of_ble_eq_true rfl⟩) ⟨fun a U g mk q => ⟨q.1, q.2.call⟩, fun U hU hW => ⟨rfl, PB.of hU hW hPc hK hDc hNN hSF hS hFc⟩⟩ rfl rfl hl.1 rfl (lv_room (Nat.le_of_ble_eq_true rfl)) dX3_still_24 ⟨Nat.le_of_ble_eq_true rfl, Nat.le_of_ble_eq_true rfl⟩) hS (fun q _ h => hFc q h) hFc (fun u_ t H locs ht hvm hw hB hz1 hk1 hS => ?_)
    obtain ⟨hP1, hD1⟩ := hB
    rw [ht] at hP1
    have hJ := vb_join (ws' := (cwM cI b (tW.1, r24, tW.2.2.1, tW.2.2.2.1, tW.2.2.2.2.1, tW.2.2.2.2.2.1, tW.2.2.2.2.2.2.1, tW.2.2.2.2.2.2.2.1, tW.2.2.2.2.2.2.2.2.1, tW.2.2.2.2.2.2.2.2.2.1, tW.2.2.2.2.2.2.2.2.2.2.1, tW.2.2.2.2.2.2.2.2.2.2.2.1, tW.2.2.2.2.2.2.2.2.2.2.2.2.1, tW.2.2.2.2.2.2.2.2.2.2.2.2.2.1, tW.2.2.2.2.2.2.2.2.2.2.2.2.2.2))) hP hD [1, 2] [0, 3, 4, 5, 6, 7, 8, 9] [0, 8, 9, 1, 2, 3, 4, 5, 6, 7] rfl rfl (by decide) (by decide) hk1 hFc hP1 hD1 rfl (by decide) rfl
    clear hP hD hPc hDc hFc hP1 hD1 hk1 hz1 ht hvm hG
    obtain ⟨hP, hD⟩ := hJ
    refine lv_iload_n hx hb dX3_still_27 rfl (lv_at hl 1 rfl) ?_
    refine lv_iconst (v := nI 1) hx hb dX3_still_28 (by decide) ?_
    refine lv_icmp_ne (tgt := 40) hx hb dX3_still_29 (by decide) (fun hc => ?_) (fun hc => ?_)
    · have hF := ift hc hF
      refine lv_iconst (v := nI 0) hx hb dX3_still_40 (by decide) ?_
      refine vW_have (fun R av Q => ∀ (n42 : Nat) (tW : MS) (x2 : Int32) (H : Heap) (locs : List Loc) (ls : Array Slot), F_X3_still_42 N n42 tW x2 = some r → va_P (dC, dI) vwCl (cwM cI b tW) H → va_D A (cwM cI b tW) → va_S A s.heap H locs → lv_has ls 3 [(0, .ref (b 0)), (2, .int x2)] → W p l e R s m av below meth c H locs 0 0 Q (F0 m 42 ls [])) ?_ (fun kJ42 => ?_)
      · intro n42
        induction n42 with
        | zero => intro tW x2 H locs ls hF; exact nn hF
        | succ n42 ih42 =>
          intro tW x2 H locs ls hF hP hD hS hl
          rw [F_X3_still_42] at hF
          refine lv_iload_n hx hb dX3_still_42 rfl (lv_at hl 1 rfl) ?_
          refine lv_bipush (v := nI 60) hx hb dX3_still_43 (by decide) ?_
          refine lv_icmp_gt (tgt := 66) hx hb dX3_still_45 (by decide) (fun hc => ?_) (fun hc => ?_)
          · have hF := ift hc hF
            refine lv_bipush (v := (-9)) hx hb dX3_still_66 (by decide) ?_
            obtain rfl := Option.some.inj hF
            exact W.iret (v := (-9)) hx hb hr (fun t ht hW => ⟨⟨(-9), (), rfl, rfl, QB.of ht hP hD⟩, hS.F ht⟩) hS.2.2 dX3_still_68
          · have hF := iff_ hc hF
            refine lv_aload_n hx hb dX3_still_48 rfl (lv_at hl 0 rfl) ?_
            refine va_get (D := (dC, dI)) (ci := 3) (v := .ref (b 2)) (C := RX3) (T := TX3) (N := 15) hx hb hts inw_X3_still_X3 hown hK hP 0 rfl rfl 1 (by decide) (hts (.fieldLink RX3 13 "DeniedOfEachOtherModel" "m" "[I") (List.mem_of_getElem? (i := 2) rfl)) (fun _ h9 => h9) rfl dX3_still_49 ?_
            have hPc := hP.sub (ws' := (cwA cI (b 2) tW.2.1)) [2] rfl
            have hDc := hD.sub (ws' := (cwA cI (b 2) tW.2.1)) [2] (by decide) rfl
            have hFc := va_free (wc := (cwA cI (b 2) tW.2.1)) hD hS hA [2] rfl
            refine bd hF (fun r52 hG hF => ?_)
            refine va_calli (va_runS (As := [.ref (b 2)]) (rest := []) ⟨hx, hb, hml, hown, hts⟩ (c_X3_year l dC dI cI sf H.size N (b 2) tW.2.1 r52 hG) (va_cwS 1 hts gX3_still_X3_year rfl rfl rfl (by decide +kernel) ⟨Nat.le_of_ble_eq_true rfl, Nat.le_of_ble_eq_true rfl⟩) ⟨fun a U g mk q => ⟨q.1, q.2.call⟩, fun U hU hW => ⟨rfl, PB.of hU hW hPc hK hDc hNN hSF hS hFc⟩⟩ rfl rfl hl.1 rfl (lv_room (Nat.le_of_ble_eq_true rfl)) dX3_still_52 ⟨Nat.le_of_ble_eq_true rfl, Nat.le_of_ble_eq_true rfl⟩) hS (fun q _ h => hFc q h) hFc (fun z_ u_ t H locs ht hvm hw hB hz1 hk1 hS => ?_)
            subst z_
            obtain ⟨hP1, hD1⟩ := hB
            rw [ht] at hP1
            have hJ := vb_join (ws' := (cwM cI b (tW.1, r52.2, tW.2.2.1, tW.2.2.2.1, tW.2.2.2.2.1, tW.2.2.2.2.2.1, tW.2.2.2.2.2.2.1, tW.2.2.2.2.2.2.2.1, tW.2.2.2.2.2.2.2.2.1, tW.2.2.2.2.2.2.2.2.2.1, tW.2.2.2.2.2.2.2.2.2.2.1, tW.2.2.2.2.2.2.2.2.2.2.2.1, tW.2.2.2.2.2.2.2.2.2.2.2.2.1, tW.2.2.2.2.2.2.2.2.2.2.2.2.2.1, tW.2.2.2.2.2.2.2.2.2.2.2.2.2.2))) hP hD [2] [0, 1, 3, 4, 5, 6, 7, 8, 9] [0, 1, 9, 2, 3, 4, 5, 6, 7, 8] rfl rfl (by decide) (by decide) hk1 hFc hP1 hD1 rfl (by decide) rfl
            clear hP hD hPc hDc hFc hP1 hD1 hk1 hz1 ht hvm hG
            obtain ⟨hP, hD⟩ := hJ
            refine lv_if_eq (tgt := 60) hx hb dX3_still_55 (by decide) (fun hc => ?_) (fun hc => ?_)
            · have hF := ift hc hF
              refine lv_iinc (v := x2 + (nI 1)) (lv' := [(2, .int (x2 + (nI 1))), (0, .ref (b 0))]) hx hb dX3_still_60 hl (k := 1) rfl (by rfl) (by decide) rfl (fun ls hl => ?_)
              refine lv_goto (tgt := 42) hx hb dX3_still_63 (by decide) ?_
              exact ih42 (tW.1, r52.2, tW.2.2.1, tW.2.2.2.1, tW.2.2.2.2.1, tW.2.2.2.2.2.1, tW.2.2.2.2.2.2.1, tW.2.2.2.2.2.2.2.1, tW.2.2.2.2.2.2.2.2.1, tW.2.2.2.2.2.2.2.2.2.1, tW.2.2.2.2.2.2.2.2.2.2.1, tW.2.2.2.2.2.2.2.2.2.2.2.1, tW.2.2.2.2.2.2.2.2.2.2.2.2.1, tW.2.2.2.2.2.2.2.2.2.2.2.2.2.1, tW.2.2.2.2.2.2.2.2.2.2.2.2.2.2) (x2 + (nI 1)) _ _ _ hF hP hD hS (lv_sub hl [1, 0] rfl)
            · have hF := iff_ hc hF
              refine lv_iload_n hx hb dX3_still_58 rfl (lv_at hl 1 rfl) ?_
              obtain rfl := Option.some.inj hF
              exact W.iret (v := x2) hx hb hr (fun t ht hW => ⟨⟨x2, (), rfl, rfl, QB.of ht hP hD⟩, hS.F ht⟩) hS.2.2 dX3_still_59
      refine lv_istore_n (lv' := [(2, .int (nI 0)), (0, .ref (b 0)), (1, .int p1)]) hx hb dX3_still_41 rfl hl (by decide) rfl (fun ls hl => ?_)
      exact kJ42 N (tW.1, r24, tW.2.2.1, tW.2.2.2.1, tW.2.2.2.2.1, tW.2.2.2.2.2.1, tW.2.2.2.2.2.2.1, tW.2.2.2.2.2.2.2.1, tW.2.2.2.2.2.2.2.2.1, tW.2.2.2.2.2.2.2.2.2.1, tW.2.2.2.2.2.2.2.2.2.2.1, tW.2.2.2.2.2.2.2.2.2.2.2.1, tW.2.2.2.2.2.2.2.2.2.2.2.2.1, tW.2.2.2.2.2.2.2.2.2.2.2.2.2.1, tW.2.2.2.2.2.2.2.2.2.2.2.2.2.2) (nI 0) _ _ _ hF hP hD hS (lv_sub hl [1, 0] rfl)
    · have hF := iff_ (fun h => h hc) hF
      refine lv_aload_n hx hb dX3_still_32 rfl (lv_at hl 0 rfl) ?_
      refine lv_sipush (v := nI 255) hx hb dX3_still_33 (by decide) ?_
      have hPc := hP.sub (ws' := (cwM cI b (tW.1, r24, tW.2.2.1, tW.2.2.2.1, tW.2.2.2.2.1, tW.2.2.2.2.2.1, tW.2.2.2.2.2.2.1, tW.2.2.2.2.2.2.2.1, tW.2.2.2.2.2.2.2.2.1, tW.2.2.2.2.2.2.2.2.2.1, tW.2.2.2.2.2.2.2.2.2.2.1, tW.2.2.2.2.2.2.2.2.2.2.2.1, tW.2.2.2.2.2.2.2.2.2.2.2.2.1, tW.2.2.2.2.2.2.2.2.2.2.2.2.2.1, tW.2.2.2.2.2.2.2.2.2.2.2.2.2.2))) [0, 1, 2, 3, 4, 5, 6, 7, 8, 9] rfl
      have hDc := hD.sub (ws' := (cwM cI b (tW.1, r24, tW.2.2.1, tW.2.2.2.1, tW.2.2.2.2.1, tW.2.2.2.2.2.1, tW.2.2.2.2.2.2.1, tW.2.2.2.2.2.2.2.1, tW.2.2.2.2.2.2.2.2.1, tW.2.2.2.2.2.2.2.2.2.1, tW.2.2.2.2.2.2.2.2.2.2.1, tW.2.2.2.2.2.2.2.2.2.2.2.1, tW.2.2.2.2.2.2.2.2.2.2.2.2.1, tW.2.2.2.2.2.2.2.2.2.2.2.2.2.1, tW.2.2.2.2.2.2.2.2.2.2.2.2.2.2))) [0, 1, 2, 3, 4, 5, 6, 7, 8, 9] (by decide) rfl
      have hFc := va_free (wc := (cwM cI b (tW.1, r24, tW.2.2.1, tW.2.2.2.1, tW.2.2.2.2.1, tW.2.2.2.2.2.1, tW.2.2.2.2.2.2.1, tW.2.2.2.2.2.2.2.1, tW.2.2.2.2.2.2.2.2.1, tW.2.2.2.2.2.2.2.2.2.1, tW.2.2.2.2.2.2.2.2.2.2.1, tW.2.2.2.2.2.2.2.2.2.2.2.1, tW.2.2.2.2.2.2.2.2.2.2.2.2.1, tW.2.2.2.2.2.2.2.2.2.2.2.2.2.1, tW.2.2.2.2.2.2.2.2.2.2.2.2.2.2))) hD hS hA [0, 1, 2, 3, 4, 5, 6, 7, 8, 9] rfl
      refine bd hF (fun r36 hG hF => ?_)
      refine va_calli (va_runV (As := [.int (nI 255)]) (rest := []) ⟨hx, hb, hml, hown, hts⟩ (c_X3_lastsIn l dC dI cI sf H.size N b (tW.1, r24, tW.2.2.1, tW.2.2.2.1, tW.2.2.2.2.1, tW.2.2.2.2.2.1, tW.2.2.2.2.2.2.1, tW.2.2.2.2.2.2.2.1, tW.2.2.2.2.2.2.2.2.1, tW.2.2.2.2.2.2.2.2.2.1, tW.2.2.2.2.2.2.2.2.2.2.1, tW.2.2.2.2.2.2.2.2.2.2.2.1, tW.2.2.2.2.2.2.2.2.2.2.2.2.1, tW.2.2.2.2.2.2.2.2.2.2.2.2.2.1, tW.2.2.2.2.2.2.2.2.2.2.2.2.2.2) (nI 255) r36 hG) (cwV 1 hts gX3_still_X3_lastsIn rfl rfl rfl (by decide +kernel) ⟨Nat.le_of_ble_eq_true rfl, Nat.le_of_ble_eq_true rfl⟩) ⟨fun a U g mk q => ⟨q.1, q.2.call⟩, va_recv hK hP (ci := 3) (q0 := 0) rfl rfl, fun U hU hW => ⟨rfl, PB.of hU hW hPc hK hDc hNN hSF hS hFc⟩⟩ rfl rfl hl.1 rfl (lv_room (Nat.le_of_ble_eq_true rfl)) dX3_still_36 ⟨Nat.le_of_ble_eq_true rfl, Nat.le_of_ble_eq_true rfl⟩) hS (fun q _ h => hFc q h) hFc (fun z_ u_ t H locs ht hvm hw hB hz1 hk1 hS => ?_)
      subst z_
      obtain ⟨hP1, hD1⟩ := hB
      rw [ht] at hP1
      have hJ := vb_join (ws' := (cwM cI b r36.2)) hP hD [0, 1, 2, 3, 4, 5, 6, 7, 8, 9] [] [0, 1, 2, 3, 4, 5, 6, 7, 8, 9] rfl rfl (by decide) (by decide) hk1 hFc hP1 hD1 rfl (by decide) rfl
      clear hP hD hPc hDc hFc hP1 hD1 hk1 hz1 ht hvm hG
      obtain ⟨hP, hD⟩ := hJ
      obtain rfl := Option.some.inj hF
      exact W.iret (v := r36.1) hx hb hr (fun t ht hW => ⟨⟨r36.1, (), rfl, rfl, QB.of ht hP hD⟩, hS.F ht⟩) hS.2.2 dX3_still_39
  · have hF := iff_ (fun h => h hc) hF
    refine lv_aload_n hx hb dX3_still_9 rfl (lv_at hl 0 rfl) ?_
    refine lv_bipush (v := (-2)) hx hb dX3_still_10 (by decide) ?_
    have hPc := hP.sub (ws' := (cwM cI b tW)) [0, 1, 2, 3, 4, 5, 6, 7, 8, 9] rfl
    have hDc := hD.sub (ws' := (cwM cI b tW)) [0, 1, 2, 3, 4, 5, 6, 7, 8, 9] (by decide) rfl
    have hFc := va_free (wc := (cwM cI b tW)) hD hS hA [0, 1, 2, 3, 4, 5, 6, 7, 8, 9] rfl
    refine bd hF (fun r12 hG hF => ?_)
    refine va_calli (va_runV (As := [.int (-2)]) (rest := []) ⟨hx, hb, hml, hown, hts⟩ (c_X3_no l dC dI cI sf H.size N b tW (-2) r12 hG) (cwV 1 hts gX3_still_X3_no rfl rfl rfl (by decide +kernel) ⟨Nat.le_of_ble_eq_true rfl, Nat.le_of_ble_eq_true rfl⟩) ⟨fun a U g mk q => ⟨q.1, q.2.call⟩, va_recv hK hP (ci := 3) (q0 := 0) rfl rfl, fun U hU hW => ⟨rfl, PB.of hU hW hPc hK hDc hNN hSF hS hFc⟩⟩ rfl rfl hl.1 rfl (lv_room (Nat.le_of_ble_eq_true rfl)) dX3_still_12 ⟨Nat.le_of_ble_eq_true rfl, Nat.le_of_ble_eq_true rfl⟩) hS (fun q _ h => hFc q h) hFc (fun z_ u_ t H locs ht hvm hw hB hz1 hk1 hS => ?_)
    subst z_
    obtain ⟨hP1, hD1⟩ := hB
    rw [ht] at hP1
    have hJ := vb_join (ws' := (cwM cI b r12.2)) hP hD [0, 1, 2, 3, 4, 5, 6, 7, 8, 9] [] [0, 1, 2, 3, 4, 5, 6, 7, 8, 9] rfl rfl (by decide) (by decide) hk1 hFc hP1 hD1 rfl (by decide) rfl
    clear hP hD hPc hDc hFc hP1 hD1 hk1 hz1 ht hvm hG
    obtain ⟨hP, hD⟩ := hJ
    obtain rfl := Option.some.inj hF
    exact W.iret (v := r12.1) hx hb hr (fun t ht hW => ⟨⟨r12.1, (), rfl, rfl, QB.of ht hP hD⟩, hS.F ht⟩) hS.2.2 dX3_still_15
theorem inw_X3_town_X3 : ∀ w ∈ u_ws RX3 TX3 15, w ∈ wsX3_town := fun _ h => List.mem_cons_of_mem _ (List.mem_append_right _ h)
set_option maxHeartbeats 4000000 in
set_option maxRecDepth 100000 in
theorem c_X3_town (l : Launch) (dC : Nat → ClassId) (dI : Nat → Nat → Nat) (cI : ClassId) (sf : SFP) (sz : Nat) (N : Nat) (b : Nat → Nat) (tW : MS) (r : (Int32 × MS)) (hF : F_X3_town N tW = some r) : Met l yX3_town wsX3_town ({ frames := 7, cells := 0, slots := 0, locals := 163 }) (va_Pc [.ref (b 0)] (PB (dC, dI) cI (cwM cI b tW) sz sf)) (va_Qi (fun (z : Int32) (_ : Unit) => z = r.1) (fun _ t => QB (dC, dI) (cwM cI b r.2) (va_A (cwM cI b tW) sz) t) (va_A (cwM cI b tW) sz)) 0 0 (va_A (cwM cI b tW) sz) := by
  refine Met.ofW (cc := cX3_town) (maxL := 6) (ret := (some .int)) (by decide) rfl ?_
  intro p e s m args below meth c s₁ B hml hv
  obtain ⟨rfl, hsz, hP, hK, hD0, hNN, hSF⟩ := hv
  have hx := B.exec
  have hb := B.bytes
  have hr := B.returns
  have hts := atoms_spec (ws := wsX3_town) B.pre
  have hown : s.vm.findClass RX3 = some m.cls := findClass_of_methodNamed B.named
  have hlocks := B.notSynchronized
  subst hsz
  have hD := hD0.self (sz := s.heap.size)
  generalize hAe : va_A (cwM cI b tW) s.heap.size = A at hD hSF ⊢
  have hA : ∀ q : Nat, s.heap.size ≤ q → A q := fun q h => by rw [← hAe]; exact Or.inr h
  clear hAe hD0
  have hS : va_S A s.heap s.heap [] := va_S.rf
  have hl := lv_entry ([.ref (b 0)]) (n := 6) (Nat.le_of_ble_eq_true rfl)
  rw [lg_entry_eq]
  generalize (lg_sl ([.ref (b 0)]) ++ List.replicate (6 - (lg_sl ([.ref (b 0)])).length) Slot.unset).toArray = ls at hl ⊢
  have hl : lv_has ls 6 [(0, .ref (b 0))] := hl
  rw [F_X3_town] at hF
  refine lv_aload_n hx hb dX3_town_0 rfl (lv_at hl 0 rfl) ?_
  refine lv_iconst (v := nI 0) hx hb dX3_town_1 (by decide) ?_
  refine va_put (D := (dC, dI)) (ci := 3) (v := .int (nI 0)) (ty := .int) (C := RX3) (T := TX3) (N := 15) hx hb hts inw_X3_town_X3 tyX3 tyX3_ok nmX3 hown hK hP hD hS 0 rfl rfl 10 (by decide) (hts (.fieldLink RX3 94 "DeniedOfEachOtherModel" "place" "I") (List.mem_of_getElem? (i := 1) rfl)) (fun _ h9 => h9) rfl (by decide +kernel) rfl rfl (Nat.le_of_ble_eq_true rfl) dX3_town_2 (fun H locs hP hD hS => ?_)
  have hP : va_P (dC, dI) vwCl (cwM cI b (tW.1, tW.2.1, tW.2.2.1, tW.2.2.2.1, tW.2.2.2.2.1, tW.2.2.2.2.2.1, tW.2.2.2.2.2.2.1, tW.2.2.2.2.2.2.2.1, tW.2.2.2.2.2.2.2.2.1, tW.2.2.2.2.2.2.2.2.2.1, (nI 0), tW.2.2.2.2.2.2.2.2.2.2.2.1, tW.2.2.2.2.2.2.2.2.2.2.2.2.1, tW.2.2.2.2.2.2.2.2.2.2.2.2.2.1, tW.2.2.2.2.2.2.2.2.2.2.2.2.2.2)) H := hP
  have hD : va_D A (cwM cI b (tW.1, tW.2.1, tW.2.2.1, tW.2.2.2.1, tW.2.2.2.2.1, tW.2.2.2.2.2.1, tW.2.2.2.2.2.2.1, tW.2.2.2.2.2.2.2.1, tW.2.2.2.2.2.2.2.2.1, tW.2.2.2.2.2.2.2.2.2.1, (nI 0), tW.2.2.2.2.2.2.2.2.2.2.2.1, tW.2.2.2.2.2.2.2.2.2.2.2.2.1, tW.2.2.2.2.2.2.2.2.2.2.2.2.2.1, tW.2.2.2.2.2.2.2.2.2.2.2.2.2.2)) := hD
  refine lv_iconst (v := nI 0) hx hb dX3_town_5 (by decide) ?_
  refine lv_istore_n (lv' := [(1, .int (nI 0)), (0, .ref (b 0))]) hx hb dX3_town_6 rfl hl (by decide) rfl (fun ls hl => ?_)
  refine lv_bipush (v := (-9)) hx hb dX3_town_7 (by decide) ?_
  refine vW_have (fun R av Q => ∀ (n10 : Nat) (tW : MS) (x1 : Int32) (x2 : Int32) (H : Heap) (locs : List Loc) (ls : Array Slot), F_X3_town_10 N n10 tW x1 x2 = some r → va_P (dC, dI) vwCl (cwM cI b tW) H → va_D A (cwM cI b tW) → va_S A s.heap H locs → lv_has ls 6 [(0, .ref (b 0)), (1, .int x1), (2, .int x2)] → W p l e R s m av below meth c H locs 0 0 Q (F0 m 10 ls [])) ?_ (fun kJ10 => ?_)
  · intro n10
    induction n10 with
    | zero => intro tW x1 x2 H locs ls hF; exact nn hF
    | succ n10 ih10 =>
      intro tW x1 x2 H locs ls hF hP hD hS hl
      rw [F_X3_town_10] at hF
      refine lv_aload_n hx hb dX3_town_10 rfl (lv_at hl 0 rfl) ?_
      have hPc := hP.sub (ws' := (cwM cI b tW)) [0, 1, 2, 3, 4, 5, 6, 7, 8, 9] rfl
      have hDc := hD.sub (ws' := (cwM cI b tW)) [0, 1, 2, 3, 4, 5, 6, 7, 8, 9] (by decide) rfl
      have hFc := va_free (wc := (cwM cI b tW)) hD hS hA [0, 1, 2, 3, 4, 5, 6, 7, 8, 9] rfl
      refine bd hF (fun r11 hG hF => ?_)
      refine va_calli (va_runV (As := []) (rest := []) ⟨hx, hb, hml, hown, hts⟩ (c_X3_readsStatement l dC dI cI sf H.size N b tW r11 hG) (cwV 0 hts gX3_town_X3_readsStatement rfl rfl rfl (by decide +kernel) ⟨Nat.le_of_ble_eq_true rfl, Nat.le_of_ble_eq_true rfl⟩) ⟨fun a U g mk q => ⟨q.1, q.2.call⟩, va_recv hK hP (ci := 3) (q0 := 0) rfl rfl, fun U hU hW => ⟨rfl, PB.of hU hW hPc hK hDc hNN hSF hS hFc⟩⟩ rfl rfl hl.1 rfl (lv_room (Nat.le_of_ble_eq_true rfl)) dX3_town_11 ⟨Nat.le_of_ble_eq_true rfl, Nat.le_of_ble_eq_true rfl⟩) hS (fun q _ h => hFc q h) hFc (fun z_ u_ t H locs ht hvm hw hB hz1 hk1 hS => ?_)
      subst z_
      obtain ⟨hP1, hD1⟩ := hB
      rw [ht] at hP1
      have hJ := vb_join (ws' := (cwM cI b r11.2)) hP hD [0, 1, 2, 3, 4, 5, 6, 7, 8, 9] [] [0, 1, 2, 3, 4, 5, 6, 7, 8, 9] rfl rfl (by decide) (by decide) hk1 hFc hP1 hD1 rfl (by decide) rfl
      clear hP hD hPc hDc hFc hP1 hD1 hk1 hz1 ht hvm hG
      obtain ⟨hP, hD⟩ := hJ
      refine vW_have (fun R av Q => ∀ (tW : MS) (x1 : Int32) (x2 : Int32) (H : Heap) (locs : List Loc) (ls : Array Slot), F_X3_town_26 N (fun ctW cx1 cx2 => F_X3_town_10 N n10 ctW cx1 cx2) tW x1 x2 = some r → va_P (dC, dI) vwCl (cwM cI b tW) H → va_D A (cwM cI b tW) → va_S A s.heap H locs → lv_has ls 6 [(0, .ref (b 0)), (1, .int x1), (2, .int x2)] → W p l e R s m av below meth c H locs 0 0 Q (F0 m 26 ls [])) ?_ (fun kJ26 => ?_)
      · 
        intro tW x1 x2 H locs ls hF hP hD hS hl
        rw [F_X3_town_26] at hF
        refine lv_iinc (v := x1 + (nI 1)) (lv' := [(1, .int (x1 + (nI 1))), (0, .ref (b 0)), (2, .int x2)]) hx hb dX3_town_26 hl (k := 1) rfl (by rfl) (by decide) rfl (fun ls hl => ?_)
        refine lv_iload_n hx hb dX3_town_29 rfl (lv_at hl 2 rfl) ?_
        refine lv_bipush (v := (-9)) hx hb dX3_town_30 (by decide) ?_
        refine vW_have (fun R av Q => ∀ (tW : MS) (x1 : Int32) (x2 : Int32) (H : Heap) (locs : List Loc) (ls : Array Slot), F_X3_town_46 N tW x1 x2 = some r → va_P (dC, dI) vwCl (cwM cI b tW) H → va_D A (cwM cI b tW) → va_S A s.heap H locs → lv_has ls 6 [(0, .ref (b 0)), (1, .int x1), (2, .int x2)] → W p l e R s m av below meth c H locs 0 0 Q (F0 m 46 ls [])) ?_ (fun kJ46 => ?_)
        · 
          intro tW x1 x2 H locs ls hF hP hD hS hl
          rw [F_X3_town_46] at hF
          refine lv_aload_n hx hb dX3_town_46 rfl (lv_at hl 0 rfl) ?_
          refine va_get (D := (dC, dI)) (ci := 3) (v := .ref (b 1)) (C := RX3) (T := TX3) (N := 15) hx hb hts inw_X3_town_X3 hown hK hP 0 rfl rfl 0 (by decide) (hts (.fieldLink RX3 9 "DeniedOfEachOtherModel" "s" "[I") (List.mem_of_getElem? (i := 3) rfl)) (fun _ h9 => h9) rfl dX3_town_47 ?_
          refine lv_aload_n hx hb dX3_town_50 rfl (lv_at hl 0 rfl) ?_
          refine va_get (D := (dC, dI)) (ci := 3) (v := .ref (b 4)) (C := RX3) (T := TX3) (N := 15) hx hb hts inw_X3_town_X3 hown hK hP 0 rfl rfl 3 (by decide) (hts (.fieldLink RX3 19 "DeniedOfEachOtherModel" "was" "[I") (List.mem_of_getElem? (i := 4) rfl)) (fun _ h9 => h9) rfl dX3_town_51 ?_
          have hPc := hP.sub (ws' := (cwA cI (b 1) tW.1 ++ cwA cI (b 4) tW.2.2.2.1)) [1, 4] rfl
          have hDc := hD.sub (ws' := (cwA cI (b 1) tW.1 ++ cwA cI (b 4) tW.2.2.2.1)) [1, 4] (by decide) rfl
          have hFc := va_free (wc := (cwA cI (b 1) tW.1 ++ cwA cI (b 4) tW.2.2.2.1)) hD hS hA [1, 4] rfl
          refine bd hF (fun r54 hG hF => ?_)
          refine va_callv (va_runS (As := [.ref (b 1), .ref (b 4)]) (rest := []) ⟨hx, hb, hml, hown, hts⟩ (c_X3_copies l dC dI cI sf H.size N (b 1) (b 4) tW.1 tW.2.2.2.1 r54 hG) (va_cwS 2 hts gX3_town_X3_copies rfl rfl rfl (by decide +kernel) ⟨Nat.le_of_ble_eq_true rfl, Nat.le_of_ble_eq_true rfl⟩) ⟨fun a U g mk q => ⟨q.1, q.2.call⟩, fun U hU hW => ⟨rfl, PB.of hU hW hPc hK hDc hNN hSF hS hFc⟩⟩ rfl rfl hl.1 rfl (lv_room (Nat.le_of_ble_eq_true rfl)) dX3_town_54 ⟨Nat.le_of_ble_eq_true rfl, Nat.le_of_ble_eq_true rfl⟩) hS (fun q _ h => hFc q h) hFc (fun u_ t H locs ht hvm hw hB hz1 hk1 hS => ?_)
          obtain ⟨hP1, hD1⟩ := hB
          rw [ht] at hP1
          have hJ := vb_join (ws' := (cwM cI b (tW.1, tW.2.1, tW.2.2.1, r54, tW.2.2.2.2.1, tW.2.2.2.2.2.1, tW.2.2.2.2.2.2.1, tW.2.2.2.2.2.2.2.1, tW.2.2.2.2.2.2.2.2.1, tW.2.2.2.2.2.2.2.2.2.1, tW.2.2.2.2.2.2.2.2.2.2.1, tW.2.2.2.2.2.2.2.2.2.2.2.1, tW.2.2.2.2.2.2.2.2.2.2.2.2.1, tW.2.2.2.2.2.2.2.2.2.2.2.2.2.1, tW.2.2.2.2.2.2.2.2.2.2.2.2.2.2))) hP hD [1, 4] [0, 2, 3, 5, 6, 7, 8, 9] [0, 8, 1, 2, 9, 3, 4, 5, 6, 7] rfl rfl (by decide) (by decide) hk1 hFc hP1 hD1 rfl (by decide) rfl
          clear hP hD hPc hDc hFc hP1 hD1 hk1 hz1 ht hvm hG
          obtain ⟨hP, hD⟩ := hJ
          refine lv_aload_n hx hb dX3_town_57 rfl (lv_at hl 0 rfl) ?_
          refine lv_iconst (v := nI 0) hx hb dX3_town_58 (by decide) ?_
          refine vW_have (fun R av Q => ∀ (n62 : Nat) (tW : MS) (x1 : Int32) (x2 : Int32) (H : Heap) (locs : List Loc) (ls : Array Slot), F_X3_town_62 N n62 tW x1 x2 = some r → va_P (dC, dI) vwCl (cwM cI b tW) H → va_D A (cwM cI b tW) → va_S A s.heap H locs → lv_has ls 6 [(0, .ref (b 0)), (1, .int x1), (2, .int x2)] → W p l e R s m av below meth c H locs 0 0 Q (F0 m 62 ls [])) ?_ (fun kJ62 => ?_)
          · intro n62
            induction n62 with
            | zero => intro tW x1 x2 H locs ls hF; exact nn hF
            | succ n62 ih62 =>
              intro tW x1 x2 H locs ls hF hP hD hS hl
              rw [F_X3_town_62] at hF
              refine lv_iload_n hx hb dX3_town_62 rfl (lv_at hl 2 rfl) ?_
              refine lv_bipush (v := (-9)) hx hb dX3_town_63 (by decide) ?_
              refine vW_have (fun R av Q => ∀ (tW : MS) (x1 : Int32) (x2 : Int32) (H : Heap) (locs : List Loc) (ls : Array Slot), F_X3_town_128 N tW x1 x2 = some r → va_P (dC, dI) vwCl (cwM cI b tW) H → va_D A (cwM cI b tW) → va_S A s.heap H locs → lv_has ls 6 [(0, .ref (b 0)), (1, .int x1), (2, .int x2)] → W p l e R s m av below meth c H locs 0 0 Q (F0 m 128 ls [])) ?_ (fun kJ128 => ?_)
              · 
                intro tW x1 x2 H locs ls hF hP hD hS hl
                rw [F_X3_town_128] at hF
                refine lv_aload_n hx hb dX3_town_128 rfl (lv_at hl 0 rfl) ?_
                refine lv_iconst (v := nI 0) hx hb dX3_town_129 (by decide) ?_
                refine va_put (D := (dC, dI)) (ci := 3) (v := .int (nI 0)) (ty := .int) (C := RX3) (T := TX3) (N := 15) hx hb hts inw_X3_town_X3 tyX3 tyX3_ok nmX3 hown hK hP hD hS 0 rfl rfl 8 (by decide) (hts (.fieldLink RX3 90 "DeniedOfEachOtherModel" "letterMany" "I") (List.mem_of_getElem? (i := 2) rfl)) (fun _ h9 => h9) rfl (by decide +kernel) rfl rfl (Nat.le_of_ble_eq_true rfl) dX3_town_130 (fun H locs hP hD hS => ?_)
                have hP : va_P (dC, dI) vwCl (cwM cI b (tW.1, tW.2.1, tW.2.2.1, tW.2.2.2.1, tW.2.2.2.2.1, tW.2.2.2.2.2.1, tW.2.2.2.2.2.2.1, tW.2.2.2.2.2.2.2.1, (nI 0), tW.2.2.2.2.2.2.2.2.2.1, tW.2.2.2.2.2.2.2.2.2.2.1, tW.2.2.2.2.2.2.2.2.2.2.2.1, tW.2.2.2.2.2.2.2.2.2.2.2.2.1, tW.2.2.2.2.2.2.2.2.2.2.2.2.2.1, tW.2.2.2.2.2.2.2.2.2.2.2.2.2.2)) H := hP
                have hD : va_D A (cwM cI b (tW.1, tW.2.1, tW.2.2.1, tW.2.2.2.1, tW.2.2.2.2.1, tW.2.2.2.2.2.1, tW.2.2.2.2.2.2.1, tW.2.2.2.2.2.2.2.1, (nI 0), tW.2.2.2.2.2.2.2.2.2.1, tW.2.2.2.2.2.2.2.2.2.2.1, tW.2.2.2.2.2.2.2.2.2.2.2.1, tW.2.2.2.2.2.2.2.2.2.2.2.2.1, tW.2.2.2.2.2.2.2.2.2.2.2.2.2.1, tW.2.2.2.2.2.2.2.2.2.2.2.2.2.2)) := hD
                refine lv_iload_n hx hb dX3_town_133 rfl (lv_at hl 2 rfl) ?_
                refine lv_bipush (v := (-9)) hx hb dX3_town_134 (by decide) ?_
                refine lv_icmp_ne (tgt := 143) hx hb dX3_town_136 (by decide) (fun hc => ?_) (fun hc => ?_)
                · have hF := ift hc hF
                  refine lv_iload_n hx hb dX3_town_143 rfl (lv_at hl 2 rfl) ?_
                  obtain rfl := Option.some.inj hF
                  exact W.iret (v := x2) hx hb hr (fun t ht hW => ⟨⟨x2, (), rfl, rfl, QB.of ht hP hD⟩, hS.F ht⟩) hS.2.2 dX3_town_144
                · have hF := iff_ (fun h => h hc) hF
                  refine lv_iload_n hx hb dX3_town_139 rfl (lv_at hl 1 rfl) ?_
                  refine lv_goto (tgt := 144) hx hb dX3_town_140 (by decide) ?_
                  obtain rfl := Option.some.inj hF
                  exact W.iret (v := x1) hx hb hr (fun t ht hW => ⟨⟨x1, (), rfl, rfl, QB.of ht hP hD⟩, hS.F ht⟩) hS.2.2 dX3_town_144
              refine lv_icmp_ne (tgt := 128) hx hb dX3_town_65 (by decide) (fun hc => ?_) (fun hc => ?_)
              · have hF := ift hc hF
                exact kJ128 tW x1 x2 _ _ _ hF hP hD hS (lv_sub hl [0, 1, 2] rfl)
              · have hF := iff_ (fun h => h hc) hF
                refine lv_aload_n hx hb dX3_town_68 rfl (lv_at hl 0 rfl) ?_
                refine va_get (D := (dC, dI)) (ci := 3) (v := .int tW.2.2.2.2.2.2.2.2.2.2.1) (C := RX3) (T := TX3) (N := 15) hx hb hts inw_X3_town_X3 hown hK hP 0 rfl rfl 10 (by decide) (hts (.fieldLink RX3 94 "DeniedOfEachOtherModel" "place" "I") (List.mem_of_getElem? (i := 1) rfl)) (fun _ h9 => h9) rfl dX3_town_69 ?_
                refine lv_aload_n hx hb dX3_town_72 rfl (lv_at hl 0 rfl) ?_
                refine va_get (D := (dC, dI)) (ci := 3) (v := .int tW.2.2.2.2.2.2.2.2.1) (C := RX3) (T := TX3) (N := 15) hx hb hts inw_X3_town_X3 hown hK hP 0 rfl rfl 8 (by decide) (hts (.fieldLink RX3 90 "DeniedOfEachOtherModel" "letterMany" "I") (List.mem_of_getElem? (i := 2) rfl)) (fun _ h9 => h9) rfl dX3_town_73 ?_
                refine lv_icmp_ge (tgt := 128) hx hb dX3_town_76 (by decide) (fun hc => ?_) (fun hc => ?_)
                · have hF := ift hc hF
                  exact kJ128 tW x1 x2 _ _ _ hF hP hD hS (lv_sub hl [0, 1, 2] rfl)
                · have hF := iff_ hc hF
                  refine lv_aload_n hx hb dX3_town_79 rfl (lv_at hl 0 rfl) ?_
                  refine va_get (D := (dC, dI)) (ci := 3) (v := .int tW.2.2.2.2.2.2.2.2.2.2.1) (C := RX3) (T := TX3) (N := 15) hx hb hts inw_X3_town_X3 hown hK hP 0 rfl rfl 10 (by decide) (hts (.fieldLink RX3 94 "DeniedOfEachOtherModel" "place" "I") (List.mem_of_getElem? (i := 1) rfl)) (fun _ h9 => h9) rfl dX3_town_80 ?_
                  refine lv_istore_n (lv' := [(3, .int tW.2.2.2.2.2.2.2.2.2.2.1), (0, .ref (b 0)), (1, .int x1), (2, .int x2)]) hx hb dX3_town_83 rfl hl (by decide) rfl (fun ls hl => ?_)
                  refine lv_aload_n hx hb dX3_town_84 rfl (lv_at hl 1 rfl) ?_
                  have hPc := hP.sub (ws' := (cwM cI b tW)) [0, 1, 2, 3, 4, 5, 6, 7, 8, 9] rfl
                  have hDc := hD.sub (ws' := (cwM cI b tW)) [0, 1, 2, 3, 4, 5, 6, 7, 8, 9] (by decide) rfl
                  have hFc := va_free (wc := (cwM cI b tW)) hD hS hA [0, 1, 2, 3, 4, 5, 6, 7, 8, 9] rfl
                  refine bd hF (fun r85 hG hF => ?_)
                  refine va_calli (va_runV (As := []) (rest := []) ⟨hx, hb, hml, hown, hts⟩ (c_X3_here l dC dI cI sf H.size N b tW r85 hG) (cwV 0 hts gX3_town_X3_here rfl rfl rfl (by decide +kernel) ⟨Nat.le_of_ble_eq_true rfl, Nat.le_of_ble_eq_true rfl⟩) ⟨fun a U g mk q => ⟨q.1, q.2.call⟩, va_recv hK hP (ci := 3) (q0 := 0) rfl rfl, fun U hU hW => ⟨rfl, PB.of hU hW hPc hK hDc hNN hSF hS hFc⟩⟩ rfl rfl hl.1 rfl (lv_room (Nat.le_of_ble_eq_true rfl)) dX3_town_85 ⟨Nat.le_of_ble_eq_true rfl, Nat.le_of_ble_eq_true rfl⟩) hS (fun q _ h => hFc q h) hFc (fun z_ u_ t H locs ht hvm hw hB hz1 hk1 hS => ?_)
                  subst z_
                  obtain ⟨hP1, hD1⟩ := hB
                  rw [ht] at hP1
                  have hJ := vb_join (ws' := (cwM cI b tW)) hP hD [0, 1, 2, 3, 4, 5, 6, 7, 8, 9] [] [0, 1, 2, 3, 4, 5, 6, 7, 8, 9] rfl rfl (by decide) (by decide) hk1 hFc hP1 hD1 rfl (by decide) rfl
                  clear hP hD hPc hDc hFc hP1 hD1 hk1 hz1 ht hvm hG
                  obtain ⟨hP, hD⟩ := hJ
                  refine lv_istore (lv' := [(4, .int r85), (3, .int tW.2.2.2.2.2.2.2.2.2.2.1), (0, .ref (b 0)), (1, .int x1), (2, .int x2)]) hx hb dX3_town_88 hl (by decide) rfl (fun ls hl => ?_)
                  refine lv_aload_n hx hb dX3_town_90 rfl (lv_at hl 2 rfl) ?_
                  have hPc := hP.sub (ws' := (cwM cI b tW)) [0, 1, 2, 3, 4, 5, 6, 7, 8, 9] rfl
                  have hDc := hD.sub (ws' := (cwM cI b tW)) [0, 1, 2, 3, 4, 5, 6, 7, 8, 9] (by decide) rfl
                  have hFc := va_free (wc := (cwM cI b tW)) hD hS hA [0, 1, 2, 3, 4, 5, 6, 7, 8, 9] rfl
                  refine bd hF (fun r91 hG hF => ?_)
                  refine va_calli (va_runV (As := []) (rest := []) ⟨hx, hb, hml, hown, hts⟩ (c_X3_readsStatement l dC dI cI sf H.size N b tW r91 hG) (cwV 0 hts gX3_town_X3_readsStatement rfl rfl rfl (by decide +kernel) ⟨Nat.le_of_ble_eq_true rfl, Nat.le_of_ble_eq_true rfl⟩) ⟨fun a U g mk q => ⟨q.1, q.2.call⟩, va_recv hK hP (ci := 3) (q0 := 0) rfl rfl, fun U hU hW => ⟨rfl, PB.of hU hW hPc hK hDc hNN hSF hS hFc⟩⟩ rfl rfl hl.1 rfl (lv_room (Nat.le_of_ble_eq_true rfl)) dX3_town_91 ⟨Nat.le_of_ble_eq_true rfl, Nat.le_of_ble_eq_true rfl⟩) hS (fun q _ h => hFc q h) hFc (fun z_ u_ t H locs ht hvm hw hB hz1 hk1 hS => ?_)
                  subst z_
                  obtain ⟨hP1, hD1⟩ := hB
                  rw [ht] at hP1
                  have hJ := vb_join (ws' := (cwM cI b r91.2)) hP hD [0, 1, 2, 3, 4, 5, 6, 7, 8, 9] [] [0, 1, 2, 3, 4, 5, 6, 7, 8, 9] rfl rfl (by decide) (by decide) hk1 hFc hP1 hD1 rfl (by decide) rfl
                  clear hP hD hPc hDc hFc hP1 hD1 hk1 hz1 ht hvm hG
                  obtain ⟨hP, hD⟩ := hJ
                  refine lv_istore (lv' := [(5, .int r91.1), (4, .int r85), (3, .int tW.2.2.2.2.2.2.2.2.2.2.1), (0, .ref (b 0)), (1, .int x1), (2, .int x2)]) hx hb dX3_town_94 hl (by decide) rfl (fun ls hl => ?_)
                  refine lv_aload_n hx hb dX3_town_96 rfl (lv_at hl 3 rfl) ?_
                  refine lv_iload hx hb dX3_town_97 (lv_at hl 1 rfl) ?_
                  have hPc := hP.sub (ws' := (cwM cI b r91.2)) [0, 1, 2, 3, 4, 5, 6, 7, 8, 9] rfl
                  have hDc := hD.sub (ws' := (cwM cI b r91.2)) [0, 1, 2, 3, 4, 5, 6, 7, 8, 9] (by decide) rfl
                  have hFc := va_free (wc := (cwM cI b r91.2)) hD hS hA [0, 1, 2, 3, 4, 5, 6, 7, 8, 9] rfl
                  refine bd hF (fun r99 hG hF => ?_)
                  refine va_calli (va_runV (As := [.int r85]) (rest := []) ⟨hx, hb, hml, hown, hts⟩ (c_X3_isDone l dC dI cI sf H.size N b r91.2 r85 r99 hG) (cwV 1 hts gX3_town_X3_isDone rfl rfl rfl (by decide +kernel) ⟨Nat.le_of_ble_eq_true rfl, Nat.le_of_ble_eq_true rfl⟩) ⟨fun a U g mk q => ⟨q.1, q.2.call⟩, va_recv hK hP (ci := 3) (q0 := 0) rfl rfl, fun U hU hW => ⟨rfl, PB.of hU hW hPc hK hDc hNN hSF hS hFc⟩⟩ rfl rfl hl.1 rfl (lv_room (Nat.le_of_ble_eq_true rfl)) dX3_town_99 ⟨Nat.le_of_ble_eq_true rfl, Nat.le_of_ble_eq_true rfl⟩) hS (fun q _ h => hFc q h) hFc (fun z_ u_ t H locs ht hvm hw hB hz1 hk1 hS => ?_)
                  subst z_
                  obtain ⟨hP1, hD1⟩ := hB
                  rw [ht] at hP1
                  have hJ := vb_join (ws' := (cwM cI b r99.2)) hP hD [0, 1, 2, 3, 4, 5, 6, 7, 8, 9] [] [0, 1, 2, 3, 4, 5, 6, 7, 8, 9] rfl rfl (by decide) (by decide) hk1 hFc hP1 hD1 rfl (by decide) rfl
                  clear hP hD hPc hDc hFc hP1 hD1 hk1 hz1 ht hvm hG
                  obtain ⟨hP, hD⟩ := hJ
                  refine lv_if_eq (tgt := 108) hx hb dX3_town_102 (by decide) (fun hc => ?_) (fun hc => ?_)
                  · have hF := ift hc hF
                    refine lv_sipush (v := (-2000)) hx hb dX3_town_108 (by decide) ?_
                    refine lv_iload_n hx hb dX3_town_111 rfl (lv_at hl 2 rfl) ?_
                    refine lv_isub hx hb dX3_town_112 ?_
                    refine lv_istore_n (lv' := [(2, .int ((-2000) - tW.2.2.2.2.2.2.2.2.2.2.1)), (5, .int r91.1), (4, .int r85), (3, .int tW.2.2.2.2.2.2.2.2.2.2.1), (0, .ref (b 0)), (1, .int x1)]) hx hb dX3_town_113 rfl hl (by decide) rfl (fun ls hl => ?_)
                    refine lv_aload_n hx hb dX3_town_114 rfl (lv_at hl 4 rfl) ?_
                    refine va_get (D := (dC, dI)) (ci := 3) (v := .ref (b 4)) (C := RX3) (T := TX3) (N := 15) hx hb hts inw_X3_town_X3 hown hK hP 0 rfl rfl 3 (by decide) (hts (.fieldLink RX3 19 "DeniedOfEachOtherModel" "was" "[I") (List.mem_of_getElem? (i := 4) rfl)) (fun _ h9 => h9) rfl dX3_town_115 ?_
                    refine lv_aload_n hx hb dX3_town_118 rfl (lv_at hl 4 rfl) ?_
                    refine va_get (D := (dC, dI)) (ci := 3) (v := .ref (b 1)) (C := RX3) (T := TX3) (N := 15) hx hb hts inw_X3_town_X3 hown hK hP 0 rfl rfl 0 (by decide) (hts (.fieldLink RX3 9 "DeniedOfEachOtherModel" "s" "[I") (List.mem_of_getElem? (i := 3) rfl)) (fun _ h9 => h9) rfl dX3_town_119 ?_
                    have hPc := hP.sub (ws' := (cwA cI (b 4) r99.2.2.2.2.1 ++ cwA cI (b 1) r99.2.1)) [4, 1] rfl
                    have hDc := hD.sub (ws' := (cwA cI (b 4) r99.2.2.2.2.1 ++ cwA cI (b 1) r99.2.1)) [4, 1] (by decide) rfl
                    have hFc := va_free (wc := (cwA cI (b 4) r99.2.2.2.2.1 ++ cwA cI (b 1) r99.2.1)) hD hS hA [4, 1] rfl
                    refine bd hF (fun r122 hG hF => ?_)
                    refine va_callv (va_runS (As := [.ref (b 4), .ref (b 1)]) (rest := []) ⟨hx, hb, hml, hown, hts⟩ (c_X3_copies l dC dI cI sf H.size N (b 4) (b 1) r99.2.2.2.2.1 r99.2.1 r122 hG) (va_cwS 2 hts gX3_town_X3_copies rfl rfl rfl (by decide +kernel) ⟨Nat.le_of_ble_eq_true rfl, Nat.le_of_ble_eq_true rfl⟩) ⟨fun a U g mk q => ⟨q.1, q.2.call⟩, fun U hU hW => ⟨rfl, PB.of hU hW hPc hK hDc hNN hSF hS hFc⟩⟩ rfl rfl hl.1 rfl (lv_room (Nat.le_of_ble_eq_true rfl)) dX3_town_122 ⟨Nat.le_of_ble_eq_true rfl, Nat.le_of_ble_eq_true rfl⟩) hS (fun q _ h => hFc q h) hFc (fun u_ t H locs ht hvm hw hB hz1 hk1 hS => ?_)
                    obtain ⟨hP1, hD1⟩ := hB
                    rw [ht] at hP1
                    have hJ := vb_join (ws' := (cwM cI b (r122, r99.2.2.1, r99.2.2.2.1, r99.2.2.2.2.1, r99.2.2.2.2.2.1, r99.2.2.2.2.2.2.1, r99.2.2.2.2.2.2.2.1, r99.2.2.2.2.2.2.2.2.1, r99.2.2.2.2.2.2.2.2.2.1, r99.2.2.2.2.2.2.2.2.2.2.1, r99.2.2.2.2.2.2.2.2.2.2.2.1, r99.2.2.2.2.2.2.2.2.2.2.2.2.1, r99.2.2.2.2.2.2.2.2.2.2.2.2.2.1, r99.2.2.2.2.2.2.2.2.2.2.2.2.2.2.1, r99.2.2.2.2.2.2.2.2.2.2.2.2.2.2.2))) hP hD [4, 1] [0, 2, 3, 5, 6, 7, 8, 9] [0, 9, 1, 2, 8, 3, 4, 5, 6, 7] rfl rfl (by decide) (by decide) hk1 hFc hP1 hD1 rfl (by decide) rfl
                    clear hP hD hPc hDc hFc hP1 hD1 hk1 hz1 ht hvm hG
                    obtain ⟨hP, hD⟩ := hJ
                    refine lv_goto (tgt := 62) hx hb dX3_town_125 (by decide) ?_
                    exact ih62 (r122, r99.2.2.1, r99.2.2.2.1, r99.2.2.2.2.1, r99.2.2.2.2.2.1, r99.2.2.2.2.2.2.1, r99.2.2.2.2.2.2.2.1, r99.2.2.2.2.2.2.2.2.1, r99.2.2.2.2.2.2.2.2.2.1, r99.2.2.2.2.2.2.2.2.2.2.1, r99.2.2.2.2.2.2.2.2.2.2.2.1, r99.2.2.2.2.2.2.2.2.2.2.2.2.1, r99.2.2.2.2.2.2.2.2.2.2.2.2.2.1, r99.2.2.2.2.2.2.2.2.2.2.2.2.2.2.1, r99.2.2.2.2.2.2.2.2.2.2.2.2.2.2.2) x1 ((-2000) - tW.2.2.2.2.2.2.2.2.2.2.1) _ _ _ hF hP hD hS (lv_sub hl [4, 5, 0] rfl)
                  · have hF := iff_ hc hF
                    refine lv_goto (tgt := 62) hx hb dX3_town_105 (by decide) ?_
                    exact ih62 r99.2 x1 x2 _ _ _ hF hP hD hS (lv_sub hl [3, 4, 5] rfl)
          refine va_put (D := (dC, dI)) (ci := 3) (v := .int (nI 0)) (ty := .int) (C := RX3) (T := TX3) (N := 15) hx hb hts inw_X3_town_X3 tyX3 tyX3_ok nmX3 hown hK hP hD hS 0 rfl rfl 10 (by decide) (hts (.fieldLink RX3 94 "DeniedOfEachOtherModel" "place" "I") (List.mem_of_getElem? (i := 1) rfl)) (fun _ h9 => h9) rfl (by decide +kernel) rfl rfl (Nat.le_of_ble_eq_true rfl) dX3_town_59 (fun H locs hP hD hS => ?_)
          have hP : va_P (dC, dI) vwCl (cwM cI b (tW.1, tW.2.1, tW.2.2.1, r54, tW.2.2.2.2.1, tW.2.2.2.2.2.1, tW.2.2.2.2.2.2.1, tW.2.2.2.2.2.2.2.1, tW.2.2.2.2.2.2.2.2.1, tW.2.2.2.2.2.2.2.2.2.1, (nI 0), tW.2.2.2.2.2.2.2.2.2.2.2.1, tW.2.2.2.2.2.2.2.2.2.2.2.2.1, tW.2.2.2.2.2.2.2.2.2.2.2.2.2.1, tW.2.2.2.2.2.2.2.2.2.2.2.2.2.2)) H := hP
          have hD : va_D A (cwM cI b (tW.1, tW.2.1, tW.2.2.1, r54, tW.2.2.2.2.1, tW.2.2.2.2.2.1, tW.2.2.2.2.2.2.1, tW.2.2.2.2.2.2.2.1, tW.2.2.2.2.2.2.2.2.1, tW.2.2.2.2.2.2.2.2.2.1, (nI 0), tW.2.2.2.2.2.2.2.2.2.2.2.1, tW.2.2.2.2.2.2.2.2.2.2.2.2.1, tW.2.2.2.2.2.2.2.2.2.2.2.2.2.1, tW.2.2.2.2.2.2.2.2.2.2.2.2.2.2)) := hD
          exact kJ62 N (tW.1, tW.2.1, tW.2.2.1, r54, tW.2.2.2.2.1, tW.2.2.2.2.2.1, tW.2.2.2.2.2.2.1, tW.2.2.2.2.2.2.2.1, tW.2.2.2.2.2.2.2.2.1, tW.2.2.2.2.2.2.2.2.2.1, (nI 0), tW.2.2.2.2.2.2.2.2.2.2.2.1, tW.2.2.2.2.2.2.2.2.2.2.2.2.1, tW.2.2.2.2.2.2.2.2.2.2.2.2.2.1, tW.2.2.2.2.2.2.2.2.2.2.2.2.2.2) x1 x2 _ _ _ hF hP hD hS (lv_sub hl [0, 1, 2] rfl)
        refine lv_icmp_ne (tgt := 46) hx hb dX3_town_32 (by decide) (fun hc => ?_) (fun hc => ?_)
        · have hF := ift hc hF
          exact kJ46 tW (x1 + (nI 1)) x2 _ _ _ hF hP hD hS (lv_sub hl [1, 0, 2] rfl)
        · have hF := iff_ (fun h => h hc) hF
          refine lv_aload_n hx hb dX3_town_35 rfl (lv_at hl 1 rfl) ?_
          refine va_get (D := (dC, dI)) (ci := 3) (v := .int tW.2.2.2.2.2.2.2.2.2.2.1) (C := RX3) (T := TX3) (N := 15) hx hb hts inw_X3_town_X3 hown hK hP 0 rfl rfl 10 (by decide) (hts (.fieldLink RX3 94 "DeniedOfEachOtherModel" "place" "I") (List.mem_of_getElem? (i := 1) rfl)) (fun _ h9 => h9) rfl dX3_town_36 ?_
          refine lv_aload_n hx hb dX3_town_39 rfl (lv_at hl 1 rfl) ?_
          refine va_get (D := (dC, dI)) (ci := 3) (v := .int tW.2.2.2.2.2.2.2.2.1) (C := RX3) (T := TX3) (N := 15) hx hb hts inw_X3_town_X3 hown hK hP 0 rfl rfl 8 (by decide) (hts (.fieldLink RX3 90 "DeniedOfEachOtherModel" "letterMany" "I") (List.mem_of_getElem? (i := 2) rfl)) (fun _ h9 => h9) rfl dX3_town_40 ?_
          refine lv_icmp_lt (tgt := 10) hx hb dX3_town_43 (by decide) (fun hc => ?_) (fun hc => ?_)
          · have hF := ift hc hF
            exact ih10 tW (x1 + (nI 1)) x2 _ _ _ hF hP hD hS (lv_sub hl [1, 0, 2] rfl)
          · have hF := iff_ hc hF
            exact kJ46 tW (x1 + (nI 1)) x2 _ _ _ hF hP hD hS (lv_sub hl [1, 0, 2] rfl)
      refine lv_if_ne (tgt := 26) hx hb dX3_town_14 (by decide) (fun hc => ?_) (fun hc => ?_)
      · have hF := ift hc hF
        exact kJ26 r11.2 x1 x2 _ _ _ hF hP hD hS (lv_sub hl [0, 1, 2] rfl)
      · have hF := iff_ (fun h => h hc) hF
        refine lv_sipush (v := (-1000)) hx hb dX3_town_17 (by decide) ?_
        refine lv_aload_n hx hb dX3_town_20 rfl (lv_at hl 0 rfl) ?_
        refine va_get (D := (dC, dI)) (ci := 3) (v := .int r11.2.2.2.2.2.2.2.2.2.2.2.1) (C := RX3) (T := TX3) (N := 15) hx hb hts inw_X3_town_X3 hown hK hP 0 rfl rfl 10 (by decide) (hts (.fieldLink RX3 94 "DeniedOfEachOtherModel" "place" "I") (List.mem_of_getElem? (i := 1) rfl)) (fun _ h9 => h9) rfl dX3_town_21 ?_
        refine lv_isub hx hb dX3_town_24 ?_
        refine lv_istore_n (lv' := [(2, .int ((-1000) - r11.2.2.2.2.2.2.2.2.2.2.2.1)), (0, .ref (b 0)), (1, .int x1)]) hx hb dX3_town_25 rfl hl (by decide) rfl (fun ls hl => ?_)
        exact kJ26 r11.2 x1 ((-1000) - r11.2.2.2.2.2.2.2.2.2.2.2.1) _ _ _ hF hP hD hS (lv_sub hl [1, 2, 0] rfl)
  refine lv_istore_n (lv' := [(2, .int (-9)), (1, .int (nI 0)), (0, .ref (b 0))]) hx hb dX3_town_9 rfl hl (by decide) rfl (fun ls hl => ?_)
  exact kJ10 N (tW.1, tW.2.1, tW.2.2.1, tW.2.2.2.1, tW.2.2.2.2.1, tW.2.2.2.2.2.1, tW.2.2.2.2.2.2.1, tW.2.2.2.2.2.2.2.1, tW.2.2.2.2.2.2.2.2.1, tW.2.2.2.2.2.2.2.2.2.1, (nI 0), tW.2.2.2.2.2.2.2.2.2.2.2.1, tW.2.2.2.2.2.2.2.2.2.2.2.2.1, tW.2.2.2.2.2.2.2.2.2.2.2.2.2.1, tW.2.2.2.2.2.2.2.2.2.2.2.2.2.2) (nI 0) (-9) _ _ _ hF hP hD hS (lv_sub hl [2, 1, 0] rfl)
theorem inw_X3_turn_X3 : ∀ w ∈ u_ws RX3 TX3 15, w ∈ wsX3_turn := fun _ h => List.mem_cons_of_mem _ (List.mem_append_right _ h)
set_option maxHeartbeats 4000000 in
set_option maxRecDepth 100000 in
theorem c_X3_turn (l : Launch) (dC : Nat → ClassId) (dI : Nat → Nat → Nat) (cI : ClassId) (sf : SFP) (sz : Nat) (N : Nat) (b : Nat → Nat) (tW : MS) (p1 : Int32) (p2 : Int32) (p3 : Int32) (r : (Int32 × MS)) (hF : F_X3_turn N tW p1 p2 p3 = some r) : Met l yX3_turn wsX3_turn ({ frames := 2, cells := 0, slots := 0, locals := 43 }) (va_Pc [.ref (b 0), .int p1, .int p2, .int p3] (PB (dC, dI) cI (cwM cI b tW) sz sf)) (va_Qi (fun (z : Int32) (_ : Unit) => z = r.1) (fun _ t => QB (dC, dI) (cwM cI b r.2) (va_A (cwM cI b tW) sz) t) (va_A (cwM cI b tW) sz)) 0 0 (va_A (cwM cI b tW) sz) := by
  refine Met.ofW (cc := cX3_turn) (maxL := 6) (ret := (some .int)) (by decide) rfl ?_
  intro p e s m args below meth c s₁ B hml hv
  obtain ⟨rfl, hsz, hP, hK, hD0, hNN, hSF⟩ := hv
  have hx := B.exec
  have hb := B.bytes
  have hr := B.returns
  have hts := atoms_spec (ws := wsX3_turn) B.pre
  have hown : s.vm.findClass RX3 = some m.cls := findClass_of_methodNamed B.named
  have hlocks := B.notSynchronized
  subst hsz
  have hD := hD0.self (sz := s.heap.size)
  generalize hAe : va_A (cwM cI b tW) s.heap.size = A at hD hSF ⊢
  have hA : ∀ q : Nat, s.heap.size ≤ q → A q := fun q h => by rw [← hAe]; exact Or.inr h
  clear hAe hD0
  have hS : va_S A s.heap s.heap [] := va_S.rf
  have hl := lv_entry ([.ref (b 0), .int p1, .int p2, .int p3]) (n := 6) (Nat.le_of_ble_eq_true rfl)
  rw [lg_entry_eq]
  generalize (lg_sl ([.ref (b 0), .int p1, .int p2, .int p3]) ++ List.replicate (6 - (lg_sl ([.ref (b 0), .int p1, .int p2, .int p3])).length) Slot.unset).toArray = ls at hl ⊢
  have hl : lv_has ls 6 [(0, .ref (b 0)), (1, .int p1), (2, .int p2), (3, .int p3)] := hl
  rw [F_X3_turn] at hF
  refine lv_aload_n hx hb dX3_turn_0 rfl (lv_at hl 0 rfl) ?_
  refine lv_iload_n hx hb dX3_turn_1 rfl (lv_at hl 1 rfl) ?_
  have hPc := hP.sub (ws' := (cwM cI b tW)) [0, 1, 2, 3, 4, 5, 6, 7, 8, 9] rfl
  have hDc := hD.sub (ws' := (cwM cI b tW)) [0, 1, 2, 3, 4, 5, 6, 7, 8, 9] (by decide) rfl
  have hFc := va_free (wc := (cwM cI b tW)) hD hS hA [0, 1, 2, 3, 4, 5, 6, 7, 8, 9] rfl
  refine bd hF (fun r2 hG hF => ?_)
  refine va_calli (va_runV (As := [.int p1]) (rest := []) ⟨hx, hb, hml, hown, hts⟩ (c_X3_isCitizen l dC dI cI sf s.heap.size N b tW p1 r2 hG) (cwV 1 hts gX3_turn_X3_isCitizen rfl rfl rfl (by decide +kernel) ⟨Nat.le_of_ble_eq_true rfl, Nat.le_of_ble_eq_true rfl⟩) ⟨fun a U g mk q => ⟨q.1, q.2.call⟩, va_recv hK hP (ci := 3) (q0 := 0) rfl rfl, fun U hU hW => ⟨rfl, PB.of hU hW hPc hK hDc hNN hSF hS hFc⟩⟩ rfl rfl hl.1 rfl (lv_room (Nat.le_of_ble_eq_true rfl)) dX3_turn_2 ⟨Nat.le_of_ble_eq_true rfl, Nat.le_of_ble_eq_true rfl⟩) hS (fun q _ h => hFc q h) hFc (fun z_ u_ t H locs ht hvm hw hB hz1 hk1 hS => ?_)
  subst z_
  obtain ⟨hP1, hD1⟩ := hB
  rw [ht] at hP1
  have hJ := vb_join (ws' := (cwM cI b tW)) hP hD [0, 1, 2, 3, 4, 5, 6, 7, 8, 9] [] [0, 1, 2, 3, 4, 5, 6, 7, 8, 9] rfl rfl (by decide) (by decide) hk1 hFc hP1 hD1 rfl (by decide) rfl
  clear hP hD hPc hDc hFc hP1 hD1 hk1 hz1 ht hvm hG
  obtain ⟨hP, hD⟩ := hJ
  refine vW_have (fun R av Q => ∀ (tW : MS) (x1 : Int32) (x2 : Int32) (x3 : Int32) (z0 : Int32) (H : Heap) (locs : List Loc) (ls : Array Slot), F_X3_turn_32 N tW x1 x2 x3 z0 = some r → va_P (dC, dI) vwCl (cwM cI b tW) H → va_D A (cwM cI b tW) → va_S A s.heap H locs → lv_has ls 6 [(0, .ref (b 0)), (1, .int x1), (2, .int x2), (3, .int x3)] → W p l e R s m av below meth c H locs 0 0 Q (F0 m 32 ls [.int z0])) ?_ (fun kJ32 => ?_)
  · 
    intro tW x1 x2 x3 z0 H locs ls hF hP hD hS hl
    rw [F_X3_turn_32] at hF
    refine lv_istore (lv' := [(4, .int z0), (0, .ref (b 0)), (1, .int x1), (2, .int x2), (3, .int x3)]) hx hb dX3_turn_32 hl (by decide) rfl (fun ls hl => ?_)
    refine lv_iload hx hb dX3_turn_34 (lv_at hl 0 rfl) ?_
    refine lv_if_eq (tgt := 46) hx hb dX3_turn_36 (by decide) (fun hc => ?_) (fun hc => ?_)
    · have hF := ift hc hF
      refine lv_bipush (v := nI 10) hx hb dX3_turn_46 (by decide) ?_
      refine lv_aload_n hx hb dX3_turn_48 rfl (lv_at hl 1 rfl) ?_
      refine va_get (D := (dC, dI)) (ci := 3) (v := .ref (b 1)) (C := RX3) (T := TX3) (N := 15) hx hb hts inw_X3_turn_X3 hown hK hP 0 rfl rfl 0 (by decide) (hts (.fieldLink RX3 9 "DeniedOfEachOtherModel" "s" "[I") (List.mem_of_getElem? (i := 1) rfl)) (fun _ h9 => h9) rfl dX3_turn_49 ?_
      refine lv_iload_n hx hb dX3_turn_52 rfl (lv_at hl 2 rfl) ?_
      refine lv_iconst (v := nI 0) hx hb dX3_turn_53 (by decide) ?_
      have hPc := hP.sub (ws' := ([] : va_W)) [] rfl
      have hDc := hD.sub (ws' := ([] : va_W)) [] (by decide) rfl
      have hFc := va_free (wc := ([] : va_W)) hD hS hA [] rfl
      refine bd hF (fun r54 hG hF => ?_)
      refine va_calli (va_runS (As := [.int x1, .int (nI 0)]) (rest := [.ref (b 1), .int (nI 10)]) ⟨hx, hb, hml, hown, hts⟩ (c_X3_of l dC dI cI sf H.size N  x1 (nI 0) r54 hG) (va_cwS 2 hts gX3_turn_X3_of rfl rfl rfl (by decide +kernel) ⟨Nat.le_of_ble_eq_true rfl, Nat.le_of_ble_eq_true rfl⟩) ⟨fun a U g mk q => ⟨q.1, q.2.call⟩, fun U hU hW => ⟨rfl, PB.of hU hW hPc hK hDc hNN hSF hS hFc⟩⟩ rfl rfl hl.1 rfl (lv_room (Nat.le_of_ble_eq_true rfl)) dX3_turn_54 ⟨Nat.le_of_ble_eq_true rfl, Nat.le_of_ble_eq_true rfl⟩) hS (fun q _ h => hFc q h) hFc (fun z_ u_ t H locs ht hvm hw hB hz1 hk1 hS => ?_)
      subst z_
      obtain ⟨hP1, hD1⟩ := hB
      rw [ht] at hP1
      have hJ := vb_join (ws' := (cwM cI b tW)) hP hD [] [0, 1, 2, 3, 4, 5, 6, 7, 8, 9] [0, 1, 2, 3, 4, 5, 6, 7, 8, 9] rfl rfl (by decide) (by decide) hk1 hFc hP1 hD1 rfl (by decide) rfl
      clear hP hD hPc hDc hFc hP1 hD1 hk1 hz1 ht hvm hG
      obtain ⟨hP, hD⟩ := hJ
      refine cki hF (fun hi hF => ?_)
      refine va_iald (D := (dC, dI)) hx hb hK hP 1 0 rfl rfl hi dX3_turn_57 ?_
      refine lv_imul hx hb dX3_turn_58 ?_
      refine lv_aload_n hx hb dX3_turn_59 rfl (lv_at hl 1 rfl) ?_
      refine va_get (D := (dC, dI)) (ci := 3) (v := .ref (b 1)) (C := RX3) (T := TX3) (N := 15) hx hb hts inw_X3_turn_X3 hown hK hP 0 rfl rfl 0 (by decide) (hts (.fieldLink RX3 9 "DeniedOfEachOtherModel" "s" "[I") (List.mem_of_getElem? (i := 1) rfl)) (fun _ h9 => h9) rfl dX3_turn_60 ?_
      refine lv_iload_n hx hb dX3_turn_63 rfl (lv_at hl 2 rfl) ?_
      refine lv_iconst (v := nI 1) hx hb dX3_turn_64 (by decide) ?_
      have hPc := hP.sub (ws' := ([] : va_W)) [] rfl
      have hDc := hD.sub (ws' := ([] : va_W)) [] (by decide) rfl
      have hFc := va_free (wc := ([] : va_W)) hD hS hA [] rfl
      refine bd hF (fun r65 hG hF => ?_)
      refine va_calli (va_runS (As := [.int x1, .int (nI 1)]) (rest := [.ref (b 1), .int ((nI 10) * (tW.1 r54.toNatClampNeg))]) ⟨hx, hb, hml, hown, hts⟩ (c_X3_of l dC dI cI sf H.size N  x1 (nI 1) r65 hG) (va_cwS 2 hts gX3_turn_X3_of rfl rfl rfl (by decide +kernel) ⟨Nat.le_of_ble_eq_true rfl, Nat.le_of_ble_eq_true rfl⟩) ⟨fun a U g mk q => ⟨q.1, q.2.call⟩, fun U hU hW => ⟨rfl, PB.of hU hW hPc hK hDc hNN hSF hS hFc⟩⟩ rfl rfl hl.1 rfl (lv_room (Nat.le_of_ble_eq_true rfl)) dX3_turn_65 ⟨Nat.le_of_ble_eq_true rfl, Nat.le_of_ble_eq_true rfl⟩) hS (fun q _ h => hFc q h) hFc (fun z_ u_ t H locs ht hvm hw hB hz1 hk1 hS => ?_)
      subst z_
      obtain ⟨hP1, hD1⟩ := hB
      rw [ht] at hP1
      have hJ := vb_join (ws' := (cwM cI b tW)) hP hD [] [0, 1, 2, 3, 4, 5, 6, 7, 8, 9] [0, 1, 2, 3, 4, 5, 6, 7, 8, 9] rfl rfl (by decide) (by decide) hk1 hFc hP1 hD1 rfl (by decide) rfl
      clear hP hD hPc hDc hFc hP1 hD1 hk1 hz1 ht hvm hG
      obtain ⟨hP, hD⟩ := hJ
      refine cki hF (fun hi hF => ?_)
      refine va_iald (D := (dC, dI)) hx hb hK hP 1 0 rfl rfl hi dX3_turn_68 ?_
      refine lv_iadd hx hb dX3_turn_69 ?_
      refine lv_istore (lv' := [(5, .int (((nI 10) * (tW.1 r54.toNatClampNeg)) + (tW.1 r65.toNatClampNeg))), (4, .int z0), (0, .ref (b 0)), (1, .int x1), (2, .int x2), (3, .int x3)]) hx hb dX3_turn_70 hl (by decide) rfl (fun ls hl => ?_)
      refine lv_aload_n hx hb dX3_turn_72 rfl (lv_at hl 2 rfl) ?_
      refine va_get (D := (dC, dI)) (ci := 3) (v := .ref (b 1)) (C := RX3) (T := TX3) (N := 15) hx hb hts inw_X3_turn_X3 hown hK hP 0 rfl rfl 0 (by decide) (hts (.fieldLink RX3 9 "DeniedOfEachOtherModel" "s" "[I") (List.mem_of_getElem? (i := 1) rfl)) (fun _ h9 => h9) rfl dX3_turn_73 ?_
      refine lv_iload_n hx hb dX3_turn_76 rfl (lv_at hl 3 rfl) ?_
      refine lv_iconst (v := nI 0) hx hb dX3_turn_77 (by decide) ?_
      have hPc := hP.sub (ws' := ([] : va_W)) [] rfl
      have hDc := hD.sub (ws' := ([] : va_W)) [] (by decide) rfl
      have hFc := va_free (wc := ([] : va_W)) hD hS hA [] rfl
      refine bd hF (fun r78 hG hF => ?_)
      refine va_calli (va_runS (As := [.int x1, .int (nI 0)]) (rest := [.ref (b 1)]) ⟨hx, hb, hml, hown, hts⟩ (c_X3_of l dC dI cI sf H.size N  x1 (nI 0) r78 hG) (va_cwS 2 hts gX3_turn_X3_of rfl rfl rfl (by decide +kernel) ⟨Nat.le_of_ble_eq_true rfl, Nat.le_of_ble_eq_true rfl⟩) ⟨fun a U g mk q => ⟨q.1, q.2.call⟩, fun U hU hW => ⟨rfl, PB.of hU hW hPc hK hDc hNN hSF hS hFc⟩⟩ rfl rfl hl.1 rfl (lv_room (Nat.le_of_ble_eq_true rfl)) dX3_turn_78 ⟨Nat.le_of_ble_eq_true rfl, Nat.le_of_ble_eq_true rfl⟩) hS (fun q _ h => hFc q h) hFc (fun z_ u_ t H locs ht hvm hw hB hz1 hk1 hS => ?_)
      subst z_
      obtain ⟨hP1, hD1⟩ := hB
      rw [ht] at hP1
      have hJ := vb_join (ws' := (cwM cI b tW)) hP hD [] [0, 1, 2, 3, 4, 5, 6, 7, 8, 9] [0, 1, 2, 3, 4, 5, 6, 7, 8, 9] rfl rfl (by decide) (by decide) hk1 hFc hP1 hD1 rfl (by decide) rfl
      clear hP hD hPc hDc hFc hP1 hD1 hk1 hz1 ht hvm hG
      obtain ⟨hP, hD⟩ := hJ
      refine lv_iload_n hx hb dX3_turn_81 rfl (lv_at hl 4 rfl) ?_
      refine cki hF (fun hi hF => ?_)
      refine va_iast (D := (dC, dI)) hx hb hK hP hD hS 1 0 rfl rfl hi dX3_turn_82 (fun H locs hP hD hS => ?_)
      have hP : va_P (dC, dI) vwCl (cwM cI b ((upd tW.1 r78.toNatClampNeg x2), tW.2.1, tW.2.2.1, tW.2.2.2.1, tW.2.2.2.2.1, tW.2.2.2.2.2.1, tW.2.2.2.2.2.2.1, tW.2.2.2.2.2.2.2.1, tW.2.2.2.2.2.2.2.2.1, tW.2.2.2.2.2.2.2.2.2.1, tW.2.2.2.2.2.2.2.2.2.2.1, tW.2.2.2.2.2.2.2.2.2.2.2.1, tW.2.2.2.2.2.2.2.2.2.2.2.2.1, tW.2.2.2.2.2.2.2.2.2.2.2.2.2.1, tW.2.2.2.2.2.2.2.2.2.2.2.2.2.2)) H := hP
      have hD : va_D A (cwM cI b ((upd tW.1 r78.toNatClampNeg x2), tW.2.1, tW.2.2.1, tW.2.2.2.1, tW.2.2.2.2.1, tW.2.2.2.2.2.1, tW.2.2.2.2.2.2.1, tW.2.2.2.2.2.2.2.1, tW.2.2.2.2.2.2.2.2.1, tW.2.2.2.2.2.2.2.2.2.1, tW.2.2.2.2.2.2.2.2.2.2.1, tW.2.2.2.2.2.2.2.2.2.2.2.1, tW.2.2.2.2.2.2.2.2.2.2.2.2.1, tW.2.2.2.2.2.2.2.2.2.2.2.2.2.1, tW.2.2.2.2.2.2.2.2.2.2.2.2.2.2)) := hD
      refine lv_aload_n hx hb dX3_turn_83 rfl (lv_at hl 2 rfl) ?_
      refine va_get (D := (dC, dI)) (ci := 3) (v := .ref (b 1)) (C := RX3) (T := TX3) (N := 15) hx hb hts inw_X3_turn_X3 hown hK hP 0 rfl rfl 0 (by decide) (hts (.fieldLink RX3 9 "DeniedOfEachOtherModel" "s" "[I") (List.mem_of_getElem? (i := 1) rfl)) (fun _ h9 => h9) rfl dX3_turn_84 ?_
      refine lv_iload_n hx hb dX3_turn_87 rfl (lv_at hl 3 rfl) ?_
      refine lv_iconst (v := nI 1) hx hb dX3_turn_88 (by decide) ?_
      have hPc := hP.sub (ws' := ([] : va_W)) [] rfl
      have hDc := hD.sub (ws' := ([] : va_W)) [] (by decide) rfl
      have hFc := va_free (wc := ([] : va_W)) hD hS hA [] rfl
      refine bd hF (fun r89 hG hF => ?_)
      refine va_calli (va_runS (As := [.int x1, .int (nI 1)]) (rest := [.ref (b 1)]) ⟨hx, hb, hml, hown, hts⟩ (c_X3_of l dC dI cI sf H.size N  x1 (nI 1) r89 hG) (va_cwS 2 hts gX3_turn_X3_of rfl rfl rfl (by decide +kernel) ⟨Nat.le_of_ble_eq_true rfl, Nat.le_of_ble_eq_true rfl⟩) ⟨fun a U g mk q => ⟨q.1, q.2.call⟩, fun U hU hW => ⟨rfl, PB.of hU hW hPc hK hDc hNN hSF hS hFc⟩⟩ rfl rfl hl.1 rfl (lv_room (Nat.le_of_ble_eq_true rfl)) dX3_turn_89 ⟨Nat.le_of_ble_eq_true rfl, Nat.le_of_ble_eq_true rfl⟩) hS (fun q _ h => hFc q h) hFc (fun z_ u_ t H locs ht hvm hw hB hz1 hk1 hS => ?_)
      subst z_
      obtain ⟨hP1, hD1⟩ := hB
      rw [ht] at hP1
      have hJ := vb_join (ws' := (cwM cI b ((upd tW.1 r78.toNatClampNeg x2), tW.2.1, tW.2.2.1, tW.2.2.2.1, tW.2.2.2.2.1, tW.2.2.2.2.2.1, tW.2.2.2.2.2.2.1, tW.2.2.2.2.2.2.2.1, tW.2.2.2.2.2.2.2.2.1, tW.2.2.2.2.2.2.2.2.2.1, tW.2.2.2.2.2.2.2.2.2.2.1, tW.2.2.2.2.2.2.2.2.2.2.2.1, tW.2.2.2.2.2.2.2.2.2.2.2.2.1, tW.2.2.2.2.2.2.2.2.2.2.2.2.2.1, tW.2.2.2.2.2.2.2.2.2.2.2.2.2.2))) hP hD [] [0, 1, 2, 3, 4, 5, 6, 7, 8, 9] [0, 1, 2, 3, 4, 5, 6, 7, 8, 9] rfl rfl (by decide) (by decide) hk1 hFc hP1 hD1 rfl (by decide) rfl
      clear hP hD hPc hDc hFc hP1 hD1 hk1 hz1 ht hvm hG
      obtain ⟨hP, hD⟩ := hJ
      refine lv_iload_n hx hb dX3_turn_92 rfl (lv_at hl 5 rfl) ?_
      refine cki hF (fun hi hF => ?_)
      refine va_iast (D := (dC, dI)) hx hb hK hP hD hS 1 0 rfl rfl hi dX3_turn_93 (fun H locs hP hD hS => ?_)
      have hP : va_P (dC, dI) vwCl (cwM cI b ((upd (upd tW.1 r78.toNatClampNeg x2) r89.toNatClampNeg x3), tW.2.1, tW.2.2.1, tW.2.2.2.1, tW.2.2.2.2.1, tW.2.2.2.2.2.1, tW.2.2.2.2.2.2.1, tW.2.2.2.2.2.2.2.1, tW.2.2.2.2.2.2.2.2.1, tW.2.2.2.2.2.2.2.2.2.1, tW.2.2.2.2.2.2.2.2.2.2.1, tW.2.2.2.2.2.2.2.2.2.2.2.1, tW.2.2.2.2.2.2.2.2.2.2.2.2.1, tW.2.2.2.2.2.2.2.2.2.2.2.2.2.1, tW.2.2.2.2.2.2.2.2.2.2.2.2.2.2)) H := hP
      have hD : va_D A (cwM cI b ((upd (upd tW.1 r78.toNatClampNeg x2) r89.toNatClampNeg x3), tW.2.1, tW.2.2.1, tW.2.2.2.1, tW.2.2.2.2.1, tW.2.2.2.2.2.1, tW.2.2.2.2.2.2.1, tW.2.2.2.2.2.2.2.1, tW.2.2.2.2.2.2.2.2.1, tW.2.2.2.2.2.2.2.2.2.1, tW.2.2.2.2.2.2.2.2.2.2.1, tW.2.2.2.2.2.2.2.2.2.2.2.1, tW.2.2.2.2.2.2.2.2.2.2.2.2.1, tW.2.2.2.2.2.2.2.2.2.2.2.2.2.1, tW.2.2.2.2.2.2.2.2.2.2.2.2.2.2)) := hD
      refine lv_iload hx hb dX3_turn_94 (lv_at hl 0 rfl) ?_
      obtain rfl := Option.some.inj hF
      exact W.iret (v := (((nI 10) * (tW.1 r54.toNatClampNeg)) + (tW.1 r65.toNatClampNeg))) hx hb hr (fun t ht hW => ⟨⟨(((nI 10) * (tW.1 r54.toNatClampNeg)) + (tW.1 r65.toNatClampNeg)), (), rfl, rfl, QB.of ht hP hD⟩, hS.F ht⟩) hS.2.2 dX3_turn_96
    · have hF := iff_ hc hF
      refine lv_aload_n hx hb dX3_turn_39 rfl (lv_at hl 1 rfl) ?_
      refine lv_iload hx hb dX3_turn_40 (lv_at hl 0 rfl) ?_
      have hPc := hP.sub (ws' := (cwM cI b tW)) [0, 1, 2, 3, 4, 5, 6, 7, 8, 9] rfl
      have hDc := hD.sub (ws' := (cwM cI b tW)) [0, 1, 2, 3, 4, 5, 6, 7, 8, 9] (by decide) rfl
      have hFc := va_free (wc := (cwM cI b tW)) hD hS hA [0, 1, 2, 3, 4, 5, 6, 7, 8, 9] rfl
      refine bd hF (fun r42 hG hF => ?_)
      refine va_calli (va_runV (As := [.int z0]) (rest := []) ⟨hx, hb, hml, hown, hts⟩ (c_X3_no l dC dI cI sf H.size N b tW z0 r42 hG) (cwV 1 hts gX3_turn_X3_no rfl rfl rfl (by decide +kernel) ⟨Nat.le_of_ble_eq_true rfl, Nat.le_of_ble_eq_true rfl⟩) ⟨fun a U g mk q => ⟨q.1, q.2.call⟩, va_recv hK hP (ci := 3) (q0 := 0) rfl rfl, fun U hU hW => ⟨rfl, PB.of hU hW hPc hK hDc hNN hSF hS hFc⟩⟩ rfl rfl hl.1 rfl (lv_room (Nat.le_of_ble_eq_true rfl)) dX3_turn_42 ⟨Nat.le_of_ble_eq_true rfl, Nat.le_of_ble_eq_true rfl⟩) hS (fun q _ h => hFc q h) hFc (fun z_ u_ t H locs ht hvm hw hB hz1 hk1 hS => ?_)
      subst z_
      obtain ⟨hP1, hD1⟩ := hB
      rw [ht] at hP1
      have hJ := vb_join (ws' := (cwM cI b r42.2)) hP hD [0, 1, 2, 3, 4, 5, 6, 7, 8, 9] [] [0, 1, 2, 3, 4, 5, 6, 7, 8, 9] rfl rfl (by decide) (by decide) hk1 hFc hP1 hD1 rfl (by decide) rfl
      clear hP hD hPc hDc hFc hP1 hD1 hk1 hz1 ht hvm hG
      obtain ⟨hP, hD⟩ := hJ
      obtain rfl := Option.some.inj hF
      exact W.iret (v := r42.1) hx hb hr (fun t ht hW => ⟨⟨r42.1, (), rfl, rfl, QB.of ht hP hD⟩, hS.F ht⟩) hS.2.2 dX3_turn_45
  refine lv_if_ne (tgt := 12) hx hb dX3_turn_5 (by decide) (fun hc => ?_) (fun hc => ?_)
  · have hF := ift hc hF
    refine lv_iload_n hx hb dX3_turn_12 rfl (lv_at hl 2 rfl) ?_
    refine lv_iconst (v := nI 0) hx hb dX3_turn_13 (by decide) ?_
    refine lv_iconst (v := nI 5) hx hb dX3_turn_14 (by decide) ?_
    have hPc := hP.sub (ws' := ([] : va_W)) [] rfl
    have hDc := hD.sub (ws' := ([] : va_W)) [] (by decide) rfl
    have hFc := va_free (wc := ([] : va_W)) hD hS hA [] rfl
    refine bd hF (fun r15 hG hF => ?_)
    refine va_calli (va_runS (As := [.int p2, .int (nI 0), .int (nI 5)]) (rest := []) ⟨hx, hb, hml, hown, hts⟩ (c_X3_isIn l dC dI cI sf H.size N  p2 (nI 0) (nI 5) r15 hG) (va_cwS 3 hts gX3_turn_X3_isIn rfl rfl rfl (by decide +kernel) ⟨Nat.le_of_ble_eq_true rfl, Nat.le_of_ble_eq_true rfl⟩) ⟨fun a U g mk q => ⟨q.1, q.2.call⟩, fun U hU hW => ⟨rfl, PB.of hU hW hPc hK hDc hNN hSF hS hFc⟩⟩ rfl rfl hl.1 rfl (lv_room (Nat.le_of_ble_eq_true rfl)) dX3_turn_15 ⟨Nat.le_of_ble_eq_true rfl, Nat.le_of_ble_eq_true rfl⟩) hS (fun q _ h => hFc q h) hFc (fun z_ u_ t H locs ht hvm hw hB hz1 hk1 hS => ?_)
    subst z_
    obtain ⟨hP1, hD1⟩ := hB
    rw [ht] at hP1
    have hJ := vb_join (ws' := (cwM cI b tW)) hP hD [] [0, 1, 2, 3, 4, 5, 6, 7, 8, 9] [0, 1, 2, 3, 4, 5, 6, 7, 8, 9] rfl rfl (by decide) (by decide) hk1 hFc hP1 hD1 rfl (by decide) rfl
    clear hP hD hPc hDc hFc hP1 hD1 hk1 hz1 ht hvm hG
    obtain ⟨hP, hD⟩ := hJ
    refine lv_if_ne (tgt := 26) hx hb dX3_turn_18 (by decide) (fun hc => ?_) (fun hc => ?_)
    · have hF := ift hc hF
      refine lv_iload_n hx hb dX3_turn_26 rfl (lv_at hl 3 rfl) ?_
      refine lv_bipush (v := nI 9) hx hb dX3_turn_27 (by decide) ?_
      have hPc := hP.sub (ws' := ([] : va_W)) [] rfl
      have hDc := hD.sub (ws' := ([] : va_W)) [] (by decide) rfl
      have hFc := va_free (wc := ([] : va_W)) hD hS hA [] rfl
      refine bd hF (fun r29 hG hF => ?_)
      refine va_calli (va_runS (As := [.int p3, .int (nI 9)]) (rest := []) ⟨hx, hb, hml, hown, hts⟩ (c_X3_wrongBy l dC dI cI sf H.size N  p3 (nI 9) r29 hG) (va_cwS 2 hts gX3_turn_X3_wrongBy rfl rfl rfl (by decide +kernel) ⟨Nat.le_of_ble_eq_true rfl, Nat.le_of_ble_eq_true rfl⟩) ⟨fun a U g mk q => ⟨q.1, q.2.call⟩, fun U hU hW => ⟨rfl, PB.of hU hW hPc hK hDc hNN hSF hS hFc⟩⟩ rfl rfl hl.1 rfl (lv_room (Nat.le_of_ble_eq_true rfl)) dX3_turn_29 ⟨Nat.le_of_ble_eq_true rfl, Nat.le_of_ble_eq_true rfl⟩) hS (fun q _ h => hFc q h) hFc (fun z_ u_ t H locs ht hvm hw hB hz1 hk1 hS => ?_)
      subst z_
      obtain ⟨hP1, hD1⟩ := hB
      rw [ht] at hP1
      have hJ := vb_join (ws' := (cwM cI b tW)) hP hD [] [0, 1, 2, 3, 4, 5, 6, 7, 8, 9] [0, 1, 2, 3, 4, 5, 6, 7, 8, 9] rfl rfl (by decide) (by decide) hk1 hFc hP1 hD1 rfl (by decide) rfl
      clear hP hD hPc hDc hFc hP1 hD1 hk1 hz1 ht hvm hG
      obtain ⟨hP, hD⟩ := hJ
      exact kJ32 tW p1 p2 p3 r29 _ _ _ hF hP hD hS (lv_sub hl [0, 1, 2, 3] rfl)
    · have hF := iff_ (fun h => h hc) hF
      refine lv_bipush (v := (-2)) hx hb dX3_turn_21 (by decide) ?_
      refine lv_goto (tgt := 32) hx hb dX3_turn_23 (by decide) ?_
      exact kJ32 tW p1 p2 p3 (-2) _ _ _ hF hP hD hS (lv_sub hl [0, 1, 2, 3] rfl)
  · have hF := iff_ (fun h => h hc) hF
    refine lv_iconst (v := (-1)) hx hb dX3_turn_8 (by decide) ?_
    refine lv_goto (tgt := 32) hx hb dX3_turn_9 (by decide) ?_
    exact kJ32 tW p1 p2 p3 (-1) _ _ _ hF hP hD hS (lv_sub hl [0, 1, 2, 3] rfl)
theorem inw_X3_two_X3 : ∀ w ∈ u_ws RX3 TX3 15, w ∈ wsX3_two := fun _ h => List.mem_cons_of_mem _ (List.mem_append_right _ h)
set_option maxHeartbeats 4000000 in
set_option maxRecDepth 100000 in
theorem c_X3_two (l : Launch) (dC : Nat → ClassId) (dI : Nat → Nat → Nat) (cI : ClassId) (sf : SFP) (sz : Nat) (N : Nat) (b : Nat → Nat) (tW : MS) (p1 : Int32) (p2 : Int32) (p3 : Int32) (p4 : Int32) (r : (Int32 × MS)) (hF : F_X3_two N tW p1 p2 p3 p4 = some r) : Met l yX3_two wsX3_two ({ frames := 7, cells := 0, slots := 0, locals := 166 }) (va_Pc [.ref (b 0), .int p1, .int p2, .int p3, .int p4] (PB (dC, dI) cI (cwM cI b tW) sz sf)) (va_Qi (fun (z : Int32) (_ : Unit) => z = r.1) (fun _ t => QB (dC, dI) (cwM cI b r.2) (va_A (cwM cI b tW) sz) t) (va_A (cwM cI b tW) sz)) 0 0 (va_A (cwM cI b tW) sz) := by
  refine Met.ofW (cc := cX3_two) (maxL := 10) (ret := (some .int)) (by decide) rfl ?_
  intro p e s m args below meth c s₁ B hml hv
  obtain ⟨rfl, hsz, hP, hK, hD0, hNN, hSF⟩ := hv
  have hx := B.exec
  have hb := B.bytes
  have hr := B.returns
  have hts := atoms_spec (ws := wsX3_two) B.pre
  have hown : s.vm.findClass RX3 = some m.cls := findClass_of_methodNamed B.named
  have hlocks := B.notSynchronized
  subst hsz
  have hD := hD0.self (sz := s.heap.size)
  generalize hAe : va_A (cwM cI b tW) s.heap.size = A at hD hSF ⊢
  have hA : ∀ q : Nat, s.heap.size ≤ q → A q := fun q h => by rw [← hAe]; exact Or.inr h
  clear hAe hD0
  have hS : va_S A s.heap s.heap [] := va_S.rf
  have hl := lv_entry ([.ref (b 0), .int p1, .int p2, .int p3, .int p4]) (n := 10) (Nat.le_of_ble_eq_true rfl)
  rw [lg_entry_eq]
  generalize (lg_sl ([.ref (b 0), .int p1, .int p2, .int p3, .int p4]) ++ List.replicate (10 - (lg_sl ([.ref (b 0), .int p1, .int p2, .int p3, .int p4])).length) Slot.unset).toArray = ls at hl ⊢
  have hl : lv_has ls 10 [(0, .ref (b 0)), (1, .int p1), (2, .int p2), (3, .int p3), (4, .int p4)] := hl
  rw [F_X3_two] at hF
  refine lv_aload_n hx hb dX3_two_0 rfl (lv_at hl 0 rfl) ?_
  refine lv_iload_n hx hb dX3_two_1 rfl (lv_at hl 1 rfl) ?_
  refine lv_iload_n hx hb dX3_two_2 rfl (lv_at hl 2 rfl) ?_
  have hPc := hP.sub (ws' := (cwM cI b tW)) [0, 1, 2, 3, 4, 5, 6, 7, 8, 9] rfl
  have hDc := hD.sub (ws' := (cwM cI b tW)) [0, 1, 2, 3, 4, 5, 6, 7, 8, 9] (by decide) rfl
  have hFc := va_free (wc := (cwM cI b tW)) hD hS hA [0, 1, 2, 3, 4, 5, 6, 7, 8, 9] rfl
  refine bd hF (fun r3 hG hF => ?_)
  refine va_calli (va_runV (As := [.int p1, .int p2]) (rest := []) ⟨hx, hb, hml, hown, hts⟩ (c_X3_areTwo l dC dI cI sf s.heap.size N b tW p1 p2 r3 hG) (cwV 2 hts gX3_two_X3_areTwo rfl rfl rfl (by decide +kernel) ⟨Nat.le_of_ble_eq_true rfl, Nat.le_of_ble_eq_true rfl⟩) ⟨fun a U g mk q => ⟨q.1, q.2.call⟩, va_recv hK hP (ci := 3) (q0 := 0) rfl rfl, fun U hU hW => ⟨rfl, PB.of hU hW hPc hK hDc hNN hSF hS hFc⟩⟩ rfl rfl hl.1 rfl (lv_room (Nat.le_of_ble_eq_true rfl)) dX3_two_3 ⟨Nat.le_of_ble_eq_true rfl, Nat.le_of_ble_eq_true rfl⟩) hS (fun q _ h => hFc q h) hFc (fun z_ u_ t H locs ht hvm hw hB hz1 hk1 hS => ?_)
  subst z_
  obtain ⟨hP1, hD1⟩ := hB
  rw [ht] at hP1
  have hJ := vb_join (ws' := (cwM cI b tW)) hP hD [0, 1, 2, 3, 4, 5, 6, 7, 8, 9] [] [0, 1, 2, 3, 4, 5, 6, 7, 8, 9] rfl rfl (by decide) (by decide) hk1 hFc hP1 hD1 rfl (by decide) rfl
  clear hP hD hPc hDc hFc hP1 hD1 hk1 hz1 ht hvm hG
  obtain ⟨hP, hD⟩ := hJ
  refine vW_have (fun R av Q => ∀ (tW : MS) (x1 : Int32) (x2 : Int32) (x3 : Int32) (x4 : Int32) (z0 : Int32) (H : Heap) (locs : List Loc) (ls : Array Slot), F_X3_two_27 N tW x1 x2 x3 x4 z0 = some r → va_P (dC, dI) vwCl (cwM cI b tW) H → va_D A (cwM cI b tW) → va_S A s.heap H locs → lv_has ls 10 [(0, .ref (b 0)), (1, .int x1), (2, .int x2), (3, .int x3), (4, .int x4)] → W p l e R s m av below meth c H locs 0 0 Q (F0 m 27 ls [.int z0])) ?_ (fun kJ27 => ?_)
  · 
    intro tW x1 x2 x3 x4 z0 H locs ls hF hP hD hS hl
    rw [F_X3_two_27] at hF
    refine lv_istore (lv' := [(5, .int z0), (0, .ref (b 0)), (1, .int x1), (2, .int x2), (3, .int x3), (4, .int x4)]) hx hb dX3_two_27 hl (by decide) rfl (fun ls hl => ?_)
    refine lv_iload hx hb dX3_two_29 (lv_at hl 0 rfl) ?_
    refine vW_have (fun R av Q => ∀ (tW : MS) (x1 : Int32) (x2 : Int32) (x3 : Int32) (x4 : Int32) (x5 : Int32) (H : Heap) (locs : List Loc) (ls : Array Slot), F_X3_two_60 N tW x1 x2 x3 x4 x5 = some r → va_P (dC, dI) vwCl (cwM cI b tW) H → va_D A (cwM cI b tW) → va_S A s.heap H locs → lv_has ls 10 [(0, .ref (b 0)), (1, .int x1), (2, .int x2), (3, .int x3), (4, .int x4), (5, .int x5)] → W p l e R s m av below meth c H locs 0 0 Q (F0 m 60 ls [])) ?_ (fun kJ60 => ?_)
    · 
      intro tW x1 x2 x3 x4 x5 H locs ls hF hP hD hS hl
      rw [F_X3_two_60] at hF
      refine lv_iload hx hb dX3_two_60 (lv_at hl 5 rfl) ?_
      refine lv_if_eq (tgt := 72) hx hb dX3_two_62 (by decide) (fun hc => ?_) (fun hc => ?_)
      · have hF := ift hc hF
        refine lv_iconst (v := nI 0) hx hb dX3_two_72 (by decide) ?_
        refine vW_have (fun R av Q => ∀ (n75 : Nat) (tW : MS) (x1 : Int32) (x2 : Int32) (x3 : Int32) (x4 : Int32) (x6 : Int32) (H : Heap) (locs : List Loc) (ls : Array Slot), F_X3_two_75 N n75 tW x1 x2 x3 x4 x6 = some r → va_P (dC, dI) vwCl (cwM cI b tW) H → va_D A (cwM cI b tW) → va_S A s.heap H locs → lv_has ls 10 [(0, .ref (b 0)), (1, .int x1), (2, .int x2), (3, .int x3), (4, .int x4), (6, .int x6)] → W p l e R s m av below meth c H locs 0 0 Q (F0 m 75 ls [])) ?_ (fun kJ75 => ?_)
        · intro n75
          induction n75 with
          | zero => intro tW x1 x2 x3 x4 x6 H locs ls hF; exact nn hF
          | succ n75 ih75 =>
            intro tW x1 x2 x3 x4 x6 H locs ls hF hP hD hS hl
            rw [F_X3_two_75] at hF
            refine lv_iload hx hb dX3_two_75 (lv_at hl 5 rfl) ?_
            refine lv_iconst (v := nI 4) hx hb dX3_two_77 (by decide) ?_
            refine lv_icmp_ge (tgt := 186) hx hb dX3_two_78 (by decide) (fun hc => ?_) (fun hc => ?_)
            · have hF := ift hc hF
              refine lv_bipush (v := (-9)) hx hb dX3_two_186 (by decide) ?_
              obtain rfl := Option.some.inj hF
              exact W.iret (v := (-9)) hx hb hr (fun t ht hW => ⟨⟨(-9), (), rfl, rfl, QB.of ht hP hD⟩, hS.F ht⟩) hS.2.2 dX3_two_188
            · have hF := iff_ hc hF
              refine lv_iload hx hb dX3_two_81 (lv_at hl 5 rfl) ?_
              refine lv_iconst (v := nI 2) hx hb dX3_two_83 (by decide) ?_
              refine lv_idiv hx hb dX3_two_84 (by decide) ?_
              refine lv_istore (lv' := [(7, .int (x6 / (nI 2))), (0, .ref (b 0)), (1, .int x1), (2, .int x2), (3, .int x3), (4, .int x4), (6, .int x6)]) hx hb dX3_two_85 hl (by decide) rfl (fun ls hl => ?_)
              refine lv_iload hx hb dX3_two_87 (lv_at hl 6 rfl) ?_
              refine lv_iconst (v := nI 2) hx hb dX3_two_89 (by decide) ?_
              refine lv_irem hx hb dX3_two_90 (by decide) ?_
              refine lv_istore (lv' := [(8, .int (x6 - x6 / (nI 2) * (nI 2))), (7, .int (x6 / (nI 2))), (0, .ref (b 0)), (1, .int x1), (2, .int x2), (3, .int x3), (4, .int x4), (6, .int x6)]) hx hb dX3_two_91 hl (by decide) rfl (fun ls hl => ?_)
              refine lv_aload_n hx hb dX3_two_93 rfl (lv_at hl 2 rfl) ?_
              refine lv_iload_n hx hb dX3_two_94 rfl (lv_at hl 3 rfl) ?_
              refine lv_iload_n hx hb dX3_two_95 rfl (lv_at hl 3 rfl) ?_
              refine lv_iconst (v := nI 1) hx hb dX3_two_96 (by decide) ?_
              refine lv_iload hx hb dX3_two_97 (lv_at hl 1 rfl) ?_
              refine lv_isub hx hb dX3_two_99 ?_
              refine lv_iload_n hx hb dX3_two_100 rfl (lv_at hl 4 rfl) ?_
              refine lv_iload hx hb dX3_two_101 (lv_at hl 0 rfl) ?_
              refine lv_iload_n hx hb dX3_two_103 rfl (lv_at hl 5 rfl) ?_
              refine lv_iload hx hb dX3_two_104 (lv_at hl 6 rfl) ?_
              have hPc := hP.sub (ws' := (cwM cI b tW)) [0, 1, 2, 3, 4, 5, 6, 7, 8, 9] rfl
              have hDc := hD.sub (ws' := (cwM cI b tW)) [0, 1, 2, 3, 4, 5, 6, 7, 8, 9] (by decide) rfl
              have hFc := va_free (wc := (cwM cI b tW)) hD hS hA [0, 1, 2, 3, 4, 5, 6, 7, 8, 9] rfl
              refine bd hF (fun r106 hG hF => ?_)
              refine va_calli (va_runV (As := [.int x1, .int x1, .int ((nI 1) - (x6 / (nI 2))), .int x2, .int (x6 - x6 / (nI 2) * (nI 2)), .int x3, .int x4]) (rest := []) ⟨hx, hb, hml, hown, hts⟩ (c_X3_chapterBy l dC dI cI sf H.size N b tW x1 x1 ((nI 1) - (x6 / (nI 2))) x2 (x6 - x6 / (nI 2) * (nI 2)) x3 x4 r106 hG) (cwV 7 hts gX3_two_X3_chapterBy rfl rfl rfl (by decide +kernel) ⟨Nat.le_of_ble_eq_true rfl, Nat.le_of_ble_eq_true rfl⟩) ⟨fun a U g mk q => ⟨q.1, q.2.call⟩, va_recv hK hP (ci := 3) (q0 := 0) rfl rfl, fun U hU hW => ⟨rfl, PB.of hU hW hPc hK hDc hNN hSF hS hFc⟩⟩ rfl rfl hl.1 rfl (lv_room (Nat.le_of_ble_eq_true rfl)) dX3_two_106 ⟨Nat.le_of_ble_eq_true rfl, Nat.le_of_ble_eq_true rfl⟩) hS (fun q _ h => hFc q h) hFc (fun z_ u_ t H locs ht hvm hw hB hz1 hk1 hS => ?_)
              subst z_
              obtain ⟨hP1, hD1⟩ := hB
              rw [ht] at hP1
              have hJ := vb_join (ws' := (cwM cI b r106.2)) hP hD [0, 1, 2, 3, 4, 5, 6, 7, 8, 9] [] [0, 1, 2, 3, 4, 5, 6, 7, 8, 9] rfl rfl (by decide) (by decide) hk1 hFc hP1 hD1 rfl (by decide) rfl
              clear hP hD hPc hDc hFc hP1 hD1 hk1 hz1 ht hvm hG
              obtain ⟨hP, hD⟩ := hJ
              refine lv_aload_n hx hb dX3_two_109 rfl (lv_at hl 2 rfl) ?_
              refine lv_iload_n hx hb dX3_two_110 rfl (lv_at hl 3 rfl) ?_
              refine lv_iload_n hx hb dX3_two_111 rfl (lv_at hl 3 rfl) ?_
              refine lv_iload hx hb dX3_two_112 (lv_at hl 1 rfl) ?_
              refine lv_iload_n hx hb dX3_two_114 rfl (lv_at hl 4 rfl) ?_
              refine lv_iload hx hb dX3_two_115 (lv_at hl 0 rfl) ?_
              refine lv_iload_n hx hb dX3_two_117 rfl (lv_at hl 5 rfl) ?_
              refine lv_iload hx hb dX3_two_118 (lv_at hl 6 rfl) ?_
              have hPc := hP.sub (ws' := (cwM cI b r106.2)) [0, 1, 2, 3, 4, 5, 6, 7, 8, 9] rfl
              have hDc := hD.sub (ws' := (cwM cI b r106.2)) [0, 1, 2, 3, 4, 5, 6, 7, 8, 9] (by decide) rfl
              have hFc := va_free (wc := (cwM cI b r106.2)) hD hS hA [0, 1, 2, 3, 4, 5, 6, 7, 8, 9] rfl
              refine bd hF (fun r120 hG hF => ?_)
              refine va_calli (va_runV (As := [.int x1, .int x1, .int (x6 / (nI 2)), .int x2, .int (x6 - x6 / (nI 2) * (nI 2)), .int x3, .int x4]) (rest := [.int r106.1]) ⟨hx, hb, hml, hown, hts⟩ (c_X3_chapterBy l dC dI cI sf H.size N b r106.2 x1 x1 (x6 / (nI 2)) x2 (x6 - x6 / (nI 2) * (nI 2)) x3 x4 r120 hG) (cwV 7 hts gX3_two_X3_chapterBy rfl rfl rfl (by decide +kernel) ⟨Nat.le_of_ble_eq_true rfl, Nat.le_of_ble_eq_true rfl⟩) ⟨fun a U g mk q => ⟨q.1, q.2.call⟩, va_recv hK hP (ci := 3) (q0 := 0) rfl rfl, fun U hU hW => ⟨rfl, PB.of hU hW hPc hK hDc hNN hSF hS hFc⟩⟩ rfl rfl hl.1 rfl (lv_room (Nat.le_of_ble_eq_true rfl)) dX3_two_120 ⟨Nat.le_of_ble_eq_true rfl, Nat.le_of_ble_eq_true rfl⟩) hS (fun q _ h => hFc q h) hFc (fun z_ u_ t H locs ht hvm hw hB hz1 hk1 hS => ?_)
              subst z_
              obtain ⟨hP1, hD1⟩ := hB
              rw [ht] at hP1
              have hJ := vb_join (ws' := (cwM cI b r120.2)) hP hD [0, 1, 2, 3, 4, 5, 6, 7, 8, 9] [] [0, 1, 2, 3, 4, 5, 6, 7, 8, 9] rfl rfl (by decide) (by decide) hk1 hFc hP1 hD1 rfl (by decide) rfl
              clear hP hD hPc hDc hFc hP1 hD1 hk1 hz1 ht hvm hG
              obtain ⟨hP, hD⟩ := hJ
              refine vW_have (fun R av Q => ∀ (tW : MS) (x1 : Int32) (x2 : Int32) (x3 : Int32) (x4 : Int32) (x6 : Int32) (x7 : Int32) (x8 : Int32) (z0 : Int32) (H : Heap) (locs : List Loc) (ls : Array Slot), F_X3_two_131 N (fun ctW cx1 cx2 cx3 cx4 cx6 => F_X3_two_75 N n75 ctW cx1 cx2 cx3 cx4 cx6) tW x1 x2 x3 x4 x6 x7 x8 z0 = some r → va_P (dC, dI) vwCl (cwM cI b tW) H → va_D A (cwM cI b tW) → va_S A s.heap H locs → lv_has ls 10 [(0, .ref (b 0)), (1, .int x1), (2, .int x2), (3, .int x3), (4, .int x4), (6, .int x6), (7, .int x7), (8, .int x8)] → W p l e R s m av below meth c H locs 0 0 Q (F0 m 131 ls [.int z0])) ?_ (fun kJ131 => ?_)
              · 
                intro tW x1 x2 x3 x4 x6 x7 x8 z0 H locs ls hF hP hD hS hl
                rw [F_X3_two_131] at hF
                refine lv_istore (lv' := [(9, .int z0), (0, .ref (b 0)), (1, .int x1), (2, .int x2), (3, .int x3), (4, .int x4), (6, .int x6), (7, .int x7), (8, .int x8)]) hx hb dX3_two_131 hl (by decide) rfl (fun ls hl => ?_)
                refine lv_iload hx hb dX3_two_133 (lv_at hl 0 rfl) ?_
                refine vW_have (fun R av Q => ∀ (tW : MS) (x1 : Int32) (x2 : Int32) (x3 : Int32) (x4 : Int32) (x6 : Int32) (H : Heap) (locs : List Loc) (ls : Array Slot), F_X3_two_180 N (fun ctW cx1 cx2 cx3 cx4 cx6 => F_X3_two_75 N n75 ctW cx1 cx2 cx3 cx4 cx6) tW x1 x2 x3 x4 x6 = some r → va_P (dC, dI) vwCl (cwM cI b tW) H → va_D A (cwM cI b tW) → va_S A s.heap H locs → lv_has ls 10 [(0, .ref (b 0)), (1, .int x1), (2, .int x2), (3, .int x3), (4, .int x4), (6, .int x6)] → W p l e R s m av below meth c H locs 0 0 Q (F0 m 180 ls [])) ?_ (fun kJ180 => ?_)
                · 
                  intro tW x1 x2 x3 x4 x6 H locs ls hF hP hD hS hl
                  rw [F_X3_two_180] at hF
                  refine lv_iinc (v := x6 + (nI 1)) (lv' := [(6, .int (x6 + (nI 1))), (0, .ref (b 0)), (1, .int x1), (2, .int x2), (3, .int x3), (4, .int x4)]) hx hb dX3_two_180 hl (k := 5) rfl (by rfl) (by decide) rfl (fun ls hl => ?_)
                  refine lv_goto (tgt := 75) hx hb dX3_two_183 (by decide) ?_
                  exact ih75 tW x1 x2 x3 x4 (x6 + (nI 1)) _ _ _ hF hP hD hS (lv_sub hl [1, 2, 3, 4, 5, 0] rfl)
                refine lv_if_eq (tgt := 180) hx hb dX3_two_135 (by decide) (fun hc => ?_) (fun hc => ?_)
                · have hF := ift hc hF
                  exact kJ180 tW x1 x2 x3 x4 x6 _ _ _ hF hP hD hS (lv_sub hl [1, 2, 3, 4, 5, 6] rfl)
                · have hF := iff_ hc hF
                  refine lv_aload_n hx hb dX3_two_138 rfl (lv_at hl 1 rfl) ?_
                  refine lv_iload_n hx hb dX3_two_139 rfl (lv_at hl 3 rfl) ?_
                  refine lv_iload_n hx hb dX3_two_140 rfl (lv_at hl 2 rfl) ?_
                  refine lv_iload hx hb dX3_two_141 (lv_at hl 7 rfl) ?_
                  refine lv_iload_n hx hb dX3_two_143 rfl (lv_at hl 3 rfl) ?_
                  refine lv_iconst (v := nI 1) hx hb dX3_two_144 (by decide) ?_
                  refine lv_iload hx hb dX3_two_145 (lv_at hl 8 rfl) ?_
                  refine lv_isub hx hb dX3_two_147 ?_
                  refine lv_iload_n hx hb dX3_two_148 rfl (lv_at hl 4 rfl) ?_
                  refine lv_iload hx hb dX3_two_149 (lv_at hl 5 rfl) ?_
                  have hPc := hP.sub (ws' := (cwM cI b tW)) [0, 1, 2, 3, 4, 5, 6, 7, 8, 9] rfl
                  have hDc := hD.sub (ws' := (cwM cI b tW)) [0, 1, 2, 3, 4, 5, 6, 7, 8, 9] (by decide) rfl
                  have hFc := va_free (wc := (cwM cI b tW)) hD hS hA [0, 1, 2, 3, 4, 5, 6, 7, 8, 9] rfl
                  refine bd hF (fun r151 hG hF => ?_)
                  refine va_calli (va_runV (As := [.int x2, .int x1, .int x7, .int x2, .int ((nI 1) - x8), .int x3, .int x4]) (rest := []) ⟨hx, hb, hml, hown, hts⟩ (c_X3_chapterBy l dC dI cI sf H.size N b tW x2 x1 x7 x2 ((nI 1) - x8) x3 x4 r151 hG) (cwV 7 hts gX3_two_X3_chapterBy rfl rfl rfl (by decide +kernel) ⟨Nat.le_of_ble_eq_true rfl, Nat.le_of_ble_eq_true rfl⟩) ⟨fun a U g mk q => ⟨q.1, q.2.call⟩, va_recv hK hP (ci := 3) (q0 := 0) rfl rfl, fun U hU hW => ⟨rfl, PB.of hU hW hPc hK hDc hNN hSF hS hFc⟩⟩ rfl rfl hl.1 rfl (lv_room (Nat.le_of_ble_eq_true rfl)) dX3_two_151 ⟨Nat.le_of_ble_eq_true rfl, Nat.le_of_ble_eq_true rfl⟩) hS (fun q _ h => hFc q h) hFc (fun z_ u_ t H locs ht hvm hw hB hz1 hk1 hS => ?_)
                  subst z_
                  obtain ⟨hP1, hD1⟩ := hB
                  rw [ht] at hP1
                  have hJ := vb_join (ws' := (cwM cI b r151.2)) hP hD [0, 1, 2, 3, 4, 5, 6, 7, 8, 9] [] [0, 1, 2, 3, 4, 5, 6, 7, 8, 9] rfl rfl (by decide) (by decide) hk1 hFc hP1 hD1 rfl (by decide) rfl
                  clear hP hD hPc hDc hFc hP1 hD1 hk1 hz1 ht hvm hG
                  obtain ⟨hP, hD⟩ := hJ
                  refine lv_aload_n hx hb dX3_two_154 rfl (lv_at hl 1 rfl) ?_
                  refine lv_iload_n hx hb dX3_two_155 rfl (lv_at hl 3 rfl) ?_
                  refine lv_iload_n hx hb dX3_two_156 rfl (lv_at hl 2 rfl) ?_
                  refine lv_iload hx hb dX3_two_157 (lv_at hl 7 rfl) ?_
                  refine lv_iload_n hx hb dX3_two_159 rfl (lv_at hl 3 rfl) ?_
                  refine lv_iload hx hb dX3_two_160 (lv_at hl 8 rfl) ?_
                  refine lv_iload_n hx hb dX3_two_162 rfl (lv_at hl 4 rfl) ?_
                  refine lv_iload hx hb dX3_two_163 (lv_at hl 5 rfl) ?_
                  have hPc := hP.sub (ws' := (cwM cI b r151.2)) [0, 1, 2, 3, 4, 5, 6, 7, 8, 9] rfl
                  have hDc := hD.sub (ws' := (cwM cI b r151.2)) [0, 1, 2, 3, 4, 5, 6, 7, 8, 9] (by decide) rfl
                  have hFc := va_free (wc := (cwM cI b r151.2)) hD hS hA [0, 1, 2, 3, 4, 5, 6, 7, 8, 9] rfl
                  refine bd hF (fun r165 hG hF => ?_)
                  refine va_calli (va_runV (As := [.int x2, .int x1, .int x7, .int x2, .int x8, .int x3, .int x4]) (rest := [.int r151.1]) ⟨hx, hb, hml, hown, hts⟩ (c_X3_chapterBy l dC dI cI sf H.size N b r151.2 x2 x1 x7 x2 x8 x3 x4 r165 hG) (cwV 7 hts gX3_two_X3_chapterBy rfl rfl rfl (by decide +kernel) ⟨Nat.le_of_ble_eq_true rfl, Nat.le_of_ble_eq_true rfl⟩) ⟨fun a U g mk q => ⟨q.1, q.2.call⟩, va_recv hK hP (ci := 3) (q0 := 0) rfl rfl, fun U hU hW => ⟨rfl, PB.of hU hW hPc hK hDc hNN hSF hS hFc⟩⟩ rfl rfl hl.1 rfl (lv_room (Nat.le_of_ble_eq_true rfl)) dX3_two_165 ⟨Nat.le_of_ble_eq_true rfl, Nat.le_of_ble_eq_true rfl⟩) hS (fun q _ h => hFc q h) hFc (fun z_ u_ t H locs ht hvm hw hB hz1 hk1 hS => ?_)
                  subst z_
                  obtain ⟨hP1, hD1⟩ := hB
                  rw [ht] at hP1
                  have hJ := vb_join (ws' := (cwM cI b r165.2)) hP hD [0, 1, 2, 3, 4, 5, 6, 7, 8, 9] [] [0, 1, 2, 3, 4, 5, 6, 7, 8, 9] rfl rfl (by decide) (by decide) hk1 hFc hP1 hD1 rfl (by decide) rfl
                  clear hP hD hPc hDc hFc hP1 hD1 hk1 hz1 ht hvm hG
                  obtain ⟨hP, hD⟩ := hJ
                  refine vW_have (fun R av Q => ∀ (tW : MS) (x7 : Int32) (x8 : Int32) (H : Heap) (locs : List Loc) (ls : Array Slot), F_X3_two_171 N tW x7 x8 = some r → va_P (dC, dI) vwCl (cwM cI b tW) H → va_D A (cwM cI b tW) → va_S A s.heap H locs → lv_has ls 10 [(7, .int x7), (8, .int x8)] → W p l e R s m av below meth c H locs 0 0 Q (F0 m 171 ls [])) ?_ (fun kJ171 => ?_)
                  · 
                    intro tW x7 x8 H locs ls hF hP hD hS hl
                    rw [F_X3_two_171] at hF
                    refine lv_bipush (v := nI 10) hx hb dX3_two_171 (by decide) ?_
                    refine lv_iload hx hb dX3_two_173 (lv_at hl 0 rfl) ?_
                    refine lv_imul hx hb dX3_two_175 ?_
                    refine lv_iload hx hb dX3_two_176 (lv_at hl 1 rfl) ?_
                    refine lv_iadd hx hb dX3_two_178 ?_
                    obtain rfl := Option.some.inj hF
                    exact W.iret (v := (((nI 10) * x7) + x8)) hx hb hr (fun t ht hW => ⟨⟨(((nI 10) * x7) + x8), (), rfl, rfl, QB.of ht hP hD⟩, hS.F ht⟩) hS.2.2 dX3_two_179
                  refine lv_icmp_gt (tgt := 180) hx hb dX3_two_168 (by decide) (fun hc => ?_) (fun hc => ?_)
                  · have hF := ift hc hF
                    exact kJ180 r165.2 x1 x2 x3 x4 x6 _ _ _ hF hP hD hS (lv_sub hl [1, 2, 3, 4, 5, 6] rfl)
                  · have hF := iff_ hc hF
                    exact kJ171 r165.2 x7 x8 _ _ _ hF hP hD hS (lv_sub hl [7, 8] rfl)
              refine lv_icmp_gt (tgt := 130) hx hb dX3_two_123 (by decide) (fun hc => ?_) (fun hc => ?_)
              · have hF := ift hc hF
                refine lv_iconst (v := nI 0) hx hb dX3_two_130 (by decide) ?_
                exact kJ131 r120.2 x1 x2 x3 x4 x6 (x6 / (nI 2)) (x6 - x6 / (nI 2) * (nI 2)) (nI 0) _ _ _ hF hP hD hS (lv_sub hl [2, 3, 4, 5, 6, 7, 1, 0] rfl)
              · have hF := iff_ hc hF
                refine lv_iconst (v := nI 1) hx hb dX3_two_126 (by decide) ?_
                refine lv_goto (tgt := 131) hx hb dX3_two_127 (by decide) ?_
                exact kJ131 r120.2 x1 x2 x3 x4 x6 (x6 / (nI 2)) (x6 - x6 / (nI 2) * (nI 2)) (nI 1) _ _ _ hF hP hD hS (lv_sub hl [2, 3, 4, 5, 6, 7, 1, 0] rfl)
        refine lv_istore (lv' := [(6, .int (nI 0)), (0, .ref (b 0)), (1, .int x1), (2, .int x2), (3, .int x3), (4, .int x4), (5, .int x5)]) hx hb dX3_two_73 hl (by decide) rfl (fun ls hl => ?_)
        exact kJ75 N tW x1 x2 x3 x4 (nI 0) _ _ _ hF hP hD hS (lv_sub hl [1, 2, 3, 4, 5, 0] rfl)
      · have hF := iff_ hc hF
        refine lv_aload_n hx hb dX3_two_65 rfl (lv_at hl 0 rfl) ?_
        refine lv_iload hx hb dX3_two_66 (lv_at hl 5 rfl) ?_
        have hPc := hP.sub (ws' := (cwM cI b tW)) [0, 1, 2, 3, 4, 5, 6, 7, 8, 9] rfl
        have hDc := hD.sub (ws' := (cwM cI b tW)) [0, 1, 2, 3, 4, 5, 6, 7, 8, 9] (by decide) rfl
        have hFc := va_free (wc := (cwM cI b tW)) hD hS hA [0, 1, 2, 3, 4, 5, 6, 7, 8, 9] rfl
        refine bd hF (fun r68 hG hF => ?_)
        refine va_calli (va_runV (As := [.int x5]) (rest := []) ⟨hx, hb, hml, hown, hts⟩ (c_X3_no l dC dI cI sf H.size N b tW x5 r68 hG) (cwV 1 hts gX3_two_X3_no rfl rfl rfl (by decide +kernel) ⟨Nat.le_of_ble_eq_true rfl, Nat.le_of_ble_eq_true rfl⟩) ⟨fun a U g mk q => ⟨q.1, q.2.call⟩, va_recv hK hP (ci := 3) (q0 := 0) rfl rfl, fun U hU hW => ⟨rfl, PB.of hU hW hPc hK hDc hNN hSF hS hFc⟩⟩ rfl rfl hl.1 rfl (lv_room (Nat.le_of_ble_eq_true rfl)) dX3_two_68 ⟨Nat.le_of_ble_eq_true rfl, Nat.le_of_ble_eq_true rfl⟩) hS (fun q _ h => hFc q h) hFc (fun z_ u_ t H locs ht hvm hw hB hz1 hk1 hS => ?_)
        subst z_
        obtain ⟨hP1, hD1⟩ := hB
        rw [ht] at hP1
        have hJ := vb_join (ws' := (cwM cI b r68.2)) hP hD [0, 1, 2, 3, 4, 5, 6, 7, 8, 9] [] [0, 1, 2, 3, 4, 5, 6, 7, 8, 9] rfl rfl (by decide) (by decide) hk1 hFc hP1 hD1 rfl (by decide) rfl
        clear hP hD hPc hDc hFc hP1 hD1 hk1 hz1 ht hvm hG
        obtain ⟨hP, hD⟩ := hJ
        obtain rfl := Option.some.inj hF
        exact W.iret (v := r68.1) hx hb hr (fun t ht hW => ⟨⟨r68.1, (), rfl, rfl, QB.of ht hP hD⟩, hS.F ht⟩) hS.2.2 dX3_two_71
    refine lv_if_ne (tgt := 60) hx hb dX3_two_31 (by decide) (fun hc => ?_) (fun hc => ?_)
    · have hF := ift hc hF
      exact kJ60 tW x1 x2 x3 x4 z0 _ _ _ hF hP hD hS (lv_sub hl [1, 2, 3, 4, 5, 0] rfl)
    · have hF := iff_ (fun h => h hc) hF
      refine lv_aload_n hx hb dX3_two_34 rfl (lv_at hl 1 rfl) ?_
      refine va_get (D := (dC, dI)) (ci := 3) (v := .ref (b 1)) (C := RX3) (T := TX3) (N := 15) hx hb hts inw_X3_two_X3 hown hK hP 0 rfl rfl 0 (by decide) (hts (.fieldLink RX3 9 "DeniedOfEachOtherModel" "s" "[I") (List.mem_of_getElem? (i := 1) rfl)) (fun _ h9 => h9) rfl dX3_two_35 ?_
      refine lv_iload_n hx hb dX3_two_38 rfl (lv_at hl 2 rfl) ?_
      have hPc := hP.sub (ws' := (cwA cI (b 1) tW.1)) [1] rfl
      have hDc := hD.sub (ws' := (cwA cI (b 1) tW.1)) [1] (by decide) rfl
      have hFc := va_free (wc := (cwA cI (b 1) tW.1)) hD hS hA [1] rfl
      refine bd hF (fun r39 hG hF => ?_)
      refine va_calli (va_runS (As := [.ref (b 1), .int x1]) (rest := []) ⟨hx, hb, hml, hown, hts⟩ (c_X3_isAlive l dC dI cI sf H.size N (b 1) tW.1 x1 r39 hG) (va_cwS 2 hts gX3_two_X3_isAlive rfl rfl rfl (by decide +kernel) ⟨Nat.le_of_ble_eq_true rfl, Nat.le_of_ble_eq_true rfl⟩) ⟨fun a U g mk q => ⟨q.1, q.2.call⟩, fun U hU hW => ⟨rfl, PB.of hU hW hPc hK hDc hNN hSF hS hFc⟩⟩ rfl rfl hl.1 rfl (lv_room (Nat.le_of_ble_eq_true rfl)) dX3_two_39 ⟨Nat.le_of_ble_eq_true rfl, Nat.le_of_ble_eq_true rfl⟩) hS (fun q _ h => hFc q h) hFc (fun z_ u_ t H locs ht hvm hw hB hz1 hk1 hS => ?_)
      subst z_
      obtain ⟨hP1, hD1⟩ := hB
      rw [ht] at hP1
      have hJ := vb_join (ws' := (cwM cI b tW)) hP hD [1] [0, 2, 3, 4, 5, 6, 7, 8, 9] [0, 9, 1, 2, 3, 4, 5, 6, 7, 8] rfl rfl (by decide) (by decide) hk1 hFc hP1 hD1 rfl (by decide) rfl
      clear hP hD hPc hDc hFc hP1 hD1 hk1 hz1 ht hvm hG
      obtain ⟨hP, hD⟩ := hJ
      refine vW_have (fun R av Q => ∀ (tW : MS) (x1 : Int32) (x2 : Int32) (x3 : Int32) (x4 : Int32) (H : Heap) (locs : List Loc) (ls : Array Slot), F_X3_two_56 N tW x1 x2 x3 x4 = some r → va_P (dC, dI) vwCl (cwM cI b tW) H → va_D A (cwM cI b tW) → va_S A s.heap H locs → lv_has ls 10 [(0, .ref (b 0)), (1, .int x1), (2, .int x2), (3, .int x3), (4, .int x4)] → W p l e R s m av below meth c H locs 0 0 Q (F0 m 56 ls [])) ?_ (fun kJ56 => ?_)
      · 
        intro tW x1 x2 x3 x4 H locs ls hF hP hD hS hl
        rw [F_X3_two_56] at hF
        refine lv_bipush (v := (-3)) hx hb dX3_two_56 (by decide) ?_
        refine lv_istore (lv' := [(5, .int (-3)), (0, .ref (b 0)), (1, .int x1), (2, .int x2), (3, .int x3), (4, .int x4)]) hx hb dX3_two_58 hl (by decide) rfl (fun ls hl => ?_)
        exact kJ60 tW x1 x2 x3 x4 (-3) _ _ _ hF hP hD hS (lv_sub hl [1, 2, 3, 4, 5, 0] rfl)
      refine lv_if_eq (tgt := 56) hx hb dX3_two_42 (by decide) (fun hc => ?_) (fun hc => ?_)
      · have hF := ift hc hF
        exact kJ56 tW x1 x2 x3 x4 _ _ _ hF hP hD hS (lv_sub hl [1, 2, 3, 4, 5] rfl)
      · have hF := iff_ hc hF
        refine lv_aload_n hx hb dX3_two_45 rfl (lv_at hl 1 rfl) ?_
        refine va_get (D := (dC, dI)) (ci := 3) (v := .ref (b 1)) (C := RX3) (T := TX3) (N := 15) hx hb hts inw_X3_two_X3 hown hK hP 0 rfl rfl 0 (by decide) (hts (.fieldLink RX3 9 "DeniedOfEachOtherModel" "s" "[I") (List.mem_of_getElem? (i := 1) rfl)) (fun _ h9 => h9) rfl dX3_two_46 ?_
        refine lv_iload_n hx hb dX3_two_49 rfl (lv_at hl 3 rfl) ?_
        have hPc := hP.sub (ws' := (cwA cI (b 1) tW.1)) [1] rfl
        have hDc := hD.sub (ws' := (cwA cI (b 1) tW.1)) [1] (by decide) rfl
        have hFc := va_free (wc := (cwA cI (b 1) tW.1)) hD hS hA [1] rfl
        refine bd hF (fun r50 hG hF => ?_)
        refine va_calli (va_runS (As := [.ref (b 1), .int x2]) (rest := []) ⟨hx, hb, hml, hown, hts⟩ (c_X3_isAlive l dC dI cI sf H.size N (b 1) tW.1 x2 r50 hG) (va_cwS 2 hts gX3_two_X3_isAlive rfl rfl rfl (by decide +kernel) ⟨Nat.le_of_ble_eq_true rfl, Nat.le_of_ble_eq_true rfl⟩) ⟨fun a U g mk q => ⟨q.1, q.2.call⟩, fun U hU hW => ⟨rfl, PB.of hU hW hPc hK hDc hNN hSF hS hFc⟩⟩ rfl rfl hl.1 rfl (lv_room (Nat.le_of_ble_eq_true rfl)) dX3_two_50 ⟨Nat.le_of_ble_eq_true rfl, Nat.le_of_ble_eq_true rfl⟩) hS (fun q _ h => hFc q h) hFc (fun z_ u_ t H locs ht hvm hw hB hz1 hk1 hS => ?_)
        subst z_
        obtain ⟨hP1, hD1⟩ := hB
        rw [ht] at hP1
        have hJ := vb_join (ws' := (cwM cI b tW)) hP hD [1] [0, 2, 3, 4, 5, 6, 7, 8, 9] [0, 9, 1, 2, 3, 4, 5, 6, 7, 8] rfl rfl (by decide) (by decide) hk1 hFc hP1 hD1 rfl (by decide) rfl
        clear hP hD hPc hDc hFc hP1 hD1 hk1 hz1 ht hvm hG
        obtain ⟨hP, hD⟩ := hJ
        refine lv_if_ne (tgt := 60) hx hb dX3_two_53 (by decide) (fun hc => ?_) (fun hc => ?_)
        · have hF := ift hc hF
          exact kJ60 tW x1 x2 x3 x4 z0 _ _ _ hF hP hD hS (lv_sub hl [1, 2, 3, 4, 5, 0] rfl)
        · have hF := iff_ (fun h => h hc) hF
          exact kJ56 tW x1 x2 x3 x4 _ _ _ hF hP hD hS (lv_sub hl [1, 2, 3, 4, 5] rfl)
  refine lv_if_eq (tgt := 26) hx hb dX3_two_6 (by decide) (fun hc => ?_) (fun hc => ?_)
  · have hF := ift hc hF
    refine lv_iconst (v := (-1)) hx hb dX3_two_26 (by decide) ?_
    exact kJ27 tW p1 p2 p3 p4 (-1) _ _ _ hF hP hD hS (lv_sub hl [0, 1, 2, 3, 4] rfl)
  · have hF := iff_ hc hF
    refine lv_iload_n hx hb dX3_two_9 rfl (lv_at hl 3 rfl) ?_
    have hPc := hP.sub (ws' := ([] : va_W)) [] rfl
    have hDc := hD.sub (ws' := ([] : va_W)) [] (by decide) rfl
    have hFc := va_free (wc := ([] : va_W)) hD hS hA [] rfl
    refine bd hF (fun r10 hG hF => ?_)
    refine va_calli (va_runS (As := [.int p3]) (rest := []) ⟨hx, hb, hml, hown, hts⟩ (c_X3_isTopic l dC dI cI sf H.size N  p3 r10 hG) (va_cwS 1 hts gX3_two_X3_isTopic rfl rfl rfl (by decide +kernel) ⟨Nat.le_of_ble_eq_true rfl, Nat.le_of_ble_eq_true rfl⟩) ⟨fun a U g mk q => ⟨q.1, q.2.call⟩, fun U hU hW => ⟨rfl, PB.of hU hW hPc hK hDc hNN hSF hS hFc⟩⟩ rfl rfl hl.1 rfl (lv_room (Nat.le_of_ble_eq_true rfl)) dX3_two_10 ⟨Nat.le_of_ble_eq_true rfl, Nat.le_of_ble_eq_true rfl⟩) hS (fun q _ h => hFc q h) hFc (fun z_ u_ t H locs ht hvm hw hB hz1 hk1 hS => ?_)
    subst z_
    obtain ⟨hP1, hD1⟩ := hB
    rw [ht] at hP1
    have hJ := vb_join (ws' := (cwM cI b tW)) hP hD [] [0, 1, 2, 3, 4, 5, 6, 7, 8, 9] [0, 1, 2, 3, 4, 5, 6, 7, 8, 9] rfl rfl (by decide) (by decide) hk1 hFc hP1 hD1 rfl (by decide) rfl
    clear hP hD hPc hDc hFc hP1 hD1 hk1 hz1 ht hvm hG
    obtain ⟨hP, hD⟩ := hJ
    refine lv_if_eq (tgt := 26) hx hb dX3_two_13 (by decide) (fun hc => ?_) (fun hc => ?_)
    · have hF := ift hc hF
      refine lv_iconst (v := (-1)) hx hb dX3_two_26 (by decide) ?_
      exact kJ27 tW p1 p2 p3 p4 (-1) _ _ _ hF hP hD hS (lv_sub hl [0, 1, 2, 3, 4] rfl)
    · have hF := iff_ hc hF
      refine lv_iload hx hb dX3_two_16 (lv_at hl 4 rfl) ?_
      refine lv_bipush (v := nI 60) hx hb dX3_two_18 (by decide) ?_
      have hPc := hP.sub (ws' := ([] : va_W)) [] rfl
      have hDc := hD.sub (ws' := ([] : va_W)) [] (by decide) rfl
      have hFc := va_free (wc := ([] : va_W)) hD hS hA [] rfl
      refine bd hF (fun r20 hG hF => ?_)
      refine va_calli (va_runS (As := [.int p4, .int (nI 60)]) (rest := []) ⟨hx, hb, hml, hown, hts⟩ (c_X3_wrongBy l dC dI cI sf H.size N  p4 (nI 60) r20 hG) (va_cwS 2 hts gX3_two_X3_wrongBy rfl rfl rfl (by decide +kernel) ⟨Nat.le_of_ble_eq_true rfl, Nat.le_of_ble_eq_true rfl⟩) ⟨fun a U g mk q => ⟨q.1, q.2.call⟩, fun U hU hW => ⟨rfl, PB.of hU hW hPc hK hDc hNN hSF hS hFc⟩⟩ rfl rfl hl.1 rfl (lv_room (Nat.le_of_ble_eq_true rfl)) dX3_two_20 ⟨Nat.le_of_ble_eq_true rfl, Nat.le_of_ble_eq_true rfl⟩) hS (fun q _ h => hFc q h) hFc (fun z_ u_ t H locs ht hvm hw hB hz1 hk1 hS => ?_)
      subst z_
      obtain ⟨hP1, hD1⟩ := hB
      rw [ht] at hP1
      have hJ := vb_join (ws' := (cwM cI b tW)) hP hD [] [0, 1, 2, 3, 4, 5, 6, 7, 8, 9] [0, 1, 2, 3, 4, 5, 6, 7, 8, 9] rfl rfl (by decide) (by decide) hk1 hFc hP1 hD1 rfl (by decide) rfl
      clear hP hD hPc hDc hFc hP1 hD1 hk1 hz1 ht hvm hG
      obtain ⟨hP, hD⟩ := hJ
      refine lv_goto (tgt := 27) hx hb dX3_two_23 (by decide) ?_
      exact kJ27 tW p1 p2 p3 p4 r20 _ _ _ hF hP hD hS (lv_sub hl [0, 1, 2, 3, 4] rfl)
