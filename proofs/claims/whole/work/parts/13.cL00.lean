theorem inw_X0_append_X0 : ∀ w ∈ u_ws RX0 TX0 2, w ∈ wsX0_append := fun _ h => List.mem_cons_of_mem _ (List.mem_append_right _ h)
set_option maxHeartbeats 4000000 in
set_option maxRecDepth 100000 in
theorem c_X0_append (l : Launch) (dC : Nat → ClassId) (dI : Nat → Nat → Nat) (cI : ClassId) (sf : SFP) (sz : Nat) (N : Nat) (h0 h1 : Nat) (tW : LetS) (p1 : Int32) (r : (Int32 × LetS)) (hF : F_X0_append N tW p1 = some r) : Met l yX0_append wsX0_append ({ frames := 0, cells := 0, slots := 0, locals := 0 }) (va_Pc [.ref h0, .int p1] (PB (dC, dI) cI (cwL cI h0 h1 tW) sz sf)) (va_Qi (fun (z : Int32) (_ : Unit) => z = r.1) (fun _ t => QB (dC, dI) (cwL cI h0 h1 r.2) (va_A (cwL cI h0 h1 tW) sz) t) (va_A (cwL cI h0 h1 tW) sz)) 0 0 (va_A (cwL cI h0 h1 tW) sz) := by
  refine Met.ofW (cc := cX0_append) (maxL := 2) (ret := (some .int)) (by decide) rfl ?_
  intro p e s m args below meth c s₁ B hml hv
  obtain ⟨rfl, hsz, hP, hK, hD0, hNN, hSF⟩ := hv
  have hx := B.exec
  have hb := B.bytes
  have hr := B.returns
  have hts := atoms_spec (ws := wsX0_append) B.pre
  have hown : s.vm.findClass RX0 = some m.cls := findClass_of_methodNamed B.named
  have hlocks := B.notSynchronized
  subst hsz
  have hD := hD0.self (sz := s.heap.size)
  generalize hAe : va_A (cwL cI h0 h1 tW) s.heap.size = A at hD hSF ⊢
  have hA : ∀ q : Nat, s.heap.size ≤ q → A q := fun q h => by rw [← hAe]; exact Or.inr h
  clear hAe hD0
  have hS : va_S A s.heap s.heap [] := va_S.rf
  have hl := lv_entry ([.ref h0, .int p1]) (n := 2) (Nat.le_of_ble_eq_true rfl)
  rw [lg_entry_eq]
  generalize (lg_sl ([.ref h0, .int p1]) ++ List.replicate (2 - (lg_sl ([.ref h0, .int p1])).length) Slot.unset).toArray = ls at hl ⊢
  have hl : lv_has ls 2 [(0, .ref h0), (1, .int p1)] := hl
  rw [F_X0_append] at hF
  refine lv_aload_n hx hb dX0_append_0 rfl (lv_at hl 0 rfl) ?_
  refine va_get (D := (dC, dI)) (ci := 0) (v := .int tW.2) (C := RX0) (T := TX0) (N := 2) hx hb hts inw_X0_append_X0 hown hK hP 0 rfl rfl 1 (by decide) (hts (.fieldLink RX0 15 "DeniedOfEachOther$Letters" "size" "I") (List.mem_of_getElem? (i := 1) rfl)) (fun _ h9 => h9) rfl dX0_append_1 ?_
  refine lv_bipush (v := nI 96) hx hb dX0_append_4 (by decide) ?_
  refine lv_icmp_lt (tgt := 14) hx hb dX0_append_6 (by decide) (fun hc => ?_) (fun hc => ?_)
  · have hF := ift hc hF
    refine lv_aload_n hx hb dX0_append_14 rfl (lv_at hl 0 rfl) ?_
    refine va_get (D := (dC, dI)) (ci := 0) (v := .ref h1) (C := RX0) (T := TX0) (N := 2) hx hb hts inw_X0_append_X0 hown hK hP 0 rfl rfl 0 (by decide) (hts (.fieldLink RX0 9 "DeniedOfEachOther$Letters" "signs" "[I") (List.mem_of_getElem? (i := 2) rfl)) (fun _ h9 => h9) rfl dX0_append_15 ?_
    refine lv_aload_n hx hb dX0_append_18 rfl (lv_at hl 0 rfl) ?_
    refine va_get (D := (dC, dI)) (ci := 0) (v := .int tW.2) (C := RX0) (T := TX0) (N := 2) hx hb hts inw_X0_append_X0 hown hK hP 0 rfl rfl 1 (by decide) (hts (.fieldLink RX0 15 "DeniedOfEachOther$Letters" "size" "I") (List.mem_of_getElem? (i := 1) rfl)) (fun _ h9 => h9) rfl dX0_append_19 ?_
    refine lv_iload_n hx hb dX0_append_22 rfl (lv_at hl 1 rfl) ?_
    refine cki hF (fun hi hF => ?_)
    refine va_iast (D := (dC, dI)) hx hb hK hP hD hS 1 0 rfl rfl hi dX0_append_23 (fun H locs hP hD hS => ?_)
    have hP : va_P (dC, dI) vwCl (cwL cI h0 h1 ((upd tW.1 tW.2.toNatClampNeg p1), tW.2)) H := hP
    have hD : va_D A (cwL cI h0 h1 ((upd tW.1 tW.2.toNatClampNeg p1), tW.2)) := hD
    refine lv_aload_n hx hb dX0_append_24 rfl (lv_at hl 0 rfl) ?_
    refine lv_dup hx hb dX0_append_25 rfl ?_
    refine va_get (D := (dC, dI)) (ci := 0) (v := .int tW.2) (C := RX0) (T := TX0) (N := 2) hx hb hts inw_X0_append_X0 hown hK hP 0 rfl rfl 1 (by decide) (hts (.fieldLink RX0 15 "DeniedOfEachOther$Letters" "size" "I") (List.mem_of_getElem? (i := 1) rfl)) (fun _ h9 => h9) rfl dX0_append_26 ?_
    refine lv_iconst (v := nI 1) hx hb dX0_append_29 (by decide) ?_
    refine lv_iadd hx hb dX0_append_30 ?_
    refine va_put (D := (dC, dI)) (ci := 0) (v := .int (tW.2 + (nI 1))) (ty := .int) (C := RX0) (T := TX0) (N := 2) hx hb hts inw_X0_append_X0 tyX0 tyX0_ok nmX0 hown hK hP hD hS 0 rfl rfl 1 (by decide) (hts (.fieldLink RX0 15 "DeniedOfEachOther$Letters" "size" "I") (List.mem_of_getElem? (i := 1) rfl)) (fun _ h9 => h9) rfl (by decide +kernel) rfl rfl (Nat.le_of_ble_eq_true rfl) dX0_append_31 (fun H locs hP hD hS => ?_)
    have hP : va_P (dC, dI) vwCl (cwL cI h0 h1 ((upd tW.1 tW.2.toNatClampNeg p1), (tW.2 + (nI 1)))) H := hP
    have hD : va_D A (cwL cI h0 h1 ((upd tW.1 tW.2.toNatClampNeg p1), (tW.2 + (nI 1)))) := hD
    refine lv_aload_n hx hb dX0_append_34 rfl (lv_at hl 0 rfl) ?_
    refine va_get (D := (dC, dI)) (ci := 0) (v := .int (tW.2 + (nI 1))) (C := RX0) (T := TX0) (N := 2) hx hb hts inw_X0_append_X0 hown hK hP 0 rfl rfl 1 (by decide) (hts (.fieldLink RX0 15 "DeniedOfEachOther$Letters" "size" "I") (List.mem_of_getElem? (i := 1) rfl)) (fun _ h9 => h9) rfl dX0_append_35 ?_
    obtain rfl := Option.some.inj hF
    exact W.iret (v := (tW.2 + (nI 1))) hx hb hr (fun t ht hW => ⟨⟨(tW.2 + (nI 1)), (), rfl, rfl, QB.of ht hP hD⟩, hS.F ht⟩) hS.2.2 dX0_append_38
  · have hF := iff_ hc hF
    refine lv_aload_n hx hb dX0_append_9 rfl (lv_at hl 0 rfl) ?_
    refine va_get (D := (dC, dI)) (ci := 0) (v := .int tW.2) (C := RX0) (T := TX0) (N := 2) hx hb hts inw_X0_append_X0 hown hK hP 0 rfl rfl 1 (by decide) (hts (.fieldLink RX0 15 "DeniedOfEachOther$Letters" "size" "I") (List.mem_of_getElem? (i := 1) rfl)) (fun _ h9 => h9) rfl dX0_append_10 ?_
    obtain rfl := Option.some.inj hF
    exact W.iret (v := tW.2) hx hb hr (fun t ht hW => ⟨⟨tW.2, (), rfl, rfl, QB.of ht hP hD⟩, hS.F ht⟩) hS.2.2 dX0_append_13
theorem inw_X0_sign_X0 : ∀ w ∈ u_ws RX0 TX0 2, w ∈ wsX0_sign := fun _ h => List.mem_cons_of_mem _ (List.mem_append_right _ h)
set_option maxHeartbeats 4000000 in
set_option maxRecDepth 100000 in
theorem c_X0_sign (l : Launch) (dC : Nat → ClassId) (dI : Nat → Nat → Nat) (cI : ClassId) (sf : SFP) (sz : Nat) (N : Nat) (h0 h1 : Nat) (tW : LetS) (p1 : Int32) (r : Int32) (hF : F_X0_sign N tW p1 = some r) : Met l yX0_sign wsX0_sign ({ frames := 0, cells := 0, slots := 0, locals := 0 }) (va_Pc [.ref h0, .int p1] (PB (dC, dI) cI (cwL cI h0 h1 tW) sz sf)) (va_Qi (fun (z : Int32) (_ : Unit) => z = r) (fun _ t => QB (dC, dI) (cwL cI h0 h1 tW) (va_A (cwL cI h0 h1 tW) sz) t) (va_A (cwL cI h0 h1 tW) sz)) 0 0 (va_A (cwL cI h0 h1 tW) sz) := by
  refine Met.ofW (cc := cX0_sign) (maxL := 2) (ret := (some .int)) (by decide) rfl ?_
  intro p e s m args below meth c s₁ B hml hv
  obtain ⟨rfl, hsz, hP, hK, hD0, hNN, hSF⟩ := hv
  have hx := B.exec
  have hb := B.bytes
  have hr := B.returns
  have hts := atoms_spec (ws := wsX0_sign) B.pre
  have hown : s.vm.findClass RX0 = some m.cls := findClass_of_methodNamed B.named
  have hlocks := B.notSynchronized
  subst hsz
  have hD := hD0.self (sz := s.heap.size)
  generalize hAe : va_A (cwL cI h0 h1 tW) s.heap.size = A at hD hSF ⊢
  have hA : ∀ q : Nat, s.heap.size ≤ q → A q := fun q h => by rw [← hAe]; exact Or.inr h
  clear hAe hD0
  have hS : va_S A s.heap s.heap [] := va_S.rf
  have hl := lv_entry ([.ref h0, .int p1]) (n := 2) (Nat.le_of_ble_eq_true rfl)
  rw [lg_entry_eq]
  generalize (lg_sl ([.ref h0, .int p1]) ++ List.replicate (2 - (lg_sl ([.ref h0, .int p1])).length) Slot.unset).toArray = ls at hl ⊢
  have hl : lv_has ls 2 [(0, .ref h0), (1, .int p1)] := hl
  rw [F_X0_sign] at hF
  refine lv_iload_n hx hb dX0_sign_0 rfl (lv_at hl 1 rfl) ?_
  refine lv_if_lt (tgt := 21) hx hb dX0_sign_1 (by decide) (fun hc => ?_) (fun hc => ?_)
  · have hF := ift hc hF
    refine lv_iconst (v := (-1)) hx hb dX0_sign_21 (by decide) ?_
    obtain rfl := Option.some.inj hF
    exact W.iret (v := (-1)) hx hb hr (fun t ht hW => ⟨⟨(-1), (), rfl, rfl, QB.of ht hP hD⟩, hS.F ht⟩) hS.2.2 dX0_sign_22
  · have hF := iff_ hc hF
    refine lv_iload_n hx hb dX0_sign_4 rfl (lv_at hl 1 rfl) ?_
    refine lv_aload_n hx hb dX0_sign_5 rfl (lv_at hl 0 rfl) ?_
    refine va_get (D := (dC, dI)) (ci := 0) (v := .int tW.2) (C := RX0) (T := TX0) (N := 2) hx hb hts inw_X0_sign_X0 hown hK hP 0 rfl rfl 1 (by decide) (hts (.fieldLink RX0 15 "DeniedOfEachOther$Letters" "size" "I") (List.mem_of_getElem? (i := 1) rfl)) (fun _ h9 => h9) rfl dX0_sign_6 ?_
    refine lv_icmp_ge (tgt := 21) hx hb dX0_sign_9 (by decide) (fun hc => ?_) (fun hc => ?_)
    · have hF := ift hc hF
      refine lv_iconst (v := (-1)) hx hb dX0_sign_21 (by decide) ?_
      obtain rfl := Option.some.inj hF
      exact W.iret (v := (-1)) hx hb hr (fun t ht hW => ⟨⟨(-1), (), rfl, rfl, QB.of ht hP hD⟩, hS.F ht⟩) hS.2.2 dX0_sign_22
    · have hF := iff_ hc hF
      refine lv_aload_n hx hb dX0_sign_12 rfl (lv_at hl 0 rfl) ?_
      refine va_get (D := (dC, dI)) (ci := 0) (v := .ref h1) (C := RX0) (T := TX0) (N := 2) hx hb hts inw_X0_sign_X0 hown hK hP 0 rfl rfl 0 (by decide) (hts (.fieldLink RX0 9 "DeniedOfEachOther$Letters" "signs" "[I") (List.mem_of_getElem? (i := 2) rfl)) (fun _ h9 => h9) rfl dX0_sign_13 ?_
      refine lv_iload_n hx hb dX0_sign_16 rfl (lv_at hl 1 rfl) ?_
      refine cki hF (fun hi hF => ?_)
      refine va_iald (D := (dC, dI)) hx hb hK hP 1 0 rfl rfl hi dX0_sign_17 ?_
      refine lv_goto (tgt := 22) hx hb dX0_sign_18 (by decide) ?_
      obtain rfl := Option.some.inj hF
      exact W.iret (v := (tW.1 p1.toNatClampNeg)) hx hb hr (fun t ht hW => ⟨⟨(tW.1 p1.toNatClampNeg), (), rfl, rfl, QB.of ht hP hD⟩, hS.F ht⟩) hS.2.2 dX0_sign_22
theorem inw_X0_isDigit_X0 : ∀ w ∈ u_ws RX0 TX0 2, w ∈ wsX0_isDigit := fun _ h => List.mem_cons_of_mem _ (List.mem_append_right _ h)
set_option maxHeartbeats 4000000 in
set_option maxRecDepth 100000 in
theorem c_X0_isDigit (l : Launch) (dC : Nat → ClassId) (dI : Nat → Nat → Nat) (cI : ClassId) (sf : SFP) (sz : Nat) (N : Nat) (h0 h1 : Nat) (tW : LetS) (p1 : Int32) (r : Int32) (hF : F_X0_isDigit N tW p1 = some r) : Met l yX0_isDigit wsX0_isDigit ({ frames := 1, cells := 0, slots := 0, locals := 21 }) (va_Pc [.ref h0, .int p1] (PB (dC, dI) cI (cwL cI h0 h1 tW) sz sf)) (va_Qi (fun (z : Int32) (_ : Unit) => z = r) (fun _ t => QB (dC, dI) (cwL cI h0 h1 tW) (va_A (cwL cI h0 h1 tW) sz) t) (va_A (cwL cI h0 h1 tW) sz)) 0 0 (va_A (cwL cI h0 h1 tW) sz) := by
  refine Met.ofW (cc := cX0_isDigit) (maxL := 2) (ret := (some .boolean)) (by decide) rfl ?_
  intro p e s m args below meth c s₁ B hml hv
  obtain ⟨rfl, hsz, hP, hK, hD0, hNN, hSF⟩ := hv
  have hx := B.exec
  have hb := B.bytes
  have hr := B.returns
  have hts := atoms_spec (ws := wsX0_isDigit) B.pre
  have hown : s.vm.findClass RX0 = some m.cls := findClass_of_methodNamed B.named
  have hlocks := B.notSynchronized
  subst hsz
  have hD := hD0.self (sz := s.heap.size)
  generalize hAe : va_A (cwL cI h0 h1 tW) s.heap.size = A at hD hSF ⊢
  have hA : ∀ q : Nat, s.heap.size ≤ q → A q := fun q h => by rw [← hAe]; exact Or.inr h
  clear hAe hD0
  have hS : va_S A s.heap s.heap [] := va_S.rf
  have hl := lv_entry ([.ref h0, .int p1]) (n := 2) (Nat.le_of_ble_eq_true rfl)
  rw [lg_entry_eq]
  generalize (lg_sl ([.ref h0, .int p1]) ++ List.replicate (2 - (lg_sl ([.ref h0, .int p1])).length) Slot.unset).toArray = ls at hl ⊢
  have hl : lv_has ls 2 [(0, .ref h0), (1, .int p1)] := hl
  rw [F_X0_isDigit] at hF
  refine lv_aload_n hx hb dX0_isDigit_0 rfl (lv_at hl 0 rfl) ?_
  refine lv_iload_n hx hb dX0_isDigit_1 rfl (lv_at hl 1 rfl) ?_
  have hPc := hP.sub (ws' := (cwL cI h0 h1 tW)) [0, 1] rfl
  have hDc := hD.sub (ws' := (cwL cI h0 h1 tW)) [0, 1] (by decide) rfl
  have hFc := va_free (wc := (cwL cI h0 h1 tW)) hD hS hA [0, 1] rfl
  refine bd hF (fun r2 hG hF => ?_)
  refine va_calli (va_runV (As := [.int p1]) (rest := []) ⟨hx, hb, hml, hown, hts⟩ (c_X0_sign l dC dI cI sf s.heap.size N h0 h1 tW p1 r2 hG) (cwV 1 hts gX0_isDigit_X0_sign rfl rfl rfl (by decide +kernel) ⟨Nat.le_of_ble_eq_true rfl, Nat.le_of_ble_eq_true rfl⟩) ⟨fun a U g mk q => ⟨q.1, q.2.call⟩, va_recv hK hP (ci := 0) (q0 := 0) rfl rfl, fun U hU hW => ⟨rfl, PB.of hU hW hPc hK hDc hNN hSF hS hFc⟩⟩ rfl rfl hl.1 rfl (lv_room (Nat.le_of_ble_eq_true rfl)) dX0_isDigit_2 ⟨Nat.le_of_ble_eq_true rfl, Nat.le_of_ble_eq_true rfl⟩) hS (fun q _ h => hFc q h) hFc (fun z_ u_ t H locs ht hvm hw hB hz1 hk1 hS => ?_)
  subst z_
  obtain ⟨hP1, hD1⟩ := hB
  rw [ht] at hP1
  have hJ := vb_join (ws' := (cwL cI h0 h1 tW)) hP hD [0, 1] [] [0, 1] rfl rfl (by decide) (by decide) hk1 hFc hP1 hD1 rfl (by decide) rfl
  clear hP hD hPc hDc hFc hP1 hD1 hk1 hz1 ht hvm hG
  obtain ⟨hP, hD⟩ := hJ
  refine lv_bipush (v := nI 48) hx hb dX0_isDigit_5 (by decide) ?_
  refine lv_icmp_lt (tgt := 24) hx hb dX0_isDigit_7 (by decide) (fun hc => ?_) (fun hc => ?_)
  · have hF := ift hc hF
    refine lv_iconst (v := nI 0) hx hb dX0_isDigit_24 (by decide) ?_
    obtain rfl := Option.some.inj hF
    exact W.zret (v := (nI 0)) (ty := .boolean) hx hb hr (by decide +kernel) (fun t ht hW => ⟨⟨(nI 0), (), rfl, rfl, QB.of ht hP hD⟩, hS.F ht⟩) hS.2.2 dX0_isDigit_25
  · have hF := iff_ hc hF
    refine lv_aload_n hx hb dX0_isDigit_10 rfl (lv_at hl 0 rfl) ?_
    refine lv_iload_n hx hb dX0_isDigit_11 rfl (lv_at hl 1 rfl) ?_
    have hPc := hP.sub (ws' := (cwL cI h0 h1 tW)) [0, 1] rfl
    have hDc := hD.sub (ws' := (cwL cI h0 h1 tW)) [0, 1] (by decide) rfl
    have hFc := va_free (wc := (cwL cI h0 h1 tW)) hD hS hA [0, 1] rfl
    refine bd hF (fun r12 hG hF => ?_)
    refine va_calli (va_runV (As := [.int p1]) (rest := []) ⟨hx, hb, hml, hown, hts⟩ (c_X0_sign l dC dI cI sf H.size N h0 h1 tW p1 r12 hG) (cwV 1 hts gX0_isDigit_X0_sign rfl rfl rfl (by decide +kernel) ⟨Nat.le_of_ble_eq_true rfl, Nat.le_of_ble_eq_true rfl⟩) ⟨fun a U g mk q => ⟨q.1, q.2.call⟩, va_recv hK hP (ci := 0) (q0 := 0) rfl rfl, fun U hU hW => ⟨rfl, PB.of hU hW hPc hK hDc hNN hSF hS hFc⟩⟩ rfl rfl hl.1 rfl (lv_room (Nat.le_of_ble_eq_true rfl)) dX0_isDigit_12 ⟨Nat.le_of_ble_eq_true rfl, Nat.le_of_ble_eq_true rfl⟩) hS (fun q _ h => hFc q h) hFc (fun z_ u_ t H locs ht hvm hw hB hz1 hk1 hS => ?_)
    subst z_
    obtain ⟨hP1, hD1⟩ := hB
    rw [ht] at hP1
    have hJ := vb_join (ws' := (cwL cI h0 h1 tW)) hP hD [0, 1] [] [0, 1] rfl rfl (by decide) (by decide) hk1 hFc hP1 hD1 rfl (by decide) rfl
    clear hP hD hPc hDc hFc hP1 hD1 hk1 hz1 ht hvm hG
    obtain ⟨hP, hD⟩ := hJ
    refine lv_bipush (v := nI 57) hx hb dX0_isDigit_15 (by decide) ?_
    refine lv_icmp_gt (tgt := 24) hx hb dX0_isDigit_17 (by decide) (fun hc => ?_) (fun hc => ?_)
    · have hF := ift hc hF
      refine lv_iconst (v := nI 0) hx hb dX0_isDigit_24 (by decide) ?_
      obtain rfl := Option.some.inj hF
      exact W.zret (v := (nI 0)) (ty := .boolean) hx hb hr (by decide +kernel) (fun t ht hW => ⟨⟨(nI 0), (), rfl, rfl, QB.of ht hP hD⟩, hS.F ht⟩) hS.2.2 dX0_isDigit_25
    · have hF := iff_ hc hF
      refine lv_iconst (v := nI 1) hx hb dX0_isDigit_20 (by decide) ?_
      refine lv_goto (tgt := 25) hx hb dX0_isDigit_21 (by decide) ?_
      obtain rfl := Option.some.inj hF
      exact W.zret (v := (nI 1)) (ty := .boolean) hx hb hr (by decide +kernel) (fun t ht hW => ⟨⟨(nI 1), (), rfl, rfl, QB.of ht hP hD⟩, hS.F ht⟩) hS.2.2 dX0_isDigit_25
theorem inw_X0_behindDigits_X0 : ∀ w ∈ u_ws RX0 TX0 2, w ∈ wsX0_behindDigits := fun _ h => List.mem_cons_of_mem _ (List.mem_append_right _ h)
set_option maxHeartbeats 4000000 in
set_option maxRecDepth 100000 in
theorem c_X0_behindDigits (l : Launch) (dC : Nat → ClassId) (dI : Nat → Nat → Nat) (cI : ClassId) (sf : SFP) (sz : Nat) (N : Nat) (h0 h1 : Nat) (tW : LetS) (p1 : Int32) (p2 : Int32) (p3 : Int32) (r : Int32) (hF : F_X0_behindDigits N tW p1 p2 p3 = some r) : Met l yX0_behindDigits wsX0_behindDigits ({ frames := 2, cells := 0, slots := 0, locals := 42 }) (va_Pc [.ref h0, .int p1, .int p2, .int p3] (PB (dC, dI) cI (cwL cI h0 h1 tW) sz sf)) (va_Qi (fun (z : Int32) (_ : Unit) => z = r) (fun _ t => QB (dC, dI) (cwL cI h0 h1 tW) (va_A (cwL cI h0 h1 tW) sz) t) (va_A (cwL cI h0 h1 tW) sz)) 0 0 (va_A (cwL cI h0 h1 tW) sz) := by
  refine Met.ofW (cc := cX0_behindDigits) (maxL := 5) (ret := (some .int)) (by decide) rfl ?_
  intro p e s m args below meth c s₁ B hml hv
  obtain ⟨rfl, hsz, hP, hK, hD0, hNN, hSF⟩ := hv
  have hx := B.exec
  have hb := B.bytes
  have hr := B.returns
  have hts := atoms_spec (ws := wsX0_behindDigits) B.pre
  have hown : s.vm.findClass RX0 = some m.cls := findClass_of_methodNamed B.named
  have hlocks := B.notSynchronized
  subst hsz
  have hD := hD0.self (sz := s.heap.size)
  generalize hAe : va_A (cwL cI h0 h1 tW) s.heap.size = A at hD hSF ⊢
  have hA : ∀ q : Nat, s.heap.size ≤ q → A q := fun q h => by rw [← hAe]; exact Or.inr h
  clear hAe hD0
  have hS : va_S A s.heap s.heap [] := va_S.rf
  have hl := lv_entry ([.ref h0, .int p1, .int p2, .int p3]) (n := 5) (Nat.le_of_ble_eq_true rfl)
  rw [lg_entry_eq]
  generalize (lg_sl ([.ref h0, .int p1, .int p2, .int p3]) ++ List.replicate (5 - (lg_sl ([.ref h0, .int p1, .int p2, .int p3])).length) Slot.unset).toArray = ls at hl ⊢
  have hl : lv_has ls 5 [(0, .ref h0), (1, .int p1), (2, .int p2), (3, .int p3)] := hl
  rw [F_X0_behindDigits] at hF
  refine lv_iload_n hx hb dX0_behindDigits_0 rfl (lv_at hl 1 rfl) ?_
  refine vW_have (fun R av Q => ∀ (n3 : Nat) (x1 : Int32) (x2 : Int32) (x3 : Int32) (x4 : Int32) (H : Heap) (locs : List Loc) (ls : Array Slot), F_X0_behindDigits_3 N tW n3 x1 x2 x3 x4 = some r → va_P (dC, dI) vwCl (cwL cI h0 h1 tW) H → va_D A (cwL cI h0 h1 tW) → va_S A s.heap H locs → lv_has ls 5 [(0, .ref h0), (1, .int x1), (2, .int x2), (3, .int x3), (4, .int x4)] → W p l e R s m av below meth c H locs 0 0 Q (F0 m 3 ls [])) ?_ (fun kJ3 => ?_)
  · intro n3
    induction n3 with
    | zero => intro x1 x2 x3 x4 H locs ls hF; exact nn hF
    | succ n3 ih3 =>
      intro x1 x2 x3 x4 H locs ls hF hP hD hS hl
      rw [F_X0_behindDigits_3] at hF
      refine lv_iload hx hb dX0_behindDigits_3 (lv_at hl 4 rfl) ?_
      refine lv_iload_n hx hb dX0_behindDigits_5 rfl (lv_at hl 1 rfl) ?_
      refine lv_iload_n hx hb dX0_behindDigits_6 rfl (lv_at hl 3 rfl) ?_
      refine lv_iadd hx hb dX0_behindDigits_7 ?_
      refine vW_have (fun R av Q => ∀ (x1 : Int32) (x2 : Int32) (x4 : Int32) (H : Heap) (locs : List Loc) (ls : Array Slot), F_X0_behindDigits_26 N tW x1 x2 x4 = some r → va_P (dC, dI) vwCl (cwL cI h0 h1 tW) H → va_D A (cwL cI h0 h1 tW) → va_S A s.heap H locs → lv_has ls 5 [(0, .ref h0), (1, .int x1), (2, .int x2), (4, .int x4)] → W p l e R s m av below meth c H locs 0 0 Q (F0 m 26 ls [])) ?_ (fun kJ26 => ?_)
      · 
        intro x1 x2 x4 H locs ls hF hP hD hS hl
        rw [F_X0_behindDigits_26] at hF
        refine lv_iload hx hb dX0_behindDigits_26 (lv_at hl 3 rfl) ?_
        refine lv_iload_n hx hb dX0_behindDigits_28 rfl (lv_at hl 1 rfl) ?_
        refine lv_iload_n hx hb dX0_behindDigits_29 rfl (lv_at hl 2 rfl) ?_
        refine lv_iadd hx hb dX0_behindDigits_30 ?_
        refine lv_icmp_lt (tgt := 45) hx hb dX0_behindDigits_31 (by decide) (fun hc => ?_) (fun hc => ?_)
        · have hF := ift hc hF
          refine lv_iconst (v := (-1)) hx hb dX0_behindDigits_45 (by decide) ?_
          refine lv_iload hx hb dX0_behindDigits_46 (lv_at hl 3 rfl) ?_
          refine lv_isub hx hb dX0_behindDigits_48 ?_
          obtain rfl := Option.some.inj hF
          exact W.iret (v := ((-1) - x4)) hx hb hr (fun t ht hW => ⟨⟨((-1) - x4), (), rfl, rfl, QB.of ht hP hD⟩, hS.F ht⟩) hS.2.2 dX0_behindDigits_49
        · have hF := iff_ hc hF
          refine lv_aload_n hx hb dX0_behindDigits_34 rfl (lv_at hl 0 rfl) ?_
          refine lv_iload hx hb dX0_behindDigits_35 (lv_at hl 3 rfl) ?_
          have hPc := hP.sub (ws' := (cwL cI h0 h1 tW)) [0, 1] rfl
          have hDc := hD.sub (ws' := (cwL cI h0 h1 tW)) [0, 1] (by decide) rfl
          have hFc := va_free (wc := (cwL cI h0 h1 tW)) hD hS hA [0, 1] rfl
          refine bd hF (fun r37 hG hF => ?_)
          refine va_calli (va_runV (As := [.int x4]) (rest := []) ⟨hx, hb, hml, hown, hts⟩ (c_X0_sign l dC dI cI sf H.size N h0 h1 tW x4 r37 hG) (cwV 1 hts gX0_behindDigits_X0_sign rfl rfl rfl (by decide +kernel) ⟨Nat.le_of_ble_eq_true rfl, Nat.le_of_ble_eq_true rfl⟩) ⟨fun a U g mk q => ⟨q.1, q.2.call⟩, va_recv hK hP (ci := 0) (q0 := 0) rfl rfl, fun U hU hW => ⟨rfl, PB.of hU hW hPc hK hDc hNN hSF hS hFc⟩⟩ rfl rfl hl.1 rfl (lv_room (Nat.le_of_ble_eq_true rfl)) dX0_behindDigits_37 ⟨Nat.le_of_ble_eq_true rfl, Nat.le_of_ble_eq_true rfl⟩) hS (fun q _ h => hFc q h) hFc (fun z_ u_ t H locs ht hvm hw hB hz1 hk1 hS => ?_)
          subst z_
          obtain ⟨hP1, hD1⟩ := hB
          rw [ht] at hP1
          have hJ := vb_join (ws' := (cwL cI h0 h1 tW)) hP hD [0, 1] [] [0, 1] rfl rfl (by decide) (by decide) hk1 hFc hP1 hD1 rfl (by decide) rfl
          clear hP hD hPc hDc hFc hP1 hD1 hk1 hz1 ht hvm hG
          obtain ⟨hP, hD⟩ := hJ
          refine lv_bipush (v := nI 59) hx hb dX0_behindDigits_40 (by decide) ?_
          refine lv_icmp_eq (tgt := 50) hx hb dX0_behindDigits_42 (by decide) (fun hc => ?_) (fun hc => ?_)
          · have hF := ift hc hF
            refine lv_iload hx hb dX0_behindDigits_50 (lv_at hl 3 rfl) ?_
            refine lv_iconst (v := nI 1) hx hb dX0_behindDigits_52 (by decide) ?_
            refine lv_iadd hx hb dX0_behindDigits_53 ?_
            obtain rfl := Option.some.inj hF
            exact W.iret (v := (x4 + (nI 1))) hx hb hr (fun t ht hW => ⟨⟨(x4 + (nI 1)), (), rfl, rfl, QB.of ht hP hD⟩, hS.F ht⟩) hS.2.2 dX0_behindDigits_54
          · have hF := iff_ hc hF
            refine lv_iconst (v := (-1)) hx hb dX0_behindDigits_45 (by decide) ?_
            refine lv_iload hx hb dX0_behindDigits_46 (lv_at hl 3 rfl) ?_
            refine lv_isub hx hb dX0_behindDigits_48 ?_
            obtain rfl := Option.some.inj hF
            exact W.iret (v := ((-1) - x4)) hx hb hr (fun t ht hW => ⟨⟨((-1) - x4), (), rfl, rfl, QB.of ht hP hD⟩, hS.F ht⟩) hS.2.2 dX0_behindDigits_49
      refine lv_icmp_ge (tgt := 26) hx hb dX0_behindDigits_8 (by decide) (fun hc => ?_) (fun hc => ?_)
      · have hF := ift hc hF
        exact kJ26 x1 x2 x4 _ _ _ hF hP hD hS (lv_sub hl [0, 1, 2, 4] rfl)
      · have hF := iff_ hc hF
        refine lv_aload_n hx hb dX0_behindDigits_11 rfl (lv_at hl 0 rfl) ?_
        refine lv_iload hx hb dX0_behindDigits_12 (lv_at hl 4 rfl) ?_
        have hPc := hP.sub (ws' := (cwL cI h0 h1 tW)) [0, 1] rfl
        have hDc := hD.sub (ws' := (cwL cI h0 h1 tW)) [0, 1] (by decide) rfl
        have hFc := va_free (wc := (cwL cI h0 h1 tW)) hD hS hA [0, 1] rfl
        refine bd hF (fun r14 hG hF => ?_)
        refine va_calli (va_runV (As := [.int x4]) (rest := []) ⟨hx, hb, hml, hown, hts⟩ (c_X0_isDigit l dC dI cI sf H.size N h0 h1 tW x4 r14 hG) (cwV 1 hts gX0_behindDigits_X0_isDigit rfl rfl rfl (by decide +kernel) ⟨Nat.le_of_ble_eq_true rfl, Nat.le_of_ble_eq_true rfl⟩) ⟨fun a U g mk q => ⟨q.1, q.2.call⟩, va_recv hK hP (ci := 0) (q0 := 0) rfl rfl, fun U hU hW => ⟨rfl, PB.of hU hW hPc hK hDc hNN hSF hS hFc⟩⟩ rfl rfl hl.1 rfl (lv_room (Nat.le_of_ble_eq_true rfl)) dX0_behindDigits_14 ⟨Nat.le_of_ble_eq_true rfl, Nat.le_of_ble_eq_true rfl⟩) hS (fun q _ h => hFc q h) hFc (fun z_ u_ t H locs ht hvm hw hB hz1 hk1 hS => ?_)
        subst z_
        obtain ⟨hP1, hD1⟩ := hB
        rw [ht] at hP1
        have hJ := vb_join (ws' := (cwL cI h0 h1 tW)) hP hD [0, 1] [] [0, 1] rfl rfl (by decide) (by decide) hk1 hFc hP1 hD1 rfl (by decide) rfl
        clear hP hD hPc hDc hFc hP1 hD1 hk1 hz1 ht hvm hG
        obtain ⟨hP, hD⟩ := hJ
        refine lv_if_eq (tgt := 26) hx hb dX0_behindDigits_17 (by decide) (fun hc => ?_) (fun hc => ?_)
        · have hF := ift hc hF
          exact kJ26 x1 x2 x4 _ _ _ hF hP hD hS (lv_sub hl [0, 1, 2, 4] rfl)
        · have hF := iff_ hc hF
          refine lv_iinc (v := x4 + (nI 1)) (lv' := [(4, .int (x4 + (nI 1))), (0, .ref h0), (1, .int x1), (2, .int x2), (3, .int x3)]) hx hb dX0_behindDigits_20 hl (k := 4) rfl (by rfl) (by decide) rfl (fun ls hl => ?_)
          refine lv_goto (tgt := 3) hx hb dX0_behindDigits_23 (by decide) ?_
          exact ih3 x1 x2 x3 (x4 + (nI 1)) _ _ _ hF hP hD hS (lv_sub hl [1, 2, 3, 4, 0] rfl)
  refine lv_istore (lv' := [(4, .int p1), (0, .ref h0), (1, .int p1), (2, .int p2), (3, .int p3)]) hx hb dX0_behindDigits_1 hl (by decide) rfl (fun ls hl => ?_)
  exact kJ3 N p1 p2 p3 p1 _ _ _ hF hP hD hS (lv_sub hl [1, 2, 3, 4, 0] rfl)
theorem inw_X0_kindAt_X0 : ∀ w ∈ u_ws RX0 TX0 2, w ∈ wsX0_kindAt := fun _ h => List.mem_cons_of_mem _ (List.mem_append_right _ h)
set_option maxHeartbeats 4000000 in
set_option maxRecDepth 100000 in
theorem c_X0_kindAt (l : Launch) (dC : Nat → ClassId) (dI : Nat → Nat → Nat) (cI : ClassId) (sf : SFP) (sz : Nat) (N : Nat) (h0 h1 : Nat) (tW : LetS) (p1 : Int32) (r : Int32) (hF : F_X0_kindAt N tW p1 = some r) : Met l yX0_kindAt wsX0_kindAt ({ frames := 4, cells := 0, slots := 0, locals := 85 }) (va_Pc [.ref h0, .int p1] (PB (dC, dI) cI (cwL cI h0 h1 tW) sz sf)) (va_Qi (fun (z : Int32) (_ : Unit) => z = r) (fun _ t => QB (dC, dI) (cwL cI h0 h1 tW) (va_A (cwL cI h0 h1 tW) sz) t) (va_A (cwL cI h0 h1 tW) sz)) 0 0 (va_A (cwL cI h0 h1 tW) sz) := by
  refine Met.ofW (cc := cX0_kindAt) (maxL := 3) (ret := (some .int)) (by decide) rfl ?_
  intro p e s m args below meth c s₁ B hml hv
  obtain ⟨rfl, hsz, hP, hK, hD0, hNN, hSF⟩ := hv
  have hx := B.exec
  have hb := B.bytes
  have hr := B.returns
  have hts := atoms_spec (ws := wsX0_kindAt) B.pre
  have hown : s.vm.findClass RX0 = some m.cls := findClass_of_methodNamed B.named
  have hlocks := B.notSynchronized
  subst hsz
  have hD := hD0.self (sz := s.heap.size)
  generalize hAe : va_A (cwL cI h0 h1 tW) s.heap.size = A at hD hSF ⊢
  have hA : ∀ q : Nat, s.heap.size ≤ q → A q := fun q h => by rw [← hAe]; exact Or.inr h
  clear hAe hD0
  have hS : va_S A s.heap s.heap [] := va_S.rf
  have hl := lv_entry ([.ref h0, .int p1]) (n := 3) (Nat.le_of_ble_eq_true rfl)
  rw [lg_entry_eq]
  generalize (lg_sl ([.ref h0, .int p1]) ++ List.replicate (3 - (lg_sl ([.ref h0, .int p1])).length) Slot.unset).toArray = ls at hl ⊢
  have hl : lv_has ls 3 [(0, .ref h0), (1, .int p1)] := hl
  rw [F_X0_kindAt] at hF
  refine lv_iconst (v := nI 0) hx hb dX0_kindAt_0 (by decide) ?_
  refine vW_have (fun R av Q => ∀ (n2 : Nat) (x1 : Int32) (x2 : Int32) (H : Heap) (locs : List Loc) (ls : Array Slot), F_X0_kindAt_2 N tW n2 x1 x2 = some r → va_P (dC, dI) vwCl (cwL cI h0 h1 tW) H → va_D A (cwL cI h0 h1 tW) → va_S A s.heap H locs → lv_has ls 3 [(0, .ref h0), (1, .int x1), (2, .int x2)] → W p l e R s m av below meth c H locs 0 0 Q (F0 m 2 ls [])) ?_ (fun kJ2 => ?_)
  · intro n2
    induction n2 with
    | zero => intro x1 x2 H locs ls hF; exact nn hF
    | succ n2 ih2 =>
      intro x1 x2 H locs ls hF hP hD hS hl
      rw [F_X0_kindAt_2] at hF
      refine lv_iload_n hx hb dX0_kindAt_2 rfl (lv_at hl 2 rfl) ?_
      refine va_ldcS hx hb hown hSF.2.2.1 dX0_kindAt_3 ?_
      have hPc := hP.sub (ws' := ([] : va_W)) [] rfl
      have hDc := hD.sub (ws' := ([] : va_W)) [] (by decide) rfl
      have hFc := va_free (wc := ([] : va_W)) hD hS hA [] rfl
      refine bd hF (fun r5 hG hF => ?_)
      refine va_calli (va_runV (As := []) (rest := [.int x2]) ⟨hx, hb, hml, hown, hts⟩ (c_J0_length_8abf5 l dC dI cI sf H.size N   r5 hG) (cwV 0 hts gX0_kindAt_J0_length_8abf5 rfl rfl rfl (by decide +kernel) ⟨Nat.le_of_ble_eq_true rfl, Nat.le_of_ble_eq_true rfl⟩) ⟨fun a U g mk q => ⟨q.1, q.2.call⟩, vk_recv hSF.2.2.2.1 (i := 0) (by decide) hS, fun U hU hW => ⟨rfl, PB.of hU hW hPc hK hDc hNN hSF hS hFc⟩⟩ rfl rfl hl.1 rfl (lv_room (Nat.le_of_ble_eq_true rfl)) dX0_kindAt_5 ⟨Nat.le_of_ble_eq_true rfl, Nat.le_of_ble_eq_true rfl⟩) hS (fun q _ h => hFc q h) hFc (fun z_ u_ t H locs ht hvm hw hB hz1 hk1 hS => ?_)
      subst z_
      obtain ⟨hP1, hD1⟩ := hB
      rw [ht] at hP1
      have hJ := vb_join (ws' := (cwL cI h0 h1 tW)) hP hD [] [0, 1] [0, 1] rfl rfl (by decide) (by decide) hk1 hFc hP1 hD1 rfl (by decide) rfl
      clear hP hD hPc hDc hFc hP1 hD1 hk1 hz1 ht hvm hG
      obtain ⟨hP, hD⟩ := hJ
      refine lv_icmp_ge (tgt := 33) hx hb dX0_kindAt_8 (by decide) (fun hc => ?_) (fun hc => ?_)
      · have hF := ift hc hF
        refine lv_iconst (v := (-1)) hx hb dX0_kindAt_33 (by decide) ?_
        obtain rfl := Option.some.inj hF
        exact W.iret (v := (-1)) hx hb hr (fun t ht hW => ⟨⟨(-1), (), rfl, rfl, QB.of ht hP hD⟩, hS.F ht⟩) hS.2.2 dX0_kindAt_34
      · have hF := iff_ hc hF
        refine va_ldcS hx hb hown hSF.2.2.1 dX0_kindAt_11 ?_
        refine lv_iload_n hx hb dX0_kindAt_13 rfl (lv_at hl 2 rfl) ?_
        have hPc := hP.sub (ws' := ([] : va_W)) [] rfl
        have hDc := hD.sub (ws' := ([] : va_W)) [] (by decide) rfl
        have hFc := va_free (wc := ([] : va_W)) hD hS hA [] rfl
        refine bd hF (fun r14 hG hF => ?_)
        refine va_calli (va_runV (As := [.int x2]) (rest := []) ⟨hx, hb, hml, hown, hts⟩ (c_J0_charAt_5068e l dC dI cI sf H.size N  x2 r14 hG) (cwV 1 hts gX0_kindAt_J0_charAt_5068e rfl rfl rfl (by decide +kernel) ⟨Nat.le_of_ble_eq_true rfl, Nat.le_of_ble_eq_true rfl⟩) ⟨fun a U g mk q => ⟨q.1, q.2.call⟩, vk_recv hSF.2.2.2.1 (i := 0) (by decide) hS, fun U hU hW => ⟨rfl, PB.of hU hW hPc hK hDc hNN hSF hS hFc⟩⟩ rfl rfl hl.1 rfl (lv_room (Nat.le_of_ble_eq_true rfl)) dX0_kindAt_14 ⟨Nat.le_of_ble_eq_true rfl, Nat.le_of_ble_eq_true rfl⟩) hS (fun q _ h => hFc q h) hFc (fun z_ u_ t H locs ht hvm hw hB hz1 hk1 hS => ?_)
        subst z_
        obtain ⟨hP1, hD1⟩ := hB
        rw [ht] at hP1
        have hJ := vb_join (ws' := (cwL cI h0 h1 tW)) hP hD [] [0, 1] [0, 1] rfl rfl (by decide) (by decide) hk1 hFc hP1 hD1 rfl (by decide) rfl
        clear hP hD hPc hDc hFc hP1 hD1 hk1 hz1 ht hvm hG
        obtain ⟨hP, hD⟩ := hJ
        refine lv_aload_n hx hb dX0_kindAt_17 rfl (lv_at hl 0 rfl) ?_
        refine lv_iload_n hx hb dX0_kindAt_18 rfl (lv_at hl 1 rfl) ?_
        have hPc := hP.sub (ws' := (cwL cI h0 h1 tW)) [0, 1] rfl
        have hDc := hD.sub (ws' := (cwL cI h0 h1 tW)) [0, 1] (by decide) rfl
        have hFc := va_free (wc := (cwL cI h0 h1 tW)) hD hS hA [0, 1] rfl
        refine bd hF (fun r19 hG hF => ?_)
        refine va_calli (va_runV (As := [.int x1]) (rest := [.int r14]) ⟨hx, hb, hml, hown, hts⟩ (c_X0_sign l dC dI cI sf H.size N h0 h1 tW x1 r19 hG) (cwV 1 hts gX0_kindAt_X0_sign rfl rfl rfl (by decide +kernel) ⟨Nat.le_of_ble_eq_true rfl, Nat.le_of_ble_eq_true rfl⟩) ⟨fun a U g mk q => ⟨q.1, q.2.call⟩, va_recv hK hP (ci := 0) (q0 := 0) rfl rfl, fun U hU hW => ⟨rfl, PB.of hU hW hPc hK hDc hNN hSF hS hFc⟩⟩ rfl rfl hl.1 rfl (lv_room (Nat.le_of_ble_eq_true rfl)) dX0_kindAt_19 ⟨Nat.le_of_ble_eq_true rfl, Nat.le_of_ble_eq_true rfl⟩) hS (fun q _ h => hFc q h) hFc (fun z_ u_ t H locs ht hvm hw hB hz1 hk1 hS => ?_)
        subst z_
        obtain ⟨hP1, hD1⟩ := hB
        rw [ht] at hP1
        have hJ := vb_join (ws' := (cwL cI h0 h1 tW)) hP hD [0, 1] [] [0, 1] rfl rfl (by decide) (by decide) hk1 hFc hP1 hD1 rfl (by decide) rfl
        clear hP hD hPc hDc hFc hP1 hD1 hk1 hz1 ht hvm hG
        obtain ⟨hP, hD⟩ := hJ
        refine lv_icmp_ne (tgt := 27) hx hb dX0_kindAt_22 (by decide) (fun hc => ?_) (fun hc => ?_)
        · have hF := ift hc hF
          refine lv_iinc (v := x2 + (nI 1)) (lv' := [(2, .int (x2 + (nI 1))), (0, .ref h0), (1, .int x1)]) hx hb dX0_kindAt_27 hl (k := 2) rfl (by rfl) (by decide) rfl (fun ls hl => ?_)
          refine lv_goto (tgt := 2) hx hb dX0_kindAt_30 (by decide) ?_
          exact ih2 x1 (x2 + (nI 1)) _ _ _ hF hP hD hS (lv_sub hl [1, 2, 0] rfl)
        · have hF := iff_ (fun h => h hc) hF
          refine lv_iload_n hx hb dX0_kindAt_25 rfl (lv_at hl 2 rfl) ?_
          obtain rfl := Option.some.inj hF
          exact W.iret (v := x2) hx hb hr (fun t ht hW => ⟨⟨x2, (), rfl, rfl, QB.of ht hP hD⟩, hS.F ht⟩) hS.2.2 dX0_kindAt_26
  refine lv_istore_n (lv' := [(2, .int (nI 0)), (0, .ref h0), (1, .int p1)]) hx hb dX0_kindAt_1 rfl hl (by decide) rfl (fun ls hl => ?_)
  exact kJ2 N p1 (nI 0) _ _ _ hF hP hD hS (lv_sub hl [1, 2, 0] rfl)
theorem inw_X0_behindStatement_X0 : ∀ w ∈ u_ws RX0 TX0 2, w ∈ wsX0_behindStatement := fun _ h => List.mem_cons_of_mem _ (List.mem_append_right _ h)
set_option maxHeartbeats 4000000 in
set_option maxRecDepth 100000 in
theorem c_X0_behindStatement (l : Launch) (dC : Nat → ClassId) (dI : Nat → Nat → Nat) (cI : ClassId) (sf : SFP) (sz : Nat) (N : Nat) (h0 h1 : Nat) (tW : LetS) (p1 : Int32) (r : Int32) (hF : F_X0_behindStatement N tW p1 = some r) : Met l yX0_behindStatement wsX0_behindStatement ({ frames := 5, cells := 0, slots := 0, locals := 107 }) (va_Pc [.ref h0, .int p1] (PB (dC, dI) cI (cwL cI h0 h1 tW) sz sf)) (va_Qi (fun (z : Int32) (_ : Unit) => z = r) (fun _ t => QB (dC, dI) (cwL cI h0 h1 tW) (va_A (cwL cI h0 h1 tW) sz) t) (va_A (cwL cI h0 h1 tW) sz)) 0 0 (va_A (cwL cI h0 h1 tW) sz) := by
  refine Met.ofW (cc := cX0_behindStatement) (maxL := 2) (ret := (some .int)) (by decide) rfl ?_
  intro p e s m args below meth c s₁ B hml hv
  obtain ⟨rfl, hsz, hP, hK, hD0, hNN, hSF⟩ := hv
  have hx := B.exec
  have hb := B.bytes
  have hr := B.returns
  have hts := atoms_spec (ws := wsX0_behindStatement) B.pre
  have hown : s.vm.findClass RX0 = some m.cls := findClass_of_methodNamed B.named
  have hlocks := B.notSynchronized
  subst hsz
  have hD := hD0.self (sz := s.heap.size)
  generalize hAe : va_A (cwL cI h0 h1 tW) s.heap.size = A at hD hSF ⊢
  have hA : ∀ q : Nat, s.heap.size ≤ q → A q := fun q h => by rw [← hAe]; exact Or.inr h
  clear hAe hD0
  have hS : va_S A s.heap s.heap [] := va_S.rf
  have hl := lv_entry ([.ref h0, .int p1]) (n := 2) (Nat.le_of_ble_eq_true rfl)
  rw [lg_entry_eq]
  generalize (lg_sl ([.ref h0, .int p1]) ++ List.replicate (2 - (lg_sl ([.ref h0, .int p1])).length) Slot.unset).toArray = ls at hl ⊢
  have hl : lv_has ls 2 [(0, .ref h0), (1, .int p1)] := hl
  rw [F_X0_behindStatement] at hF
  refine lv_aload_n hx hb dX0_behindStatement_0 rfl (lv_at hl 0 rfl) ?_
  refine lv_iload_n hx hb dX0_behindStatement_1 rfl (lv_at hl 1 rfl) ?_
  have hPc := hP.sub (ws' := (cwL cI h0 h1 tW)) [0, 1] rfl
  have hDc := hD.sub (ws' := (cwL cI h0 h1 tW)) [0, 1] (by decide) rfl
  have hFc := va_free (wc := (cwL cI h0 h1 tW)) hD hS hA [0, 1] rfl
  refine bd hF (fun r2 hG hF => ?_)
  refine va_calli (va_runV (As := [.int p1]) (rest := []) ⟨hx, hb, hml, hown, hts⟩ (c_X0_sign l dC dI cI sf s.heap.size N h0 h1 tW p1 r2 hG) (cwV 1 hts gX0_behindStatement_X0_sign rfl rfl rfl (by decide +kernel) ⟨Nat.le_of_ble_eq_true rfl, Nat.le_of_ble_eq_true rfl⟩) ⟨fun a U g mk q => ⟨q.1, q.2.call⟩, va_recv hK hP (ci := 0) (q0 := 0) rfl rfl, fun U hU hW => ⟨rfl, PB.of hU hW hPc hK hDc hNN hSF hS hFc⟩⟩ rfl rfl hl.1 rfl (lv_room (Nat.le_of_ble_eq_true rfl)) dX0_behindStatement_2 ⟨Nat.le_of_ble_eq_true rfl, Nat.le_of_ble_eq_true rfl⟩) hS (fun q _ h => hFc q h) hFc (fun z_ u_ t H locs ht hvm hw hB hz1 hk1 hS => ?_)
  subst z_
  obtain ⟨hP1, hD1⟩ := hB
  rw [ht] at hP1
  have hJ := vb_join (ws' := (cwL cI h0 h1 tW)) hP hD [0, 1] [] [0, 1] rfl rfl (by decide) (by decide) hk1 hFc hP1 hD1 rfl (by decide) rfl
  clear hP hD hPc hDc hFc hP1 hD1 hk1 hz1 ht hvm hG
  obtain ⟨hP, hD⟩ := hJ
  by_cases hc97 : r2 = nI 97
  · have hF := ift hc97 hF
    refine lv_lookup (off := 97) (tgt := 102) hx hb dX0_behindStatement_5 (by decide) (by rw [hc97]; decide) (by decide) ?_
    refine lv_aload_n hx hb dX0_behindStatement_102 rfl (lv_at hl 0 rfl) ?_
    refine lv_iload_n hx hb dX0_behindStatement_103 rfl (lv_at hl 1 rfl) ?_
    refine lv_iconst (v := nI 1) hx hb dX0_behindStatement_104 (by decide) ?_
    refine lv_iadd hx hb dX0_behindStatement_105 ?_
    refine lv_iconst (v := nI 2) hx hb dX0_behindStatement_106 (by decide) ?_
    refine lv_bipush (v := nI 9) hx hb dX0_behindStatement_107 (by decide) ?_
    have hPc := hP.sub (ws' := (cwL cI h0 h1 tW)) [0, 1] rfl
    have hDc := hD.sub (ws' := (cwL cI h0 h1 tW)) [0, 1] (by decide) rfl
    have hFc := va_free (wc := (cwL cI h0 h1 tW)) hD hS hA [0, 1] rfl
    refine bd hF (fun r109 hG hF => ?_)
    refine va_calli (va_runV (As := [.int (p1 + (nI 1)), .int (nI 2), .int (nI 9)]) (rest := []) ⟨hx, hb, hml, hown, hts⟩ (c_X0_behindDigits l dC dI cI sf H.size N h0 h1 tW (p1 + (nI 1)) (nI 2) (nI 9) r109 hG) (cwV 3 hts gX0_behindStatement_X0_behindDigits rfl rfl rfl (by decide +kernel) ⟨Nat.le_of_ble_eq_true rfl, Nat.le_of_ble_eq_true rfl⟩) ⟨fun a U g mk q => ⟨q.1, q.2.call⟩, va_recv hK hP (ci := 0) (q0 := 0) rfl rfl, fun U hU hW => ⟨rfl, PB.of hU hW hPc hK hDc hNN hSF hS hFc⟩⟩ rfl rfl hl.1 rfl (lv_room (Nat.le_of_ble_eq_true rfl)) dX0_behindStatement_109 ⟨Nat.le_of_ble_eq_true rfl, Nat.le_of_ble_eq_true rfl⟩) hS (fun q _ h => hFc q h) hFc (fun z_ u_ t H locs ht hvm hw hB hz1 hk1 hS => ?_)
    subst z_
    obtain ⟨hP1, hD1⟩ := hB
    rw [ht] at hP1
    have hJ := vb_join (ws' := (cwL cI h0 h1 tW)) hP hD [0, 1] [] [0, 1] rfl rfl (by decide) (by decide) hk1 hFc hP1 hD1 rfl (by decide) rfl
    clear hP hD hPc hDc hFc hP1 hD1 hk1 hz1 ht hvm hG
    obtain ⟨hP, hD⟩ := hJ
    obtain rfl := Option.some.inj hF
    exact W.iret (v := r109) hx hb hr (fun t ht hW => ⟨⟨r109, (), rfl, rfl, QB.of ht hP hD⟩, hS.F ht⟩) hS.2.2 dX0_behindStatement_112
  · have hF := iff_ hc97 hF
    by_cases hc99 : r2 = nI 99
    · have hF := ift hc99 hF
      refine lv_lookup (off := 59) (tgt := 64) hx hb dX0_behindStatement_5 (by decide) (by rw [hc99]; decide) (by decide) ?_
      refine lv_aload_n hx hb dX0_behindStatement_64 rfl (lv_at hl 0 rfl) ?_
      refine lv_iload_n hx hb dX0_behindStatement_65 rfl (lv_at hl 1 rfl) ?_
      refine lv_iconst (v := nI 1) hx hb dX0_behindStatement_66 (by decide) ?_
      refine lv_iadd hx hb dX0_behindStatement_67 ?_
      have hPc := hP.sub (ws' := (cwL cI h0 h1 tW)) [0, 1] rfl
      have hDc := hD.sub (ws' := (cwL cI h0 h1 tW)) [0, 1] (by decide) rfl
      have hFc := va_free (wc := (cwL cI h0 h1 tW)) hD hS hA [0, 1] rfl
      refine bd hF (fun r68 hG hF => ?_)
      refine va_calli (va_runV (As := [.int (p1 + (nI 1))]) (rest := []) ⟨hx, hb, hml, hown, hts⟩ (c_X0_kindAt l dC dI cI sf H.size N h0 h1 tW (p1 + (nI 1)) r68 hG) (cwV 1 hts gX0_behindStatement_X0_kindAt rfl rfl rfl (by decide +kernel) ⟨Nat.le_of_ble_eq_true rfl, Nat.le_of_ble_eq_true rfl⟩) ⟨fun a U g mk q => ⟨q.1, q.2.call⟩, va_recv hK hP (ci := 0) (q0 := 0) rfl rfl, fun U hU hW => ⟨rfl, PB.of hU hW hPc hK hDc hNN hSF hS hFc⟩⟩ rfl rfl hl.1 rfl (lv_room (Nat.le_of_ble_eq_true rfl)) dX0_behindStatement_68 ⟨Nat.le_of_ble_eq_true rfl, Nat.le_of_ble_eq_true rfl⟩) hS (fun q _ h => hFc q h) hFc (fun z_ u_ t H locs ht hvm hw hB hz1 hk1 hS => ?_)
      subst z_
      obtain ⟨hP1, hD1⟩ := hB
      rw [ht] at hP1
      have hJ := vb_join (ws' := (cwL cI h0 h1 tW)) hP hD [0, 1] [] [0, 1] rfl rfl (by decide) (by decide) hk1 hFc hP1 hD1 rfl (by decide) rfl
      clear hP hD hPc hDc hFc hP1 hD1 hk1 hz1 ht hvm hG
      obtain ⟨hP, hD⟩ := hJ
      refine lv_if_ge (tgt := 82) hx hb dX0_behindStatement_71 (by decide) (fun hc => ?_) (fun hc => ?_)
      · have hF := ift hc hF
        refine lv_aload_n hx hb dX0_behindStatement_82 rfl (lv_at hl 0 rfl) ?_
        refine lv_iload_n hx hb dX0_behindStatement_83 rfl (lv_at hl 1 rfl) ?_
        refine lv_iconst (v := nI 2) hx hb dX0_behindStatement_84 (by decide) ?_
        refine lv_iadd hx hb dX0_behindStatement_85 ?_
        refine lv_iconst (v := nI 3) hx hb dX0_behindStatement_86 (by decide) ?_
        refine lv_iconst (v := nI 3) hx hb dX0_behindStatement_87 (by decide) ?_
        have hPc := hP.sub (ws' := (cwL cI h0 h1 tW)) [0, 1] rfl
        have hDc := hD.sub (ws' := (cwL cI h0 h1 tW)) [0, 1] (by decide) rfl
        have hFc := va_free (wc := (cwL cI h0 h1 tW)) hD hS hA [0, 1] rfl
        refine bd hF (fun r88 hG hF => ?_)
        refine va_calli (va_runV (As := [.int (p1 + (nI 2)), .int (nI 3), .int (nI 3)]) (rest := []) ⟨hx, hb, hml, hown, hts⟩ (c_X0_behindDigits l dC dI cI sf H.size N h0 h1 tW (p1 + (nI 2)) (nI 3) (nI 3) r88 hG) (cwV 3 hts gX0_behindStatement_X0_behindDigits rfl rfl rfl (by decide +kernel) ⟨Nat.le_of_ble_eq_true rfl, Nat.le_of_ble_eq_true rfl⟩) ⟨fun a U g mk q => ⟨q.1, q.2.call⟩, va_recv hK hP (ci := 0) (q0 := 0) rfl rfl, fun U hU hW => ⟨rfl, PB.of hU hW hPc hK hDc hNN hSF hS hFc⟩⟩ rfl rfl hl.1 rfl (lv_room (Nat.le_of_ble_eq_true rfl)) dX0_behindStatement_88 ⟨Nat.le_of_ble_eq_true rfl, Nat.le_of_ble_eq_true rfl⟩) hS (fun q _ h => hFc q h) hFc (fun z_ u_ t H locs ht hvm hw hB hz1 hk1 hS => ?_)
        subst z_
        obtain ⟨hP1, hD1⟩ := hB
        rw [ht] at hP1
        have hJ := vb_join (ws' := (cwL cI h0 h1 tW)) hP hD [0, 1] [] [0, 1] rfl rfl (by decide) (by decide) hk1 hFc hP1 hD1 rfl (by decide) rfl
        clear hP hD hPc hDc hFc hP1 hD1 hk1 hz1 ht hvm hG
        obtain ⟨hP, hD⟩ := hJ
        obtain rfl := Option.some.inj hF
        exact W.iret (v := r88) hx hb hr (fun t ht hW => ⟨⟨r88, (), rfl, rfl, QB.of ht hP hD⟩, hS.F ht⟩) hS.2.2 dX0_behindStatement_91
      · have hF := iff_ hc hF
        refine lv_iconst (v := (-1)) hx hb dX0_behindStatement_74 (by decide) ?_
        refine lv_iload_n hx hb dX0_behindStatement_75 rfl (lv_at hl 1 rfl) ?_
        refine lv_iconst (v := nI 1) hx hb dX0_behindStatement_76 (by decide) ?_
        refine lv_iadd hx hb dX0_behindStatement_77 ?_
        refine lv_isub hx hb dX0_behindStatement_78 ?_
        refine lv_goto (tgt := 91) hx hb dX0_behindStatement_79 (by decide) ?_
        obtain rfl := Option.some.inj hF
        exact W.iret (v := ((-1) - (p1 + (nI 1)))) hx hb hr (fun t ht hW => ⟨⟨((-1) - (p1 + (nI 1))), (), rfl, rfl, QB.of ht hP hD⟩, hS.F ht⟩) hS.2.2 dX0_behindStatement_91
    · have hF := iff_ hc99 hF
      by_cases hc100 : r2 = nI 100
      · have hF := ift hc100 hF
        refine lv_lookup (off := 118) (tgt := 123) hx hb dX0_behindStatement_5 (by decide) (by rw [hc100]; decide) (by decide) ?_
        refine lv_aload_n hx hb dX0_behindStatement_123 rfl (lv_at hl 0 rfl) ?_
        refine lv_iload_n hx hb dX0_behindStatement_124 rfl (lv_at hl 1 rfl) ?_
        refine lv_iconst (v := nI 1) hx hb dX0_behindStatement_125 (by decide) ?_
        refine lv_iadd hx hb dX0_behindStatement_126 ?_
        refine lv_iconst (v := nI 1) hx hb dX0_behindStatement_127 (by decide) ?_
        refine lv_iconst (v := nI 1) hx hb dX0_behindStatement_128 (by decide) ?_
        have hPc := hP.sub (ws' := (cwL cI h0 h1 tW)) [0, 1] rfl
        have hDc := hD.sub (ws' := (cwL cI h0 h1 tW)) [0, 1] (by decide) rfl
        have hFc := va_free (wc := (cwL cI h0 h1 tW)) hD hS hA [0, 1] rfl
        refine bd hF (fun r129 hG hF => ?_)
        refine va_calli (va_runV (As := [.int (p1 + (nI 1)), .int (nI 1), .int (nI 1)]) (rest := []) ⟨hx, hb, hml, hown, hts⟩ (c_X0_behindDigits l dC dI cI sf H.size N h0 h1 tW (p1 + (nI 1)) (nI 1) (nI 1) r129 hG) (cwV 3 hts gX0_behindStatement_X0_behindDigits rfl rfl rfl (by decide +kernel) ⟨Nat.le_of_ble_eq_true rfl, Nat.le_of_ble_eq_true rfl⟩) ⟨fun a U g mk q => ⟨q.1, q.2.call⟩, va_recv hK hP (ci := 0) (q0 := 0) rfl rfl, fun U hU hW => ⟨rfl, PB.of hU hW hPc hK hDc hNN hSF hS hFc⟩⟩ rfl rfl hl.1 rfl (lv_room (Nat.le_of_ble_eq_true rfl)) dX0_behindStatement_129 ⟨Nat.le_of_ble_eq_true rfl, Nat.le_of_ble_eq_true rfl⟩) hS (fun q _ h => hFc q h) hFc (fun z_ u_ t H locs ht hvm hw hB hz1 hk1 hS => ?_)
        subst z_
        obtain ⟨hP1, hD1⟩ := hB
        rw [ht] at hP1
        have hJ := vb_join (ws' := (cwL cI h0 h1 tW)) hP hD [0, 1] [] [0, 1] rfl rfl (by decide) (by decide) hk1 hFc hP1 hD1 rfl (by decide) rfl
        clear hP hD hPc hDc hFc hP1 hD1 hk1 hz1 ht hvm hG
        obtain ⟨hP, hD⟩ := hJ
        obtain rfl := Option.some.inj hF
        exact W.iret (v := r129) hx hb hr (fun t ht hW => ⟨⟨r129, (), rfl, rfl, QB.of ht hP hD⟩, hS.F ht⟩) hS.2.2 dX0_behindStatement_132
      · have hF := iff_ hc100 hF
        by_cases hc113 : r2 = nI 113
        · have hF := ift hc113 hF
          refine lv_lookup (off := 108) (tgt := 113) hx hb dX0_behindStatement_5 (by decide) (by rw [hc113]; decide) (by decide) ?_
          refine lv_aload_n hx hb dX0_behindStatement_113 rfl (lv_at hl 0 rfl) ?_
          refine lv_iload_n hx hb dX0_behindStatement_114 rfl (lv_at hl 1 rfl) ?_
          refine lv_iconst (v := nI 1) hx hb dX0_behindStatement_115 (by decide) ?_
          refine lv_iadd hx hb dX0_behindStatement_116 ?_
          refine lv_iconst (v := nI 3) hx hb dX0_behindStatement_117 (by decide) ?_
          refine lv_iconst (v := nI 3) hx hb dX0_behindStatement_118 (by decide) ?_
          have hPc := hP.sub (ws' := (cwL cI h0 h1 tW)) [0, 1] rfl
          have hDc := hD.sub (ws' := (cwL cI h0 h1 tW)) [0, 1] (by decide) rfl
          have hFc := va_free (wc := (cwL cI h0 h1 tW)) hD hS hA [0, 1] rfl
          refine bd hF (fun r119 hG hF => ?_)
          refine va_calli (va_runV (As := [.int (p1 + (nI 1)), .int (nI 3), .int (nI 3)]) (rest := []) ⟨hx, hb, hml, hown, hts⟩ (c_X0_behindDigits l dC dI cI sf H.size N h0 h1 tW (p1 + (nI 1)) (nI 3) (nI 3) r119 hG) (cwV 3 hts gX0_behindStatement_X0_behindDigits rfl rfl rfl (by decide +kernel) ⟨Nat.le_of_ble_eq_true rfl, Nat.le_of_ble_eq_true rfl⟩) ⟨fun a U g mk q => ⟨q.1, q.2.call⟩, va_recv hK hP (ci := 0) (q0 := 0) rfl rfl, fun U hU hW => ⟨rfl, PB.of hU hW hPc hK hDc hNN hSF hS hFc⟩⟩ rfl rfl hl.1 rfl (lv_room (Nat.le_of_ble_eq_true rfl)) dX0_behindStatement_119 ⟨Nat.le_of_ble_eq_true rfl, Nat.le_of_ble_eq_true rfl⟩) hS (fun q _ h => hFc q h) hFc (fun z_ u_ t H locs ht hvm hw hB hz1 hk1 hS => ?_)
          subst z_
          obtain ⟨hP1, hD1⟩ := hB
          rw [ht] at hP1
          have hJ := vb_join (ws' := (cwL cI h0 h1 tW)) hP hD [0, 1] [] [0, 1] rfl rfl (by decide) (by decide) hk1 hFc hP1 hD1 rfl (by decide) rfl
          clear hP hD hPc hDc hFc hP1 hD1 hk1 hz1 ht hvm hG
          obtain ⟨hP, hD⟩ := hJ
          obtain rfl := Option.some.inj hF
          exact W.iret (v := r119) hx hb hr (fun t ht hW => ⟨⟨r119, (), rfl, rfl, QB.of ht hP hD⟩, hS.F ht⟩) hS.2.2 dX0_behindStatement_122
        · have hF := iff_ hc113 hF
          by_cases hc119 : r2 = nI 119
          · have hF := ift hc119 hF
            refine lv_lookup (off := 87) (tgt := 92) hx hb dX0_behindStatement_5 (by decide) (by rw [hc119]; decide) (by decide) ?_
            refine lv_aload_n hx hb dX0_behindStatement_92 rfl (lv_at hl 0 rfl) ?_
            refine lv_iload_n hx hb dX0_behindStatement_93 rfl (lv_at hl 1 rfl) ?_
            refine lv_iconst (v := nI 1) hx hb dX0_behindStatement_94 (by decide) ?_
            refine lv_iadd hx hb dX0_behindStatement_95 ?_
            refine lv_iconst (v := nI 3) hx hb dX0_behindStatement_96 (by decide) ?_
            refine lv_iconst (v := nI 3) hx hb dX0_behindStatement_97 (by decide) ?_
            have hPc := hP.sub (ws' := (cwL cI h0 h1 tW)) [0, 1] rfl
            have hDc := hD.sub (ws' := (cwL cI h0 h1 tW)) [0, 1] (by decide) rfl
            have hFc := va_free (wc := (cwL cI h0 h1 tW)) hD hS hA [0, 1] rfl
            refine bd hF (fun r98 hG hF => ?_)
            refine va_calli (va_runV (As := [.int (p1 + (nI 1)), .int (nI 3), .int (nI 3)]) (rest := []) ⟨hx, hb, hml, hown, hts⟩ (c_X0_behindDigits l dC dI cI sf H.size N h0 h1 tW (p1 + (nI 1)) (nI 3) (nI 3) r98 hG) (cwV 3 hts gX0_behindStatement_X0_behindDigits rfl rfl rfl (by decide +kernel) ⟨Nat.le_of_ble_eq_true rfl, Nat.le_of_ble_eq_true rfl⟩) ⟨fun a U g mk q => ⟨q.1, q.2.call⟩, va_recv hK hP (ci := 0) (q0 := 0) rfl rfl, fun U hU hW => ⟨rfl, PB.of hU hW hPc hK hDc hNN hSF hS hFc⟩⟩ rfl rfl hl.1 rfl (lv_room (Nat.le_of_ble_eq_true rfl)) dX0_behindStatement_98 ⟨Nat.le_of_ble_eq_true rfl, Nat.le_of_ble_eq_true rfl⟩) hS (fun q _ h => hFc q h) hFc (fun z_ u_ t H locs ht hvm hw hB hz1 hk1 hS => ?_)
            subst z_
            obtain ⟨hP1, hD1⟩ := hB
            rw [ht] at hP1
            have hJ := vb_join (ws' := (cwL cI h0 h1 tW)) hP hD [0, 1] [] [0, 1] rfl rfl (by decide) (by decide) hk1 hFc hP1 hD1 rfl (by decide) rfl
            clear hP hD hPc hDc hFc hP1 hD1 hk1 hz1 ht hvm hG
            obtain ⟨hP, hD⟩ := hJ
            obtain rfl := Option.some.inj hF
            exact W.iret (v := r98) hx hb hr (fun t ht hW => ⟨⟨r98, (), rfl, rfl, QB.of ht hP hD⟩, hS.F ht⟩) hS.2.2 dX0_behindStatement_101
          · have hF := iff_ hc119 hF
            by_cases hc121 : r2 = nI 121
            · have hF := ift hc121 hF
              refine lv_lookup (off := 128) (tgt := 133) hx hb dX0_behindStatement_5 (by decide) (by rw [hc121]; decide) (by decide) ?_
              refine lv_aload_n hx hb dX0_behindStatement_133 rfl (lv_at hl 0 rfl) ?_
              refine lv_iload_n hx hb dX0_behindStatement_134 rfl (lv_at hl 1 rfl) ?_
              refine lv_iconst (v := nI 1) hx hb dX0_behindStatement_135 (by decide) ?_
              refine lv_iadd hx hb dX0_behindStatement_136 ?_
              refine lv_iconst (v := nI 2) hx hb dX0_behindStatement_137 (by decide) ?_
              refine lv_iconst (v := nI 2) hx hb dX0_behindStatement_138 (by decide) ?_
              have hPc := hP.sub (ws' := (cwL cI h0 h1 tW)) [0, 1] rfl
              have hDc := hD.sub (ws' := (cwL cI h0 h1 tW)) [0, 1] (by decide) rfl
              have hFc := va_free (wc := (cwL cI h0 h1 tW)) hD hS hA [0, 1] rfl
              refine bd hF (fun r139 hG hF => ?_)
              refine va_calli (va_runV (As := [.int (p1 + (nI 1)), .int (nI 2), .int (nI 2)]) (rest := []) ⟨hx, hb, hml, hown, hts⟩ (c_X0_behindDigits l dC dI cI sf H.size N h0 h1 tW (p1 + (nI 1)) (nI 2) (nI 2) r139 hG) (cwV 3 hts gX0_behindStatement_X0_behindDigits rfl rfl rfl (by decide +kernel) ⟨Nat.le_of_ble_eq_true rfl, Nat.le_of_ble_eq_true rfl⟩) ⟨fun a U g mk q => ⟨q.1, q.2.call⟩, va_recv hK hP (ci := 0) (q0 := 0) rfl rfl, fun U hU hW => ⟨rfl, PB.of hU hW hPc hK hDc hNN hSF hS hFc⟩⟩ rfl rfl hl.1 rfl (lv_room (Nat.le_of_ble_eq_true rfl)) dX0_behindStatement_139 ⟨Nat.le_of_ble_eq_true rfl, Nat.le_of_ble_eq_true rfl⟩) hS (fun q _ h => hFc q h) hFc (fun z_ u_ t H locs ht hvm hw hB hz1 hk1 hS => ?_)
              subst z_
              obtain ⟨hP1, hD1⟩ := hB
              rw [ht] at hP1
              have hJ := vb_join (ws' := (cwL cI h0 h1 tW)) hP hD [0, 1] [] [0, 1] rfl rfl (by decide) (by decide) hk1 hFc hP1 hD1 rfl (by decide) rfl
              clear hP hD hPc hDc hFc hP1 hD1 hk1 hz1 ht hvm hG
              obtain ⟨hP, hD⟩ := hJ
              obtain rfl := Option.some.inj hF
              exact W.iret (v := r139) hx hb hr (fun t ht hW => ⟨⟨r139, (), rfl, rfl, QB.of ht hP hD⟩, hS.F ht⟩) hS.2.2 dX0_behindStatement_142
            · have hF := iff_ hc121 hF
              refine lv_lookup (off := 138) (tgt := 143) hx hb dX0_behindStatement_5 (by decide) (by simp only [Op.lookupswitch.offset_cons, Op.lookupswitch.offset_nil]; rw [if_neg (show ¬ (97 : Int) = _ from sw_ne (k := 97) (by decide) hc97), if_neg (show ¬ (99 : Int) = _ from sw_ne (k := 99) (by decide) hc99), if_neg (show ¬ (100 : Int) = _ from sw_ne (k := 100) (by decide) hc100), if_neg (show ¬ (113 : Int) = _ from sw_ne (k := 113) (by decide) hc113), if_neg (show ¬ (119 : Int) = _ from sw_ne (k := 119) (by decide) hc119), if_neg (show ¬ (121 : Int) = _ from sw_ne (k := 121) (by decide) hc121)]) (by decide) ?_
              refine lv_iconst (v := (-1)) hx hb dX0_behindStatement_143 (by decide) ?_
              refine lv_iload_n hx hb dX0_behindStatement_144 rfl (lv_at hl 1 rfl) ?_
              refine lv_isub hx hb dX0_behindStatement_145 ?_
              obtain rfl := Option.some.inj hF
              exact W.iret (v := ((-1) - p1)) hx hb hr (fun t ht hW => ⟨⟨((-1) - p1), (), rfl, rfl, QB.of ht hP hD⟩, hS.F ht⟩) hS.2.2 dX0_behindStatement_146
theorem inw_X0_digit_X0 : ∀ w ∈ u_ws RX0 TX0 2, w ∈ wsX0_digit := fun _ h => List.mem_cons_of_mem _ (List.mem_append_right _ h)
set_option maxHeartbeats 4000000 in
set_option maxRecDepth 100000 in
theorem c_X0_digit (l : Launch) (dC : Nat → ClassId) (dI : Nat → Nat → Nat) (cI : ClassId) (sf : SFP) (sz : Nat) (N : Nat) (h0 h1 : Nat) (tW : LetS) (p1 : Int32) (r : Int32) (hF : F_X0_digit N tW p1 = some r) : Met l yX0_digit wsX0_digit ({ frames := 1, cells := 0, slots := 0, locals := 21 }) (va_Pc [.ref h0, .int p1] (PB (dC, dI) cI (cwL cI h0 h1 tW) sz sf)) (va_Qi (fun (z : Int32) (_ : Unit) => z = r) (fun _ t => QB (dC, dI) (cwL cI h0 h1 tW) (va_A (cwL cI h0 h1 tW) sz) t) (va_A (cwL cI h0 h1 tW) sz)) 0 0 (va_A (cwL cI h0 h1 tW) sz) := by
  refine Met.ofW (cc := cX0_digit) (maxL := 2) (ret := (some .int)) (by decide) rfl ?_
  intro p e s m args below meth c s₁ B hml hv
  obtain ⟨rfl, hsz, hP, hK, hD0, hNN, hSF⟩ := hv
  have hx := B.exec
  have hb := B.bytes
  have hr := B.returns
  have hts := atoms_spec (ws := wsX0_digit) B.pre
  have hown : s.vm.findClass RX0 = some m.cls := findClass_of_methodNamed B.named
  have hlocks := B.notSynchronized
  subst hsz
  have hD := hD0.self (sz := s.heap.size)
  generalize hAe : va_A (cwL cI h0 h1 tW) s.heap.size = A at hD hSF ⊢
  have hA : ∀ q : Nat, s.heap.size ≤ q → A q := fun q h => by rw [← hAe]; exact Or.inr h
  clear hAe hD0
  have hS : va_S A s.heap s.heap [] := va_S.rf
  have hl := lv_entry ([.ref h0, .int p1]) (n := 2) (Nat.le_of_ble_eq_true rfl)
  rw [lg_entry_eq]
  generalize (lg_sl ([.ref h0, .int p1]) ++ List.replicate (2 - (lg_sl ([.ref h0, .int p1])).length) Slot.unset).toArray = ls at hl ⊢
  have hl : lv_has ls 2 [(0, .ref h0), (1, .int p1)] := hl
  rw [F_X0_digit] at hF
  refine lv_aload_n hx hb dX0_digit_0 rfl (lv_at hl 0 rfl) ?_
  refine lv_iload_n hx hb dX0_digit_1 rfl (lv_at hl 1 rfl) ?_
  have hPc := hP.sub (ws' := (cwL cI h0 h1 tW)) [0, 1] rfl
  have hDc := hD.sub (ws' := (cwL cI h0 h1 tW)) [0, 1] (by decide) rfl
  have hFc := va_free (wc := (cwL cI h0 h1 tW)) hD hS hA [0, 1] rfl
  refine bd hF (fun r2 hG hF => ?_)
  refine va_calli (va_runV (As := [.int p1]) (rest := []) ⟨hx, hb, hml, hown, hts⟩ (c_X0_sign l dC dI cI sf s.heap.size N h0 h1 tW p1 r2 hG) (cwV 1 hts gX0_digit_X0_sign rfl rfl rfl (by decide +kernel) ⟨Nat.le_of_ble_eq_true rfl, Nat.le_of_ble_eq_true rfl⟩) ⟨fun a U g mk q => ⟨q.1, q.2.call⟩, va_recv hK hP (ci := 0) (q0 := 0) rfl rfl, fun U hU hW => ⟨rfl, PB.of hU hW hPc hK hDc hNN hSF hS hFc⟩⟩ rfl rfl hl.1 rfl (lv_room (Nat.le_of_ble_eq_true rfl)) dX0_digit_2 ⟨Nat.le_of_ble_eq_true rfl, Nat.le_of_ble_eq_true rfl⟩) hS (fun q _ h => hFc q h) hFc (fun z_ u_ t H locs ht hvm hw hB hz1 hk1 hS => ?_)
  subst z_
  obtain ⟨hP1, hD1⟩ := hB
  rw [ht] at hP1
  have hJ := vb_join (ws' := (cwL cI h0 h1 tW)) hP hD [0, 1] [] [0, 1] rfl rfl (by decide) (by decide) hk1 hFc hP1 hD1 rfl (by decide) rfl
  clear hP hD hPc hDc hFc hP1 hD1 hk1 hz1 ht hvm hG
  obtain ⟨hP, hD⟩ := hJ
  refine lv_bipush (v := nI 48) hx hb dX0_digit_5 (by decide) ?_
  refine lv_isub hx hb dX0_digit_7 ?_
  obtain rfl := Option.some.inj hF
  exact W.iret (v := (r2 - (nI 48))) hx hb hr (fun t ht hW => ⟨⟨(r2 - (nI 48)), (), rfl, rfl, QB.of ht hP hD⟩, hS.F ht⟩) hS.2.2 dX0_digit_8
theorem inw_X0_spelling_X0 : ∀ w ∈ u_ws RX0 TX0 2, w ∈ wsX0_spelling := fun _ h => List.mem_cons_of_mem _ (List.mem_append_right _ h)
set_option maxHeartbeats 4000000 in
set_option maxRecDepth 100000 in
theorem c_X0_spelling (l : Launch) (dC : Nat → ClassId) (dI : Nat → Nat → Nat) (cI : ClassId) (sf : SFP) (sz : Nat) (N : Nat) (h0 h1 : Nat) (tW : LetS) (r : Int32) (hF : F_X0_spelling N tW = some r) : Met l yX0_spelling wsX0_spelling ({ frames := 6, cells := 0, slots := 0, locals := 128 }) (va_Pc [.ref h0] (PB (dC, dI) cI (cwL cI h0 h1 tW) sz sf)) (va_Qi (fun (z : Int32) (_ : Unit) => z = r) (fun _ t => QB (dC, dI) (cwL cI h0 h1 tW) (va_A (cwL cI h0 h1 tW) sz) t) (va_A (cwL cI h0 h1 tW) sz)) 0 0 (va_A (cwL cI h0 h1 tW) sz) := by
  refine Met.ofW (cc := cX0_spelling) (maxL := 4) (ret := (some .int)) (by decide) rfl ?_
  intro p e s m args below meth c s₁ B hml hv
  obtain ⟨rfl, hsz, hP, hK, hD0, hNN, hSF⟩ := hv
  have hx := B.exec
  have hb := B.bytes
  have hr := B.returns
  have hts := atoms_spec (ws := wsX0_spelling) B.pre
  have hown : s.vm.findClass RX0 = some m.cls := findClass_of_methodNamed B.named
  have hlocks := B.notSynchronized
  subst hsz
  have hD := hD0.self (sz := s.heap.size)
  generalize hAe : va_A (cwL cI h0 h1 tW) s.heap.size = A at hD hSF ⊢
  have hA : ∀ q : Nat, s.heap.size ≤ q → A q := fun q h => by rw [← hAe]; exact Or.inr h
  clear hAe hD0
  have hS : va_S A s.heap s.heap [] := va_S.rf
  have hl := lv_entry ([.ref h0]) (n := 4) (Nat.le_of_ble_eq_true rfl)
  rw [lg_entry_eq]
  generalize (lg_sl ([.ref h0]) ++ List.replicate (4 - (lg_sl ([.ref h0])).length) Slot.unset).toArray = ls at hl ⊢
  have hl : lv_has ls 4 [(0, .ref h0)] := hl
  rw [F_X0_spelling] at hF
  refine lv_iconst (v := nI 0) hx hb dX0_spelling_0 (by decide) ?_
  refine lv_istore_n (lv' := [(1, .int (nI 0)), (0, .ref h0)]) hx hb dX0_spelling_1 rfl hl (by decide) rfl (fun ls hl => ?_)
  refine lv_iconst (v := nI 0) hx hb dX0_spelling_2 (by decide) ?_
  refine vW_have (fun R av Q => ∀ (n4 : Nat) (x1 : Int32) (x2 : Int32) (H : Heap) (locs : List Loc) (ls : Array Slot), F_X0_spelling_4 N tW n4 x1 x2 = some r → va_P (dC, dI) vwCl (cwL cI h0 h1 tW) H → va_D A (cwL cI h0 h1 tW) → va_S A s.heap H locs → lv_has ls 4 [(0, .ref h0), (1, .int x1), (2, .int x2)] → W p l e R s m av below meth c H locs 0 0 Q (F0 m 4 ls [])) ?_ (fun kJ4 => ?_)
  · intro n4
    induction n4 with
    | zero => intro x1 x2 H locs ls hF; exact nn hF
    | succ n4 ih4 =>
      intro x1 x2 H locs ls hF hP hD hS hl
      rw [F_X0_spelling_4] at hF
      refine lv_iload_n hx hb dX0_spelling_4 rfl (lv_at hl 2 rfl) ?_
      refine lv_bipush (v := nI 96) hx hb dX0_spelling_5 (by decide) ?_
      refine lv_icmp_ge (tgt := 44) hx hb dX0_spelling_7 (by decide) (fun hc => ?_) (fun hc => ?_)
      · have hF := ift hc hF
        refine lv_iconst (v := nI 0) hx hb dX0_spelling_44 (by decide) ?_
        obtain rfl := Option.some.inj hF
        exact W.iret (v := (nI 0)) hx hb hr (fun t ht hW => ⟨⟨(nI 0), (), rfl, rfl, QB.of ht hP hD⟩, hS.F ht⟩) hS.2.2 dX0_spelling_45
      · have hF := iff_ hc hF
        refine lv_aload_n hx hb dX0_spelling_10 rfl (lv_at hl 0 rfl) ?_
        refine lv_iload_n hx hb dX0_spelling_11 rfl (lv_at hl 1 rfl) ?_
        have hPc := hP.sub (ws' := (cwL cI h0 h1 tW)) [0, 1] rfl
        have hDc := hD.sub (ws' := (cwL cI h0 h1 tW)) [0, 1] (by decide) rfl
        have hFc := va_free (wc := (cwL cI h0 h1 tW)) hD hS hA [0, 1] rfl
        refine bd hF (fun r12 hG hF => ?_)
        refine va_calli (va_runV (As := [.int x1]) (rest := []) ⟨hx, hb, hml, hown, hts⟩ (c_X0_behindStatement l dC dI cI sf H.size N h0 h1 tW x1 r12 hG) (cwV 1 hts gX0_spelling_X0_behindStatement rfl rfl rfl (by decide +kernel) ⟨Nat.le_of_ble_eq_true rfl, Nat.le_of_ble_eq_true rfl⟩) ⟨fun a U g mk q => ⟨q.1, q.2.call⟩, va_recv hK hP (ci := 0) (q0 := 0) rfl rfl, fun U hU hW => ⟨rfl, PB.of hU hW hPc hK hDc hNN hSF hS hFc⟩⟩ rfl rfl hl.1 rfl (lv_room (Nat.le_of_ble_eq_true rfl)) dX0_spelling_12 ⟨Nat.le_of_ble_eq_true rfl, Nat.le_of_ble_eq_true rfl⟩) hS (fun q _ h => hFc q h) hFc (fun z_ u_ t H locs ht hvm hw hB hz1 hk1 hS => ?_)
        subst z_
        obtain ⟨hP1, hD1⟩ := hB
        rw [ht] at hP1
        have hJ := vb_join (ws' := (cwL cI h0 h1 tW)) hP hD [0, 1] [] [0, 1] rfl rfl (by decide) (by decide) hk1 hFc hP1 hD1 rfl (by decide) rfl
        clear hP hD hPc hDc hFc hP1 hD1 hk1 hz1 ht hvm hG
        obtain ⟨hP, hD⟩ := hJ
        refine lv_istore_n (lv' := [(3, .int r12), (0, .ref h0), (1, .int x1), (2, .int x2)]) hx hb dX0_spelling_15 rfl hl (by decide) rfl (fun ls hl => ?_)
        refine lv_iload_n hx hb dX0_spelling_16 rfl (lv_at hl 0 rfl) ?_
        refine lv_if_ge (tgt := 26) hx hb dX0_spelling_17 (by decide) (fun hc => ?_) (fun hc => ?_)
        · have hF := ift hc hF
          refine lv_iload_n hx hb dX0_spelling_26 rfl (lv_at hl 0 rfl) ?_
          refine lv_aload_n hx hb dX0_spelling_27 rfl (lv_at hl 1 rfl) ?_
          refine va_get (D := (dC, dI)) (ci := 0) (v := .int tW.2) (C := RX0) (T := TX0) (N := 2) hx hb hts inw_X0_spelling_X0 hown hK hP 0 rfl rfl 1 (by decide) (hts (.fieldLink RX0 15 "DeniedOfEachOther$Letters" "size" "I") (List.mem_of_getElem? (i := 1) rfl)) (fun _ h9 => h9) rfl dX0_spelling_28 ?_
          refine lv_icmp_lt (tgt := 36) hx hb dX0_spelling_31 (by decide) (fun hc => ?_) (fun hc => ?_)
          · have hF := ift hc hF
            refine lv_iload_n hx hb dX0_spelling_36 rfl (lv_at hl 0 rfl) ?_
            refine lv_istore_n (lv' := [(1, .int r12), (3, .int r12), (0, .ref h0), (2, .int x2)]) hx hb dX0_spelling_37 rfl hl (by decide) rfl (fun ls hl => ?_)
            refine lv_iinc (v := x2 + (nI 1)) (lv' := [(2, .int (x2 + (nI 1))), (1, .int r12), (3, .int r12), (0, .ref h0)]) hx hb dX0_spelling_38 hl (k := 3) rfl (by rfl) (by decide) rfl (fun ls hl => ?_)
            refine lv_goto (tgt := 4) hx hb dX0_spelling_41 (by decide) ?_
            exact ih4 r12 (x2 + (nI 1)) _ _ _ hF hP hD hS (lv_sub hl [3, 1, 0] rfl)
          · have hF := iff_ hc hF
            refine lv_iconst (v := nI 0) hx hb dX0_spelling_34 (by decide) ?_
            obtain rfl := Option.some.inj hF
            exact W.iret (v := (nI 0)) hx hb hr (fun t ht hW => ⟨⟨(nI 0), (), rfl, rfl, QB.of ht hP hD⟩, hS.F ht⟩) hS.2.2 dX0_spelling_35
        · have hF := iff_ hc hF
          refine lv_sipush (v := (-999)) hx hb dX0_spelling_20 (by decide) ?_
          refine lv_iload_n hx hb dX0_spelling_23 rfl (lv_at hl 0 rfl) ?_
          refine lv_iadd hx hb dX0_spelling_24 ?_
          obtain rfl := Option.some.inj hF
          exact W.iret (v := ((-999) + r12)) hx hb hr (fun t ht hW => ⟨⟨((-999) + r12), (), rfl, rfl, QB.of ht hP hD⟩, hS.F ht⟩) hS.2.2 dX0_spelling_25
  refine lv_istore_n (lv' := [(2, .int (nI 0)), (1, .int (nI 0)), (0, .ref h0)]) hx hb dX0_spelling_3 rfl hl (by decide) rfl (fun ls hl => ?_)
  exact kJ4 N (nI 0) (nI 0) _ _ _ hF hP hD hS (lv_sub hl [2, 1, 0] rfl)
theorem inw_X0_tellAll_X0 : ∀ w ∈ u_ws RX0 TX0 2, w ∈ wsX0_tellAll := fun _ h => List.mem_cons_of_mem _ (List.mem_append_left _ (List.mem_append_right _ h))
theorem inw_X0_tellAll_X1 : ∀ w ∈ u_ws RX1 TX1 8, w ∈ wsX0_tellAll := fun _ h => List.mem_cons_of_mem _ (List.mem_append_right _ h)
set_option maxHeartbeats 4000000 in
set_option maxRecDepth 100000 in
theorem c_X0_tellAll (l : Launch) (dC : Nat → ClassId) (dI : Nat → Nat → Nat) (cI : ClassId) (sf : SFP) (sz : Nat) (N : Nat) (h0 h1 : Nat) (k0 k1 k2 k3 k4 k5 : Nat) (tW : LetS) (uW : TownS) (p1 : Int32) (r : (Int32 × TownS)) (hF : F_X0_tellAll N tW uW p1 = some r) : Met l yX0_tellAll wsX0_tellAll ({ frames := 2, cells := 0, slots := 0, locals := 47 }) (va_Pc [.ref h0, .int p1, .ref k0] (PB (dC, dI) cI (cwL cI h0 h1 tW ++ cwT cI k0 k1 k2 k3 k4 k5 uW) sz sf)) (va_Qi (fun (z : Int32) (_ : Unit) => z = r.1) (fun _ t => QB (dC, dI) (cwL cI h0 h1 tW ++ cwT cI k0 k1 k2 k3 k4 k5 r.2) (va_A (cwL cI h0 h1 tW ++ cwT cI k0 k1 k2 k3 k4 k5 uW) sz) t) (va_A (cwL cI h0 h1 tW ++ cwT cI k0 k1 k2 k3 k4 k5 uW) sz)) 0 0 (va_A (cwL cI h0 h1 tW ++ cwT cI k0 k1 k2 k3 k4 k5 uW) sz) := by
  refine Met.ofW (cc := cX0_tellAll) (maxL := 4) (ret := (some .boolean)) (by decide) rfl ?_
  intro p e s m args below meth c s₁ B hml hv
  obtain ⟨rfl, hsz, hP, hK, hD0, hNN, hSF⟩ := hv
  have hx := B.exec
  have hb := B.bytes
  have hr := B.returns
  have hts := atoms_spec (ws := wsX0_tellAll) B.pre
  have hown : s.vm.findClass RX0 = some m.cls := findClass_of_methodNamed B.named
  have hlocks := B.notSynchronized
  subst hsz
  have hD := hD0.self (sz := s.heap.size)
  generalize hAe : va_A (cwL cI h0 h1 tW ++ cwT cI k0 k1 k2 k3 k4 k5 uW) s.heap.size = A at hD hSF ⊢
  have hA : ∀ q : Nat, s.heap.size ≤ q → A q := fun q h => by rw [← hAe]; exact Or.inr h
  clear hAe hD0
  have hS : va_S A s.heap s.heap [] := va_S.rf
  have hl := lv_entry ([.ref h0, .int p1, .ref k0]) (n := 4) (Nat.le_of_ble_eq_true rfl)
  rw [lg_entry_eq]
  generalize (lg_sl ([.ref h0, .int p1, .ref k0]) ++ List.replicate (4 - (lg_sl ([.ref h0, .int p1, .ref k0])).length) Slot.unset).toArray = ls at hl ⊢
  have hl : lv_has ls 4 [(0, .ref h0), (1, .int p1), (2, .ref k0)] := hl
  rw [F_X0_tellAll] at hF
  refine lv_iconst (v := nI 0) hx hb dX0_tellAll_0 (by decide) ?_
  refine vW_have (fun R av Q => ∀ (n2 : Nat) (uW : TownS) (x1 : Int32) (x3 : Int32) (H : Heap) (locs : List Loc) (ls : Array Slot), F_X0_tellAll_2 N tW n2 uW x1 x3 = some r → va_P (dC, dI) vwCl (cwL cI h0 h1 tW ++ cwT cI k0 k1 k2 k3 k4 k5 uW) H → va_D A (cwL cI h0 h1 tW ++ cwT cI k0 k1 k2 k3 k4 k5 uW) → va_S A s.heap H locs → lv_has ls 4 [(0, .ref h0), (1, .int x1), (2, .ref k0), (3, .int x3)] → W p l e R s m av below meth c H locs 0 0 Q (F0 m 2 ls [])) ?_ (fun kJ2 => ?_)
  · intro n2
    induction n2 with
    | zero => intro uW x1 x3 H locs ls hF; exact nn hF
    | succ n2 ih2 =>
      intro uW x1 x3 H locs ls hF hP hD hS hl
      rw [F_X0_tellAll_2] at hF
      refine lv_iload_n hx hb dX0_tellAll_2 rfl (lv_at hl 3 rfl) ?_
      refine lv_bipush (v := nI 8) hx hb dX0_tellAll_3 (by decide) ?_
      refine lv_icmp_ge (tgt := 52) hx hb dX0_tellAll_5 (by decide) (fun hc => ?_) (fun hc => ?_)
      · have hF := ift hc hF
        refine lv_iconst (v := nI 1) hx hb dX0_tellAll_52 (by decide) ?_
        obtain rfl := Option.some.inj hF
        exact W.zret (v := (nI 1)) (ty := .boolean) hx hb hr (by decide +kernel) (fun t ht hW => ⟨⟨(nI 1), (), rfl, rfl, QB.of ht hP hD⟩, hS.F ht⟩) hS.2.2 dX0_tellAll_53
      · have hF := iff_ hc hF
        refine lv_aload_n hx hb dX0_tellAll_8 rfl (lv_at hl 0 rfl) ?_
        refine lv_iload_n hx hb dX0_tellAll_9 rfl (lv_at hl 1 rfl) ?_
        refine lv_iconst (v := nI 2) hx hb dX0_tellAll_10 (by decide) ?_
        refine lv_iadd hx hb dX0_tellAll_11 ?_
        refine lv_iload_n hx hb dX0_tellAll_12 rfl (lv_at hl 3 rfl) ?_
        refine lv_iadd hx hb dX0_tellAll_13 ?_
        have hPc := hP.sub (ws' := (cwL cI h0 h1 tW)) [0, 1] rfl
        have hDc := hD.sub (ws' := (cwL cI h0 h1 tW)) [0, 1] (by decide) rfl
        have hFc := va_free (wc := (cwL cI h0 h1 tW)) hD hS hA [0, 1] rfl
        refine bd hF (fun r14 hG hF => ?_)
        refine va_calli (va_runV (As := [.int ((x1 + (nI 2)) + x3)]) (rest := []) ⟨hx, hb, hml, hown, hts⟩ (c_X0_isDigit l dC dI cI sf H.size N h0 h1 tW ((x1 + (nI 2)) + x3) r14 hG) (cwV 1 hts gX0_tellAll_X0_isDigit rfl rfl rfl (by decide +kernel) ⟨Nat.le_of_ble_eq_true rfl, Nat.le_of_ble_eq_true rfl⟩) ⟨fun a U g mk q => ⟨q.1, q.2.call⟩, va_recv hK hP (ci := 0) (q0 := 0) rfl rfl, fun U hU hW => ⟨rfl, PB.of hU hW hPc hK hDc hNN hSF hS hFc⟩⟩ rfl rfl hl.1 rfl (lv_room (Nat.le_of_ble_eq_true rfl)) dX0_tellAll_14 ⟨Nat.le_of_ble_eq_true rfl, Nat.le_of_ble_eq_true rfl⟩) hS (fun q _ h => hFc q h) hFc (fun z_ u_ t H locs ht hvm hw hB hz1 hk1 hS => ?_)
        subst z_
        obtain ⟨hP1, hD1⟩ := hB
        rw [ht] at hP1
        have hJ := vb_join (ws' := (cwL cI h0 h1 tW ++ cwT cI k0 k1 k2 k3 k4 k5 uW)) hP hD [0, 1] [2, 3, 4, 5, 6, 7] [6, 7, 0, 1, 2, 3, 4, 5] rfl rfl (by decide) (by decide) hk1 hFc hP1 hD1 rfl (by decide) rfl
        clear hP hD hPc hDc hFc hP1 hD1 hk1 hz1 ht hvm hG
        obtain ⟨hP, hD⟩ := hJ
        refine lv_if_eq (tgt := 52) hx hb dX0_tellAll_17 (by decide) (fun hc => ?_) (fun hc => ?_)
        · have hF := ift hc hF
          refine lv_iconst (v := nI 1) hx hb dX0_tellAll_52 (by decide) ?_
          obtain rfl := Option.some.inj hF
          exact W.zret (v := (nI 1)) (ty := .boolean) hx hb hr (by decide +kernel) (fun t ht hW => ⟨⟨(nI 1), (), rfl, rfl, QB.of ht hP hD⟩, hS.F ht⟩) hS.2.2 dX0_tellAll_53
        · have hF := iff_ hc hF
          refine lv_aload_n hx hb dX0_tellAll_20 rfl (lv_at hl 2 rfl) ?_
          refine lv_aload_n hx hb dX0_tellAll_21 rfl (lv_at hl 0 rfl) ?_
          refine lv_iload_n hx hb dX0_tellAll_22 rfl (lv_at hl 1 rfl) ?_
          refine lv_iconst (v := nI 1) hx hb dX0_tellAll_23 (by decide) ?_
          refine lv_iadd hx hb dX0_tellAll_24 ?_
          have hPc := hP.sub (ws' := (cwL cI h0 h1 tW)) [0, 1] rfl
          have hDc := hD.sub (ws' := (cwL cI h0 h1 tW)) [0, 1] (by decide) rfl
          have hFc := va_free (wc := (cwL cI h0 h1 tW)) hD hS hA [0, 1] rfl
          refine bd hF (fun r25 hG hF => ?_)
          refine va_calli (va_runV (As := [.int (x1 + (nI 1))]) (rest := [.ref k0]) ⟨hx, hb, hml, hown, hts⟩ (c_X0_digit l dC dI cI sf H.size N h0 h1 tW (x1 + (nI 1)) r25 hG) (cwV 1 hts gX0_tellAll_X0_digit rfl rfl rfl (by decide +kernel) ⟨Nat.le_of_ble_eq_true rfl, Nat.le_of_ble_eq_true rfl⟩) ⟨fun a U g mk q => ⟨q.1, q.2.call⟩, va_recv hK hP (ci := 0) (q0 := 0) rfl rfl, fun U hU hW => ⟨rfl, PB.of hU hW hPc hK hDc hNN hSF hS hFc⟩⟩ rfl rfl hl.1 rfl (lv_room (Nat.le_of_ble_eq_true rfl)) dX0_tellAll_25 ⟨Nat.le_of_ble_eq_true rfl, Nat.le_of_ble_eq_true rfl⟩) hS (fun q _ h => hFc q h) hFc (fun z_ u_ t H locs ht hvm hw hB hz1 hk1 hS => ?_)
          subst z_
          obtain ⟨hP1, hD1⟩ := hB
          rw [ht] at hP1
          have hJ := vb_join (ws' := (cwL cI h0 h1 tW ++ cwT cI k0 k1 k2 k3 k4 k5 uW)) hP hD [0, 1] [2, 3, 4, 5, 6, 7] [6, 7, 0, 1, 2, 3, 4, 5] rfl rfl (by decide) (by decide) hk1 hFc hP1 hD1 rfl (by decide) rfl
          clear hP hD hPc hDc hFc hP1 hD1 hk1 hz1 ht hvm hG
          obtain ⟨hP, hD⟩ := hJ
          refine lv_iload_n hx hb dX0_tellAll_28 rfl (lv_at hl 3 rfl) ?_
          refine lv_aload_n hx hb dX0_tellAll_29 rfl (lv_at hl 0 rfl) ?_
          refine lv_iload_n hx hb dX0_tellAll_30 rfl (lv_at hl 1 rfl) ?_
          refine lv_iconst (v := nI 2) hx hb dX0_tellAll_31 (by decide) ?_
          refine lv_iadd hx hb dX0_tellAll_32 ?_
          refine lv_iload_n hx hb dX0_tellAll_33 rfl (lv_at hl 3 rfl) ?_
          refine lv_iadd hx hb dX0_tellAll_34 ?_
          have hPc := hP.sub (ws' := (cwL cI h0 h1 tW)) [0, 1] rfl
          have hDc := hD.sub (ws' := (cwL cI h0 h1 tW)) [0, 1] (by decide) rfl
          have hFc := va_free (wc := (cwL cI h0 h1 tW)) hD hS hA [0, 1] rfl
          refine bd hF (fun r35 hG hF => ?_)
          refine va_calli (va_runV (As := [.int ((x1 + (nI 2)) + x3)]) (rest := [.int x3, .int r25, .ref k0]) ⟨hx, hb, hml, hown, hts⟩ (c_X0_digit l dC dI cI sf H.size N h0 h1 tW ((x1 + (nI 2)) + x3) r35 hG) (cwV 1 hts gX0_tellAll_X0_digit rfl rfl rfl (by decide +kernel) ⟨Nat.le_of_ble_eq_true rfl, Nat.le_of_ble_eq_true rfl⟩) ⟨fun a U g mk q => ⟨q.1, q.2.call⟩, va_recv hK hP (ci := 0) (q0 := 0) rfl rfl, fun U hU hW => ⟨rfl, PB.of hU hW hPc hK hDc hNN hSF hS hFc⟩⟩ rfl rfl hl.1 rfl (lv_room (Nat.le_of_ble_eq_true rfl)) dX0_tellAll_35 ⟨Nat.le_of_ble_eq_true rfl, Nat.le_of_ble_eq_true rfl⟩) hS (fun q _ h => hFc q h) hFc (fun z_ u_ t H locs ht hvm hw hB hz1 hk1 hS => ?_)
          subst z_
          obtain ⟨hP1, hD1⟩ := hB
          rw [ht] at hP1
          have hJ := vb_join (ws' := (cwL cI h0 h1 tW ++ cwT cI k0 k1 k2 k3 k4 k5 uW)) hP hD [0, 1] [2, 3, 4, 5, 6, 7] [6, 7, 0, 1, 2, 3, 4, 5] rfl rfl (by decide) (by decide) hk1 hFc hP1 hD1 rfl (by decide) rfl
          clear hP hD hPc hDc hFc hP1 hD1 hk1 hz1 ht hvm hG
          obtain ⟨hP, hD⟩ := hJ
          have hPc := hP.sub (ws' := (cwT cI k0 k1 k2 k3 k4 k5 uW)) [2, 3, 4, 5, 6, 7] rfl
          have hDc := hD.sub (ws' := (cwT cI k0 k1 k2 k3 k4 k5 uW)) [2, 3, 4, 5, 6, 7] (by decide) rfl
          have hFc := va_free (wc := (cwT cI k0 k1 k2 k3 k4 k5 uW)) hD hS hA [2, 3, 4, 5, 6, 7] rfl
          refine bd hF (fun r38 hG hF => ?_)
          refine va_calli (va_runVN (As := [.int r25, .int x3, .int r35]) (rest := []) ⟨hx, hb, hml, hown, hts⟩ (c_X1_hear l dC dI cI sf H.size N k0 k1 k2 k3 k4 k5 uW r25 x3 r35 r38 hG) ⟨va_cnB 3 hts gX0_tellAll_X1_hear_n61 rfl rfl rfl (hNN.at 5 rfl) (hts (.initialized RX1) (List.mem_of_getElem? (i := 17) rfl)) (by decide +kernel) ⟨Nat.le_of_ble_eq_true rfl, Nat.le_of_ble_eq_true rfl⟩, hts (.instanceMethod yX1_hear) (List.mem_of_getElem? (i := 16) rfl), hts (.selects RX1 yX1_hear yX1_hear) (List.mem_of_getElem? (i := 18) rfl)⟩ ⟨fun a U g mk q => ⟨q.1, q.2.call⟩, va_recv hK hP (ci := 1) (q0 := 2) rfl rfl, fun U hU hW => ⟨rfl, PB.of hU hW hPc hK hDc hNN hSF hS hFc⟩⟩ rfl rfl hl.1 rfl (lv_room (Nat.le_of_ble_eq_true rfl)) dX0_tellAll_38 ⟨Nat.le_of_ble_eq_true rfl, Nat.le_of_ble_eq_true rfl⟩) hS (fun q _ h => hFc q h) hFc (fun z_ u_ t H locs ht hvm hw hB hz1 hk1 hS => ?_)
          subst z_
          obtain ⟨hP1, hD1⟩ := hB
          rw [ht] at hP1
          have hJ := vb_join (ws' := (cwL cI h0 h1 tW ++ cwT cI k0 k1 k2 k3 k4 k5 r38.2)) hP hD [2, 3, 4, 5, 6, 7] [0, 1] [0, 1, 2, 3, 4, 5, 6, 7] rfl rfl (by decide) (by decide) hk1 hFc hP1 hD1 rfl (by decide) rfl
          clear hP hD hPc hDc hFc hP1 hD1 hk1 hz1 ht hvm hG
          obtain ⟨hP, hD⟩ := hJ
          refine lv_if_ne (tgt := 46) hx hb dX0_tellAll_41 (by decide) (fun hc => ?_) (fun hc => ?_)
          · have hF := ift hc hF
            refine lv_iinc (v := x3 + (nI 1)) (lv' := [(3, .int (x3 + (nI 1))), (0, .ref h0), (1, .int x1), (2, .ref k0)]) hx hb dX0_tellAll_46 hl (k := 3) rfl (by rfl) (by decide) rfl (fun ls hl => ?_)
            refine lv_goto (tgt := 2) hx hb dX0_tellAll_49 (by decide) ?_
            exact ih2 r38.2 x1 (x3 + (nI 1)) _ _ _ hF hP hD hS (lv_sub hl [1, 2, 3, 0] rfl)
          · have hF := iff_ (fun h => h hc) hF
            refine lv_iconst (v := nI 0) hx hb dX0_tellAll_44 (by decide) ?_
            obtain rfl := Option.some.inj hF
            exact W.zret (v := (nI 0)) (ty := .boolean) hx hb hr (by decide +kernel) (fun t ht hW => ⟨⟨(nI 0), (), rfl, rfl, QB.of ht hP hD⟩, hS.F ht⟩) hS.2.2 dX0_tellAll_45
  refine lv_istore_n (lv' := [(3, .int (nI 0)), (0, .ref h0), (1, .int p1), (2, .ref k0)]) hx hb dX0_tellAll_1 rfl hl (by decide) rfl (fun ls hl => ?_)
  exact kJ2 N uW p1 (nI 0) _ _ _ hF hP hD hS (lv_sub hl [1, 2, 3, 0] rfl)
theorem inw_X0_tellQuarrel_X0 : ∀ w ∈ u_ws RX0 TX0 2, w ∈ wsX0_tellQuarrel := fun _ h => List.mem_cons_of_mem _ (List.mem_append_left _ (List.mem_append_right _ h))
theorem inw_X0_tellQuarrel_X1 : ∀ w ∈ u_ws RX1 TX1 8, w ∈ wsX0_tellQuarrel := fun _ h => List.mem_cons_of_mem _ (List.mem_append_right _ h)
set_option maxHeartbeats 4000000 in
set_option maxRecDepth 100000 in
theorem c_X0_tellQuarrel (l : Launch) (dC : Nat → ClassId) (dI : Nat → Nat → Nat) (cI : ClassId) (sf : SFP) (sz : Nat) (N : Nat) (h0 h1 : Nat) (k0 k1 k2 k3 k4 k5 : Nat) (tW : LetS) (uW : TownS) (p1 : Int32) (r : (Int32 × TownS)) (hF : F_X0_tellQuarrel N tW uW p1 = some r) : Met l yX0_tellQuarrel wsX0_tellQuarrel ({ frames := 2, cells := 0, slots := 0, locals := 47 }) (va_Pc [.ref h0, .int p1, .ref k0] (PB (dC, dI) cI (cwL cI h0 h1 tW ++ cwT cI k0 k1 k2 k3 k4 k5 uW) sz sf)) (va_Qi (fun (z : Int32) (_ : Unit) => z = r.1) (fun _ t => QB (dC, dI) (cwL cI h0 h1 tW ++ cwT cI k0 k1 k2 k3 k4 k5 r.2) (va_A (cwL cI h0 h1 tW ++ cwT cI k0 k1 k2 k3 k4 k5 uW) sz) t) (va_A (cwL cI h0 h1 tW ++ cwT cI k0 k1 k2 k3 k4 k5 uW) sz)) 0 0 (va_A (cwL cI h0 h1 tW ++ cwT cI k0 k1 k2 k3 k4 k5 uW) sz) := by
  refine Met.ofW (cc := cX0_tellQuarrel) (maxL := 6) (ret := (some .boolean)) (by decide) rfl ?_
  intro p e s m args below meth c s₁ B hml hv
  obtain ⟨rfl, hsz, hP, hK, hD0, hNN, hSF⟩ := hv
  have hx := B.exec
  have hb := B.bytes
  have hr := B.returns
  have hts := atoms_spec (ws := wsX0_tellQuarrel) B.pre
  have hown : s.vm.findClass RX0 = some m.cls := findClass_of_methodNamed B.named
  have hlocks := B.notSynchronized
  subst hsz
  have hD := hD0.self (sz := s.heap.size)
  generalize hAe : va_A (cwL cI h0 h1 tW ++ cwT cI k0 k1 k2 k3 k4 k5 uW) s.heap.size = A at hD hSF ⊢
  have hA : ∀ q : Nat, s.heap.size ≤ q → A q := fun q h => by rw [← hAe]; exact Or.inr h
  clear hAe hD0
  have hS : va_S A s.heap s.heap [] := va_S.rf
  have hl := lv_entry ([.ref h0, .int p1, .ref k0]) (n := 6) (Nat.le_of_ble_eq_true rfl)
  rw [lg_entry_eq]
  generalize (lg_sl ([.ref h0, .int p1, .ref k0]) ++ List.replicate (6 - (lg_sl ([.ref h0, .int p1, .ref k0])).length) Slot.unset).toArray = ls at hl ⊢
  have hl : lv_has ls 6 [(0, .ref h0), (1, .int p1), (2, .ref k0)] := hl
  rw [F_X0_tellQuarrel] at hF
  refine lv_aload_n hx hb dX0_tellQuarrel_0 rfl (lv_at hl 0 rfl) ?_
  refine lv_iload_n hx hb dX0_tellQuarrel_1 rfl (lv_at hl 1 rfl) ?_
  refine lv_iconst (v := nI 1) hx hb dX0_tellQuarrel_2 (by decide) ?_
  refine lv_iadd hx hb dX0_tellQuarrel_3 ?_
  have hPc := hP.sub (ws' := (cwL cI h0 h1 tW)) [0, 1] rfl
  have hDc := hD.sub (ws' := (cwL cI h0 h1 tW)) [0, 1] (by decide) rfl
  have hFc := va_free (wc := (cwL cI h0 h1 tW)) hD hS hA [0, 1] rfl
  refine bd hF (fun r4 hG hF => ?_)
  refine va_calli (va_runV (As := [.int (p1 + (nI 1))]) (rest := []) ⟨hx, hb, hml, hown, hts⟩ (c_X0_digit l dC dI cI sf s.heap.size N h0 h1 tW (p1 + (nI 1)) r4 hG) (cwV 1 hts gX0_tellQuarrel_X0_digit rfl rfl rfl (by decide +kernel) ⟨Nat.le_of_ble_eq_true rfl, Nat.le_of_ble_eq_true rfl⟩) ⟨fun a U g mk q => ⟨q.1, q.2.call⟩, va_recv hK hP (ci := 0) (q0 := 0) rfl rfl, fun U hU hW => ⟨rfl, PB.of hU hW hPc hK hDc hNN hSF hS hFc⟩⟩ rfl rfl hl.1 rfl (lv_room (Nat.le_of_ble_eq_true rfl)) dX0_tellQuarrel_4 ⟨Nat.le_of_ble_eq_true rfl, Nat.le_of_ble_eq_true rfl⟩) hS (fun q _ h => hFc q h) hFc (fun z_ u_ t H locs ht hvm hw hB hz1 hk1 hS => ?_)
  subst z_
  obtain ⟨hP1, hD1⟩ := hB
  rw [ht] at hP1
  have hJ := vb_join (ws' := (cwL cI h0 h1 tW ++ cwT cI k0 k1 k2 k3 k4 k5 uW)) hP hD [0, 1] [2, 3, 4, 5, 6, 7] [6, 7, 0, 1, 2, 3, 4, 5] rfl rfl (by decide) (by decide) hk1 hFc hP1 hD1 rfl (by decide) rfl
  clear hP hD hPc hDc hFc hP1 hD1 hk1 hz1 ht hvm hG
  obtain ⟨hP, hD⟩ := hJ
  refine lv_istore_n (lv' := [(3, .int r4), (0, .ref h0), (1, .int p1), (2, .ref k0)]) hx hb dX0_tellQuarrel_7 rfl hl (by decide) rfl (fun ls hl => ?_)
  refine lv_aload_n hx hb dX0_tellQuarrel_8 rfl (lv_at hl 1 rfl) ?_
  refine lv_iload_n hx hb dX0_tellQuarrel_9 rfl (lv_at hl 2 rfl) ?_
  refine lv_iconst (v := nI 2) hx hb dX0_tellQuarrel_10 (by decide) ?_
  refine lv_iadd hx hb dX0_tellQuarrel_11 ?_
  have hPc := hP.sub (ws' := (cwL cI h0 h1 tW)) [0, 1] rfl
  have hDc := hD.sub (ws' := (cwL cI h0 h1 tW)) [0, 1] (by decide) rfl
  have hFc := va_free (wc := (cwL cI h0 h1 tW)) hD hS hA [0, 1] rfl
  refine bd hF (fun r12 hG hF => ?_)
  refine va_calli (va_runV (As := [.int (p1 + (nI 2))]) (rest := []) ⟨hx, hb, hml, hown, hts⟩ (c_X0_digit l dC dI cI sf H.size N h0 h1 tW (p1 + (nI 2)) r12 hG) (cwV 1 hts gX0_tellQuarrel_X0_digit rfl rfl rfl (by decide +kernel) ⟨Nat.le_of_ble_eq_true rfl, Nat.le_of_ble_eq_true rfl⟩) ⟨fun a U g mk q => ⟨q.1, q.2.call⟩, va_recv hK hP (ci := 0) (q0 := 0) rfl rfl, fun U hU hW => ⟨rfl, PB.of hU hW hPc hK hDc hNN hSF hS hFc⟩⟩ rfl rfl hl.1 rfl (lv_room (Nat.le_of_ble_eq_true rfl)) dX0_tellQuarrel_12 ⟨Nat.le_of_ble_eq_true rfl, Nat.le_of_ble_eq_true rfl⟩) hS (fun q _ h => hFc q h) hFc (fun z_ u_ t H locs ht hvm hw hB hz1 hk1 hS => ?_)
  subst z_
  obtain ⟨hP1, hD1⟩ := hB
  rw [ht] at hP1
  have hJ := vb_join (ws' := (cwL cI h0 h1 tW ++ cwT cI k0 k1 k2 k3 k4 k5 uW)) hP hD [0, 1] [2, 3, 4, 5, 6, 7] [6, 7, 0, 1, 2, 3, 4, 5] rfl rfl (by decide) (by decide) hk1 hFc hP1 hD1 rfl (by decide) rfl
  clear hP hD hPc hDc hFc hP1 hD1 hk1 hz1 ht hvm hG
  obtain ⟨hP, hD⟩ := hJ
  refine lv_istore (lv' := [(4, .int r12), (3, .int r4), (0, .ref h0), (1, .int p1), (2, .ref k0)]) hx hb dX0_tellQuarrel_15 hl (by decide) rfl (fun ls hl => ?_)
  refine lv_aload_n hx hb dX0_tellQuarrel_17 rfl (lv_at hl 2 rfl) ?_
  refine lv_iload_n hx hb dX0_tellQuarrel_18 rfl (lv_at hl 3 rfl) ?_
  refine lv_iconst (v := nI 3) hx hb dX0_tellQuarrel_19 (by decide) ?_
  refine lv_iadd hx hb dX0_tellQuarrel_20 ?_
  have hPc := hP.sub (ws' := (cwL cI h0 h1 tW)) [0, 1] rfl
  have hDc := hD.sub (ws' := (cwL cI h0 h1 tW)) [0, 1] (by decide) rfl
  have hFc := va_free (wc := (cwL cI h0 h1 tW)) hD hS hA [0, 1] rfl
  refine bd hF (fun r21 hG hF => ?_)
  refine va_calli (va_runV (As := [.int (p1 + (nI 3))]) (rest := []) ⟨hx, hb, hml, hown, hts⟩ (c_X0_digit l dC dI cI sf H.size N h0 h1 tW (p1 + (nI 3)) r21 hG) (cwV 1 hts gX0_tellQuarrel_X0_digit rfl rfl rfl (by decide +kernel) ⟨Nat.le_of_ble_eq_true rfl, Nat.le_of_ble_eq_true rfl⟩) ⟨fun a U g mk q => ⟨q.1, q.2.call⟩, va_recv hK hP (ci := 0) (q0 := 0) rfl rfl, fun U hU hW => ⟨rfl, PB.of hU hW hPc hK hDc hNN hSF hS hFc⟩⟩ rfl rfl hl.1 rfl (lv_room (Nat.le_of_ble_eq_true rfl)) dX0_tellQuarrel_21 ⟨Nat.le_of_ble_eq_true rfl, Nat.le_of_ble_eq_true rfl⟩) hS (fun q _ h => hFc q h) hFc (fun z_ u_ t H locs ht hvm hw hB hz1 hk1 hS => ?_)
  subst z_
  obtain ⟨hP1, hD1⟩ := hB
  rw [ht] at hP1
  have hJ := vb_join (ws' := (cwL cI h0 h1 tW ++ cwT cI k0 k1 k2 k3 k4 k5 uW)) hP hD [0, 1] [2, 3, 4, 5, 6, 7] [6, 7, 0, 1, 2, 3, 4, 5] rfl rfl (by decide) (by decide) hk1 hFc hP1 hD1 rfl (by decide) rfl
  clear hP hD hPc hDc hFc hP1 hD1 hk1 hz1 ht hvm hG
  obtain ⟨hP, hD⟩ := hJ
  refine lv_istore (lv' := [(5, .int r21), (4, .int r12), (3, .int r4), (0, .ref h0), (1, .int p1), (2, .ref k0)]) hx hb dX0_tellQuarrel_24 hl (by decide) rfl (fun ls hl => ?_)
  refine lv_iload_n hx hb dX0_tellQuarrel_26 rfl (lv_at hl 2 rfl) ?_
  refine lv_iload hx hb dX0_tellQuarrel_27 (lv_at hl 1 rfl) ?_
  refine lv_icmp_eq (tgt := 59) hx hb dX0_tellQuarrel_29 (by decide) (fun hc => ?_) (fun hc => ?_)
  · have hF := ift hc hF
    refine lv_iconst (v := nI 0) hx hb dX0_tellQuarrel_59 (by decide) ?_
    obtain rfl := Option.some.inj hF
    exact W.zret (v := (nI 0)) (ty := .boolean) hx hb hr (by decide +kernel) (fun t ht hW => ⟨⟨(nI 0), (), rfl, rfl, QB.of ht hP hD⟩, hS.F ht⟩) hS.2.2 dX0_tellQuarrel_60
  · have hF := iff_ hc hF
    refine lv_aload_n hx hb dX0_tellQuarrel_32 rfl (lv_at hl 5 rfl) ?_
    refine lv_iload_n hx hb dX0_tellQuarrel_33 rfl (lv_at hl 2 rfl) ?_
    refine lv_iload hx hb dX0_tellQuarrel_34 (lv_at hl 0 rfl) ?_
    refine lv_iconst (v := nI 1) hx hb dX0_tellQuarrel_36 (by decide) ?_
    have hPc := hP.sub (ws' := (cwT cI k0 k1 k2 k3 k4 k5 uW)) [2, 3, 4, 5, 6, 7] rfl
    have hDc := hD.sub (ws' := (cwT cI k0 k1 k2 k3 k4 k5 uW)) [2, 3, 4, 5, 6, 7] (by decide) rfl
    have hFc := va_free (wc := (cwT cI k0 k1 k2 k3 k4 k5 uW)) hD hS hA [2, 3, 4, 5, 6, 7] rfl
    refine bd hF (fun r37 hG hF => ?_)
    refine va_calli (va_runVN (As := [.int r4, .int r21, .int (nI 1)]) (rest := []) ⟨hx, hb, hml, hown, hts⟩ (c_X1_hear l dC dI cI sf H.size N k0 k1 k2 k3 k4 k5 uW r4 r21 (nI 1) r37 hG) ⟨va_cnB 3 hts gX0_tellQuarrel_X1_hear_n61 rfl rfl rfl (hNN.at 5 rfl) (hts (.initialized RX1) (List.mem_of_getElem? (i := 13) rfl)) (by decide +kernel) ⟨Nat.le_of_ble_eq_true rfl, Nat.le_of_ble_eq_true rfl⟩, hts (.instanceMethod yX1_hear) (List.mem_of_getElem? (i := 12) rfl), hts (.selects RX1 yX1_hear yX1_hear) (List.mem_of_getElem? (i := 14) rfl)⟩ ⟨fun a U g mk q => ⟨q.1, q.2.call⟩, va_recv hK hP (ci := 1) (q0 := 2) rfl rfl, fun U hU hW => ⟨rfl, PB.of hU hW hPc hK hDc hNN hSF hS hFc⟩⟩ rfl rfl hl.1 rfl (lv_room (Nat.le_of_ble_eq_true rfl)) dX0_tellQuarrel_37 ⟨Nat.le_of_ble_eq_true rfl, Nat.le_of_ble_eq_true rfl⟩) hS (fun q _ h => hFc q h) hFc (fun z_ u_ t H locs ht hvm hw hB hz1 hk1 hS => ?_)
    subst z_
    obtain ⟨hP1, hD1⟩ := hB
    rw [ht] at hP1
    have hJ := vb_join (ws' := (cwL cI h0 h1 tW ++ cwT cI k0 k1 k2 k3 k4 k5 r37.2)) hP hD [2, 3, 4, 5, 6, 7] [0, 1] [0, 1, 2, 3, 4, 5, 6, 7] rfl rfl (by decide) (by decide) hk1 hFc hP1 hD1 rfl (by decide) rfl
    clear hP hD hPc hDc hFc hP1 hD1 hk1 hz1 ht hvm hG
    obtain ⟨hP, hD⟩ := hJ
    refine lv_if_eq (tgt := 59) hx hb dX0_tellQuarrel_40 (by decide) (fun hc => ?_) (fun hc => ?_)
    · have hF := ift hc hF
      refine lv_iconst (v := nI 0) hx hb dX0_tellQuarrel_59 (by decide) ?_
      obtain rfl := Option.some.inj hF
      exact W.zret (v := (nI 0)) (ty := .boolean) hx hb hr (by decide +kernel) (fun t ht hW => ⟨⟨(nI 0), (), rfl, rfl, QB.of ht hP hD⟩, hS.F ht⟩) hS.2.2 dX0_tellQuarrel_60
    · have hF := iff_ hc hF
      refine lv_aload_n hx hb dX0_tellQuarrel_43 rfl (lv_at hl 5 rfl) ?_
      refine lv_iload hx hb dX0_tellQuarrel_44 (lv_at hl 1 rfl) ?_
      refine lv_iload hx hb dX0_tellQuarrel_46 (lv_at hl 0 rfl) ?_
      refine lv_iconst (v := nI 2) hx hb dX0_tellQuarrel_48 (by decide) ?_
      have hPc := hP.sub (ws' := (cwT cI k0 k1 k2 k3 k4 k5 r37.2)) [2, 3, 4, 5, 6, 7] rfl
      have hDc := hD.sub (ws' := (cwT cI k0 k1 k2 k3 k4 k5 r37.2)) [2, 3, 4, 5, 6, 7] (by decide) rfl
      have hFc := va_free (wc := (cwT cI k0 k1 k2 k3 k4 k5 r37.2)) hD hS hA [2, 3, 4, 5, 6, 7] rfl
      refine bd hF (fun r49 hG hF => ?_)
      refine va_calli (va_runVN (As := [.int r12, .int r21, .int (nI 2)]) (rest := []) ⟨hx, hb, hml, hown, hts⟩ (c_X1_hear l dC dI cI sf H.size N k0 k1 k2 k3 k4 k5 r37.2 r12 r21 (nI 2) r49 hG) ⟨va_cnB 3 hts gX0_tellQuarrel_X1_hear_n61 rfl rfl rfl (hNN.at 5 rfl) (hts (.initialized RX1) (List.mem_of_getElem? (i := 13) rfl)) (by decide +kernel) ⟨Nat.le_of_ble_eq_true rfl, Nat.le_of_ble_eq_true rfl⟩, hts (.instanceMethod yX1_hear) (List.mem_of_getElem? (i := 12) rfl), hts (.selects RX1 yX1_hear yX1_hear) (List.mem_of_getElem? (i := 14) rfl)⟩ ⟨fun a U g mk q => ⟨q.1, q.2.call⟩, va_recv hK hP (ci := 1) (q0 := 2) rfl rfl, fun U hU hW => ⟨rfl, PB.of hU hW hPc hK hDc hNN hSF hS hFc⟩⟩ rfl rfl hl.1 rfl (lv_room (Nat.le_of_ble_eq_true rfl)) dX0_tellQuarrel_49 ⟨Nat.le_of_ble_eq_true rfl, Nat.le_of_ble_eq_true rfl⟩) hS (fun q _ h => hFc q h) hFc (fun z_ u_ t H locs ht hvm hw hB hz1 hk1 hS => ?_)
      subst z_
      obtain ⟨hP1, hD1⟩ := hB
      rw [ht] at hP1
      have hJ := vb_join (ws' := (cwL cI h0 h1 tW ++ cwT cI k0 k1 k2 k3 k4 k5 r49.2)) hP hD [2, 3, 4, 5, 6, 7] [0, 1] [0, 1, 2, 3, 4, 5, 6, 7] rfl rfl (by decide) (by decide) hk1 hFc hP1 hD1 rfl (by decide) rfl
      clear hP hD hPc hDc hFc hP1 hD1 hk1 hz1 ht hvm hG
      obtain ⟨hP, hD⟩ := hJ
      refine lv_if_eq (tgt := 59) hx hb dX0_tellQuarrel_52 (by decide) (fun hc => ?_) (fun hc => ?_)
      · have hF := ift hc hF
        refine lv_iconst (v := nI 0) hx hb dX0_tellQuarrel_59 (by decide) ?_
        obtain rfl := Option.some.inj hF
        exact W.zret (v := (nI 0)) (ty := .boolean) hx hb hr (by decide +kernel) (fun t ht hW => ⟨⟨(nI 0), (), rfl, rfl, QB.of ht hP hD⟩, hS.F ht⟩) hS.2.2 dX0_tellQuarrel_60
      · have hF := iff_ hc hF
        refine lv_iconst (v := nI 1) hx hb dX0_tellQuarrel_55 (by decide) ?_
        refine lv_goto (tgt := 60) hx hb dX0_tellQuarrel_56 (by decide) ?_
        obtain rfl := Option.some.inj hF
        exact W.zret (v := (nI 1)) (ty := .boolean) hx hb hr (by decide +kernel) (fun t ht hW => ⟨⟨(nI 1), (), rfl, rfl, QB.of ht hP hD⟩, hS.F ht⟩) hS.2.2 dX0_tellQuarrel_60
theorem inw_X0_twoDigits_X0 : ∀ w ∈ u_ws RX0 TX0 2, w ∈ wsX0_twoDigits := fun _ h => List.mem_cons_of_mem _ (List.mem_append_right _ h)
set_option maxHeartbeats 4000000 in
set_option maxRecDepth 100000 in
theorem c_X0_twoDigits (l : Launch) (dC : Nat → ClassId) (dI : Nat → Nat → Nat) (cI : ClassId) (sf : SFP) (sz : Nat) (N : Nat) (h0 h1 : Nat) (tW : LetS) (p1 : Int32) (r : Int32) (hF : F_X0_twoDigits N tW p1 = some r) : Met l yX0_twoDigits wsX0_twoDigits ({ frames := 2, cells := 0, slots := 0, locals := 42 }) (va_Pc [.ref h0, .int p1] (PB (dC, dI) cI (cwL cI h0 h1 tW) sz sf)) (va_Qi (fun (z : Int32) (_ : Unit) => z = r) (fun _ t => QB (dC, dI) (cwL cI h0 h1 tW) (va_A (cwL cI h0 h1 tW) sz) t) (va_A (cwL cI h0 h1 tW) sz)) 0 0 (va_A (cwL cI h0 h1 tW) sz) := by
  refine Met.ofW (cc := cX0_twoDigits) (maxL := 2) (ret := (some .int)) (by decide) rfl ?_
  intro p e s m args below meth c s₁ B hml hv
  obtain ⟨rfl, hsz, hP, hK, hD0, hNN, hSF⟩ := hv
  have hx := B.exec
  have hb := B.bytes
  have hr := B.returns
  have hts := atoms_spec (ws := wsX0_twoDigits) B.pre
  have hown : s.vm.findClass RX0 = some m.cls := findClass_of_methodNamed B.named
  have hlocks := B.notSynchronized
  subst hsz
  have hD := hD0.self (sz := s.heap.size)
  generalize hAe : va_A (cwL cI h0 h1 tW) s.heap.size = A at hD hSF ⊢
  have hA : ∀ q : Nat, s.heap.size ≤ q → A q := fun q h => by rw [← hAe]; exact Or.inr h
  clear hAe hD0
  have hS : va_S A s.heap s.heap [] := va_S.rf
  have hl := lv_entry ([.ref h0, .int p1]) (n := 2) (Nat.le_of_ble_eq_true rfl)
  rw [lg_entry_eq]
  generalize (lg_sl ([.ref h0, .int p1]) ++ List.replicate (2 - (lg_sl ([.ref h0, .int p1])).length) Slot.unset).toArray = ls at hl ⊢
  have hl : lv_has ls 2 [(0, .ref h0), (1, .int p1)] := hl
  rw [F_X0_twoDigits] at hF
  refine lv_bipush (v := nI 10) hx hb dX0_twoDigits_0 (by decide) ?_
  refine lv_aload_n hx hb dX0_twoDigits_2 rfl (lv_at hl 0 rfl) ?_
  refine lv_iload_n hx hb dX0_twoDigits_3 rfl (lv_at hl 1 rfl) ?_
  have hPc := hP.sub (ws' := (cwL cI h0 h1 tW)) [0, 1] rfl
  have hDc := hD.sub (ws' := (cwL cI h0 h1 tW)) [0, 1] (by decide) rfl
  have hFc := va_free (wc := (cwL cI h0 h1 tW)) hD hS hA [0, 1] rfl
  refine bd hF (fun r4 hG hF => ?_)
  refine va_calli (va_runV (As := [.int p1]) (rest := [.int (nI 10)]) ⟨hx, hb, hml, hown, hts⟩ (c_X0_digit l dC dI cI sf s.heap.size N h0 h1 tW p1 r4 hG) (cwV 1 hts gX0_twoDigits_X0_digit rfl rfl rfl (by decide +kernel) ⟨Nat.le_of_ble_eq_true rfl, Nat.le_of_ble_eq_true rfl⟩) ⟨fun a U g mk q => ⟨q.1, q.2.call⟩, va_recv hK hP (ci := 0) (q0 := 0) rfl rfl, fun U hU hW => ⟨rfl, PB.of hU hW hPc hK hDc hNN hSF hS hFc⟩⟩ rfl rfl hl.1 rfl (lv_room (Nat.le_of_ble_eq_true rfl)) dX0_twoDigits_4 ⟨Nat.le_of_ble_eq_true rfl, Nat.le_of_ble_eq_true rfl⟩) hS (fun q _ h => hFc q h) hFc (fun z_ u_ t H locs ht hvm hw hB hz1 hk1 hS => ?_)
  subst z_
  obtain ⟨hP1, hD1⟩ := hB
  rw [ht] at hP1
  have hJ := vb_join (ws' := (cwL cI h0 h1 tW)) hP hD [0, 1] [] [0, 1] rfl rfl (by decide) (by decide) hk1 hFc hP1 hD1 rfl (by decide) rfl
  clear hP hD hPc hDc hFc hP1 hD1 hk1 hz1 ht hvm hG
  obtain ⟨hP, hD⟩ := hJ
  refine lv_imul hx hb dX0_twoDigits_7 ?_
  refine lv_aload_n hx hb dX0_twoDigits_8 rfl (lv_at hl 0 rfl) ?_
  refine lv_iload_n hx hb dX0_twoDigits_9 rfl (lv_at hl 1 rfl) ?_
  refine lv_iconst (v := nI 1) hx hb dX0_twoDigits_10 (by decide) ?_
  refine lv_iadd hx hb dX0_twoDigits_11 ?_
  have hPc := hP.sub (ws' := (cwL cI h0 h1 tW)) [0, 1] rfl
  have hDc := hD.sub (ws' := (cwL cI h0 h1 tW)) [0, 1] (by decide) rfl
  have hFc := va_free (wc := (cwL cI h0 h1 tW)) hD hS hA [0, 1] rfl
  refine bd hF (fun r12 hG hF => ?_)
  refine va_calli (va_runV (As := [.int (p1 + (nI 1))]) (rest := [.int ((nI 10) * r4)]) ⟨hx, hb, hml, hown, hts⟩ (c_X0_digit l dC dI cI sf H.size N h0 h1 tW (p1 + (nI 1)) r12 hG) (cwV 1 hts gX0_twoDigits_X0_digit rfl rfl rfl (by decide +kernel) ⟨Nat.le_of_ble_eq_true rfl, Nat.le_of_ble_eq_true rfl⟩) ⟨fun a U g mk q => ⟨q.1, q.2.call⟩, va_recv hK hP (ci := 0) (q0 := 0) rfl rfl, fun U hU hW => ⟨rfl, PB.of hU hW hPc hK hDc hNN hSF hS hFc⟩⟩ rfl rfl hl.1 rfl (lv_room (Nat.le_of_ble_eq_true rfl)) dX0_twoDigits_12 ⟨Nat.le_of_ble_eq_true rfl, Nat.le_of_ble_eq_true rfl⟩) hS (fun q _ h => hFc q h) hFc (fun z_ u_ t H locs ht hvm hw hB hz1 hk1 hS => ?_)
  subst z_
  obtain ⟨hP1, hD1⟩ := hB
  rw [ht] at hP1
  have hJ := vb_join (ws' := (cwL cI h0 h1 tW)) hP hD [0, 1] [] [0, 1] rfl rfl (by decide) (by decide) hk1 hFc hP1 hD1 rfl (by decide) rfl
  clear hP hD hPc hDc hFc hP1 hD1 hk1 hz1 ht hvm hG
  obtain ⟨hP, hD⟩ := hJ
  refine lv_iadd hx hb dX0_twoDigits_15 ?_
  obtain rfl := Option.some.inj hF
  exact W.iret (v := (((nI 10) * r4) + r12)) hx hb hr (fun t ht hW => ⟨⟨(((nI 10) * r4) + r12), (), rfl, rfl, QB.of ht hP hD⟩, hS.F ht⟩) hS.2.2 dX0_twoDigits_16
