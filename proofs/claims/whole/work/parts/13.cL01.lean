theorem inw_X0_tellStatement_X0 : ∀ w ∈ u_ws RX0 TX0 2, w ∈ wsX0_tellStatement := fun _ h => List.mem_cons_of_mem _ (List.mem_append_left _ (List.mem_append_right _ h))
theorem inw_X0_tellStatement_X1 : ∀ w ∈ u_ws RX1 TX1 8, w ∈ wsX0_tellStatement := fun _ h => List.mem_cons_of_mem _ (List.mem_append_right _ h)
set_option maxHeartbeats 4000000 in
set_option maxRecDepth 100000 in
theorem c_X0_tellStatement (l : Launch) (dC : Nat → ClassId) (dI : Nat → Nat → Nat) (cI : ClassId) (sf : SFP) (sz : Nat) (N : Nat) (h0 h1 : Nat) (k0 k1 k2 k3 k4 k5 : Nat) (tW : LetS) (uW : TownS) (p1 : Int32) (r : (Int32 × TownS)) (hF : F_X0_tellStatement N tW uW p1 = some r) : Met l yX0_tellStatement wsX0_tellStatement ({ frames := 5, cells := 0, slots := 0, locals := 121 }) (va_Pc [.ref h0, .int p1, .ref k0] (PB (dC, dI) cI (cwL cI h0 h1 tW ++ cwT cI k0 k1 k2 k3 k4 k5 uW) sz sf)) (va_Qi (fun (z : Int32) (_ : Unit) => z = r.1) (fun _ t => QB (dC, dI) (cwL cI h0 h1 tW ++ cwT cI k0 k1 k2 k3 k4 k5 r.2) (va_A (cwL cI h0 h1 tW ++ cwT cI k0 k1 k2 k3 k4 k5 uW) sz) t) (va_A (cwL cI h0 h1 tW ++ cwT cI k0 k1 k2 k3 k4 k5 uW) sz)) 0 0 (va_A (cwL cI h0 h1 tW ++ cwT cI k0 k1 k2 k3 k4 k5 uW) sz) := by
  refine Met.ofW (cc := cX0_tellStatement) (maxL := 3) (ret := (some .boolean)) (by decide) rfl ?_
  intro p e s m args below meth c s₁ B hml hv
  obtain ⟨rfl, hsz, hP, hK, hD0, hNN, hSF⟩ := hv
  have hx := B.exec
  have hb := B.bytes
  have hr := B.returns
  have hts := atoms_spec (ws := wsX0_tellStatement) B.pre
  have hown : s.vm.findClass RX0 = some m.cls := findClass_of_methodNamed B.named
  have hlocks := B.notSynchronized
  subst hsz
  have hD := hD0.self (sz := s.heap.size)
  generalize hAe : va_A (cwL cI h0 h1 tW ++ cwT cI k0 k1 k2 k3 k4 k5 uW) s.heap.size = A at hD hSF ⊢
  have hA : ∀ q : Nat, s.heap.size ≤ q → A q := fun q h => by rw [← hAe]; exact Or.inr h
  clear hAe hD0
  have hS : va_S A s.heap s.heap [] := va_S.rf
  have hl := lv_entry ([.ref h0, .int p1, .ref k0]) (n := 3) (Nat.le_of_ble_eq_true rfl)
  rw [lg_entry_eq]
  generalize (lg_sl ([.ref h0, .int p1, .ref k0]) ++ List.replicate (3 - (lg_sl ([.ref h0, .int p1, .ref k0])).length) Slot.unset).toArray = ls at hl ⊢
  have hl : lv_has ls 3 [(0, .ref h0), (1, .int p1), (2, .ref k0)] := hl
  rw [F_X0_tellStatement] at hF
  refine lv_aload_n hx hb dX0_tellStatement_0 rfl (lv_at hl 0 rfl) ?_
  refine lv_iload_n hx hb dX0_tellStatement_1 rfl (lv_at hl 1 rfl) ?_
  have hPc := hP.sub (ws' := (cwL cI h0 h1 tW)) [0, 1] rfl
  have hDc := hD.sub (ws' := (cwL cI h0 h1 tW)) [0, 1] (by decide) rfl
  have hFc := va_free (wc := (cwL cI h0 h1 tW)) hD hS hA [0, 1] rfl
  refine bd hF (fun r2 hG hF => ?_)
  refine va_calli (va_runV (As := [.int p1]) (rest := []) ⟨hx, hb, hml, hown, hts⟩ (c_X0_sign l dC dI cI sf s.heap.size N h0 h1 tW p1 r2 hG) (cwV 1 hts gX0_tellStatement_X0_sign rfl rfl rfl (by decide +kernel) ⟨Nat.le_of_ble_eq_true rfl, Nat.le_of_ble_eq_true rfl⟩) ⟨fun a U g mk q => ⟨q.1, q.2.call⟩, va_recv hK hP (ci := 0) (q0 := 0) rfl rfl, fun U hU hW => ⟨rfl, PB.of hU hW hPc hK hDc hNN hSF hS hFc⟩⟩ rfl rfl hl.1 rfl (lv_room (Nat.le_of_ble_eq_true rfl)) dX0_tellStatement_2 ⟨Nat.le_of_ble_eq_true rfl, Nat.le_of_ble_eq_true rfl⟩) hS (fun q _ h => hFc q h) hFc (fun z_ u_ t H locs ht hvm hw hB hz1 hk1 hS => ?_)
  subst z_
  obtain ⟨hP1, hD1⟩ := hB
  rw [ht] at hP1
  have hJ := vb_join (ws' := (cwL cI h0 h1 tW ++ cwT cI k0 k1 k2 k3 k4 k5 uW)) hP hD [0, 1] [2, 3, 4, 5, 6, 7] [6, 7, 0, 1, 2, 3, 4, 5] rfl rfl (by decide) (by decide) hk1 hFc hP1 hD1 rfl (by decide) rfl
  clear hP hD hPc hDc hFc hP1 hD1 hk1 hz1 ht hvm hG
  obtain ⟨hP, hD⟩ := hJ
  by_cases hc97 : r2 = nI 97
  · have hF := ift hc97 hF
    refine lv_lookup (off := 111) (tgt := 116) hx hb dX0_tellStatement_5 (by decide) (by rw [hc97]; decide) (by decide) ?_
    refine lv_aload_n hx hb dX0_tellStatement_116 rfl (lv_at hl 0 rfl) ?_
    refine lv_iload_n hx hb dX0_tellStatement_117 rfl (lv_at hl 1 rfl) ?_
    refine lv_aload_n hx hb dX0_tellStatement_118 rfl (lv_at hl 2 rfl) ?_
    have hPc := hP.sub (ws' := (cwL cI h0 h1 tW ++ cwT cI k0 k1 k2 k3 k4 k5 uW)) [0, 1, 2, 3, 4, 5, 6, 7] rfl
    have hDc := hD.sub (ws' := (cwL cI h0 h1 tW ++ cwT cI k0 k1 k2 k3 k4 k5 uW)) [0, 1, 2, 3, 4, 5, 6, 7] (by decide) rfl
    have hFc := va_free (wc := (cwL cI h0 h1 tW ++ cwT cI k0 k1 k2 k3 k4 k5 uW)) hD hS hA [0, 1, 2, 3, 4, 5, 6, 7] rfl
    refine bd hF (fun r119 hG hF => ?_)
    refine va_calli (va_runV (As := [.int p1, .ref k0]) (rest := []) ⟨hx, hb, hml, hown, hts⟩ (c_X0_tellAll l dC dI cI sf H.size N h0 h1 k0 k1 k2 k3 k4 k5 tW uW p1 r119 hG) (cwV 2 hts gX0_tellStatement_X0_tellAll rfl rfl rfl (by decide +kernel) ⟨Nat.le_of_ble_eq_true rfl, Nat.le_of_ble_eq_true rfl⟩) ⟨fun a U g mk q => ⟨q.1, q.2.call⟩, va_recv hK hP (ci := 0) (q0 := 0) rfl rfl, fun U hU hW => ⟨rfl, PB.of hU hW hPc hK hDc hNN hSF hS hFc⟩⟩ rfl rfl hl.1 rfl (lv_room (Nat.le_of_ble_eq_true rfl)) dX0_tellStatement_119 ⟨Nat.le_of_ble_eq_true rfl, Nat.le_of_ble_eq_true rfl⟩) hS (fun q _ h => hFc q h) hFc (fun z_ u_ t H locs ht hvm hw hB hz1 hk1 hS => ?_)
    subst z_
    obtain ⟨hP1, hD1⟩ := hB
    rw [ht] at hP1
    have hJ := vb_join (ws' := (cwL cI h0 h1 tW ++ cwT cI k0 k1 k2 k3 k4 k5 r119.2)) hP hD [0, 1, 2, 3, 4, 5, 6, 7] [] [0, 1, 2, 3, 4, 5, 6, 7] rfl rfl (by decide) (by decide) hk1 hFc hP1 hD1 rfl (by decide) rfl
    clear hP hD hPc hDc hFc hP1 hD1 hk1 hz1 ht hvm hG
    obtain ⟨hP, hD⟩ := hJ
    refine ckb hF (fun hB hF => ?_)
    obtain rfl := Option.some.inj hF
    exact W.zret (v := r119.1) (ty := .boolean) hx hb hr hB.1 (fun t ht hW => ⟨⟨r119.1, (), rfl, rfl, QB.of ht hP hD⟩, hS.F ht⟩) hS.2.2 dX0_tellStatement_122
  · have hF := iff_ hc97 hF
    by_cases hc99 : r2 = nI 99
    · have hF := ift hc99 hF
      refine lv_lookup (off := 59) (tgt := 64) hx hb dX0_tellStatement_5 (by decide) (by rw [hc99]; decide) (by decide) ?_
      refine lv_aload_n hx hb dX0_tellStatement_64 rfl (lv_at hl 2 rfl) ?_
      refine lv_aload_n hx hb dX0_tellStatement_65 rfl (lv_at hl 0 rfl) ?_
      refine lv_iload_n hx hb dX0_tellStatement_66 rfl (lv_at hl 1 rfl) ?_
      refine lv_iconst (v := nI 1) hx hb dX0_tellStatement_67 (by decide) ?_
      refine lv_iadd hx hb dX0_tellStatement_68 ?_
      have hPc := hP.sub (ws' := (cwL cI h0 h1 tW)) [0, 1] rfl
      have hDc := hD.sub (ws' := (cwL cI h0 h1 tW)) [0, 1] (by decide) rfl
      have hFc := va_free (wc := (cwL cI h0 h1 tW)) hD hS hA [0, 1] rfl
      refine bd hF (fun r69 hG hF => ?_)
      refine va_calli (va_runV (As := [.int (p1 + (nI 1))]) (rest := [.ref k0]) ⟨hx, hb, hml, hown, hts⟩ (c_X0_kindAt l dC dI cI sf H.size N h0 h1 tW (p1 + (nI 1)) r69 hG) (cwV 1 hts gX0_tellStatement_X0_kindAt rfl rfl rfl (by decide +kernel) ⟨Nat.le_of_ble_eq_true rfl, Nat.le_of_ble_eq_true rfl⟩) ⟨fun a U g mk q => ⟨q.1, q.2.call⟩, va_recv hK hP (ci := 0) (q0 := 0) rfl rfl, fun U hU hW => ⟨rfl, PB.of hU hW hPc hK hDc hNN hSF hS hFc⟩⟩ rfl rfl hl.1 rfl (lv_room (Nat.le_of_ble_eq_true rfl)) dX0_tellStatement_69 ⟨Nat.le_of_ble_eq_true rfl, Nat.le_of_ble_eq_true rfl⟩) hS (fun q _ h => hFc q h) hFc (fun z_ u_ t H locs ht hvm hw hB hz1 hk1 hS => ?_)
      subst z_
      obtain ⟨hP1, hD1⟩ := hB
      rw [ht] at hP1
      have hJ := vb_join (ws' := (cwL cI h0 h1 tW ++ cwT cI k0 k1 k2 k3 k4 k5 uW)) hP hD [0, 1] [2, 3, 4, 5, 6, 7] [6, 7, 0, 1, 2, 3, 4, 5] rfl rfl (by decide) (by decide) hk1 hFc hP1 hD1 rfl (by decide) rfl
      clear hP hD hPc hDc hFc hP1 hD1 hk1 hz1 ht hvm hG
      obtain ⟨hP, hD⟩ := hJ
      refine lv_aload_n hx hb dX0_tellStatement_72 rfl (lv_at hl 0 rfl) ?_
      refine lv_iload_n hx hb dX0_tellStatement_73 rfl (lv_at hl 1 rfl) ?_
      refine lv_iconst (v := nI 2) hx hb dX0_tellStatement_74 (by decide) ?_
      refine lv_iadd hx hb dX0_tellStatement_75 ?_
      have hPc := hP.sub (ws' := (cwL cI h0 h1 tW)) [0, 1] rfl
      have hDc := hD.sub (ws' := (cwL cI h0 h1 tW)) [0, 1] (by decide) rfl
      have hFc := va_free (wc := (cwL cI h0 h1 tW)) hD hS hA [0, 1] rfl
      refine bd hF (fun r76 hG hF => ?_)
      refine va_calli (va_runV (As := [.int (p1 + (nI 2))]) (rest := [.int r69, .ref k0]) ⟨hx, hb, hml, hown, hts⟩ (c_X0_digit l dC dI cI sf H.size N h0 h1 tW (p1 + (nI 2)) r76 hG) (cwV 1 hts gX0_tellStatement_X0_digit rfl rfl rfl (by decide +kernel) ⟨Nat.le_of_ble_eq_true rfl, Nat.le_of_ble_eq_true rfl⟩) ⟨fun a U g mk q => ⟨q.1, q.2.call⟩, va_recv hK hP (ci := 0) (q0 := 0) rfl rfl, fun U hU hW => ⟨rfl, PB.of hU hW hPc hK hDc hNN hSF hS hFc⟩⟩ rfl rfl hl.1 rfl (lv_room (Nat.le_of_ble_eq_true rfl)) dX0_tellStatement_76 ⟨Nat.le_of_ble_eq_true rfl, Nat.le_of_ble_eq_true rfl⟩) hS (fun q _ h => hFc q h) hFc (fun z_ u_ t H locs ht hvm hw hB hz1 hk1 hS => ?_)
      subst z_
      obtain ⟨hP1, hD1⟩ := hB
      rw [ht] at hP1
      have hJ := vb_join (ws' := (cwL cI h0 h1 tW ++ cwT cI k0 k1 k2 k3 k4 k5 uW)) hP hD [0, 1] [2, 3, 4, 5, 6, 7] [6, 7, 0, 1, 2, 3, 4, 5] rfl rfl (by decide) (by decide) hk1 hFc hP1 hD1 rfl (by decide) rfl
      clear hP hD hPc hDc hFc hP1 hD1 hk1 hz1 ht hvm hG
      obtain ⟨hP, hD⟩ := hJ
      refine lv_aload_n hx hb dX0_tellStatement_79 rfl (lv_at hl 0 rfl) ?_
      refine lv_iload_n hx hb dX0_tellStatement_80 rfl (lv_at hl 1 rfl) ?_
      refine lv_iconst (v := nI 3) hx hb dX0_tellStatement_81 (by decide) ?_
      refine lv_iadd hx hb dX0_tellStatement_82 ?_
      have hPc := hP.sub (ws' := (cwL cI h0 h1 tW)) [0, 1] rfl
      have hDc := hD.sub (ws' := (cwL cI h0 h1 tW)) [0, 1] (by decide) rfl
      have hFc := va_free (wc := (cwL cI h0 h1 tW)) hD hS hA [0, 1] rfl
      refine bd hF (fun r83 hG hF => ?_)
      refine va_calli (va_runV (As := [.int (p1 + (nI 3))]) (rest := [.int r76, .int r69, .ref k0]) ⟨hx, hb, hml, hown, hts⟩ (c_X0_twoDigits l dC dI cI sf H.size N h0 h1 tW (p1 + (nI 3)) r83 hG) (cwV 1 hts gX0_tellStatement_X0_twoDigits rfl rfl rfl (by decide +kernel) ⟨Nat.le_of_ble_eq_true rfl, Nat.le_of_ble_eq_true rfl⟩) ⟨fun a U g mk q => ⟨q.1, q.2.call⟩, va_recv hK hP (ci := 0) (q0 := 0) rfl rfl, fun U hU hW => ⟨rfl, PB.of hU hW hPc hK hDc hNN hSF hS hFc⟩⟩ rfl rfl hl.1 rfl (lv_room (Nat.le_of_ble_eq_true rfl)) dX0_tellStatement_83 ⟨Nat.le_of_ble_eq_true rfl, Nat.le_of_ble_eq_true rfl⟩) hS (fun q _ h => hFc q h) hFc (fun z_ u_ t H locs ht hvm hw hB hz1 hk1 hS => ?_)
      subst z_
      obtain ⟨hP1, hD1⟩ := hB
      rw [ht] at hP1
      have hJ := vb_join (ws' := (cwL cI h0 h1 tW ++ cwT cI k0 k1 k2 k3 k4 k5 uW)) hP hD [0, 1] [2, 3, 4, 5, 6, 7] [6, 7, 0, 1, 2, 3, 4, 5] rfl rfl (by decide) (by decide) hk1 hFc hP1 hD1 rfl (by decide) rfl
      clear hP hD hPc hDc hFc hP1 hD1 hk1 hz1 ht hvm hG
      obtain ⟨hP, hD⟩ := hJ
      have hPc := hP.sub (ws' := (cwT cI k0 k1 k2 k3 k4 k5 uW)) [2, 3, 4, 5, 6, 7] rfl
      have hDc := hD.sub (ws' := (cwT cI k0 k1 k2 k3 k4 k5 uW)) [2, 3, 4, 5, 6, 7] (by decide) rfl
      have hFc := va_free (wc := (cwT cI k0 k1 k2 k3 k4 k5 uW)) hD hS hA [2, 3, 4, 5, 6, 7] rfl
      refine bd hF (fun r86 hG hF => ?_)
      refine va_calli (va_runVN (As := [.int r69, .int r76, .int r83]) (rest := []) ⟨hx, hb, hml, hown, hts⟩ (c_X1_settle l dC dI cI sf H.size N k0 k1 k2 k3 k4 k5 uW r69 r76 r83 r86 hG) ⟨va_cnB 3 hts gX0_tellStatement_X1_settle_n55 rfl rfl rfl (hNN.at 4 rfl) (hts (.initialized RX1) (List.mem_of_getElem? (i := 70) rfl)) (by decide +kernel) ⟨Nat.le_of_ble_eq_true rfl, Nat.le_of_ble_eq_true rfl⟩, hts (.instanceMethod yX1_settle) (List.mem_of_getElem? (i := 69) rfl), hts (.selects RX1 yX1_settle yX1_settle) (List.mem_of_getElem? (i := 71) rfl)⟩ ⟨fun a U g mk q => ⟨q.1, q.2.call⟩, va_recv hK hP (ci := 1) (q0 := 2) rfl rfl, fun U hU hW => ⟨rfl, PB.of hU hW hPc hK hDc hNN hSF hS hFc⟩⟩ rfl rfl hl.1 rfl (lv_room (Nat.le_of_ble_eq_true rfl)) dX0_tellStatement_86 ⟨Nat.le_of_ble_eq_true rfl, Nat.le_of_ble_eq_true rfl⟩) hS (fun q _ h => hFc q h) hFc (fun z_ u_ t H locs ht hvm hw hB hz1 hk1 hS => ?_)
      subst z_
      obtain ⟨hP1, hD1⟩ := hB
      rw [ht] at hP1
      have hJ := vb_join (ws' := (cwL cI h0 h1 tW ++ cwT cI k0 k1 k2 k3 k4 k5 r86.2)) hP hD [2, 3, 4, 5, 6, 7] [0, 1] [0, 1, 2, 3, 4, 5, 6, 7] rfl rfl (by decide) (by decide) hk1 hFc hP1 hD1 rfl (by decide) rfl
      clear hP hD hPc hDc hFc hP1 hD1 hk1 hz1 ht hvm hG
      obtain ⟨hP, hD⟩ := hJ
      refine ckb hF (fun hB hF => ?_)
      obtain rfl := Option.some.inj hF
      exact W.zret (v := r86.1) (ty := .boolean) hx hb hr hB.1 (fun t ht hW => ⟨⟨r86.1, (), rfl, rfl, QB.of ht hP hD⟩, hS.F ht⟩) hS.2.2 dX0_tellStatement_89
    · have hF := iff_ hc99 hF
      by_cases hc100 : r2 = nI 100
      · have hF := ift hc100 hF
        refine lv_lookup (off := 125) (tgt := 130) hx hb dX0_tellStatement_5 (by decide) (by rw [hc100]; decide) (by decide) ?_
        refine lv_aload_n hx hb dX0_tellStatement_130 rfl (lv_at hl 2 rfl) ?_
        refine lv_aload_n hx hb dX0_tellStatement_131 rfl (lv_at hl 0 rfl) ?_
        refine lv_iload_n hx hb dX0_tellStatement_132 rfl (lv_at hl 1 rfl) ?_
        refine lv_iconst (v := nI 1) hx hb dX0_tellStatement_133 (by decide) ?_
        refine lv_iadd hx hb dX0_tellStatement_134 ?_
        have hPc := hP.sub (ws' := (cwL cI h0 h1 tW)) [0, 1] rfl
        have hDc := hD.sub (ws' := (cwL cI h0 h1 tW)) [0, 1] (by decide) rfl
        have hFc := va_free (wc := (cwL cI h0 h1 tW)) hD hS hA [0, 1] rfl
        refine bd hF (fun r135 hG hF => ?_)
        refine va_calli (va_runV (As := [.int (p1 + (nI 1))]) (rest := [.ref k0]) ⟨hx, hb, hml, hown, hts⟩ (c_X0_digit l dC dI cI sf H.size N h0 h1 tW (p1 + (nI 1)) r135 hG) (cwV 1 hts gX0_tellStatement_X0_digit rfl rfl rfl (by decide +kernel) ⟨Nat.le_of_ble_eq_true rfl, Nat.le_of_ble_eq_true rfl⟩) ⟨fun a U g mk q => ⟨q.1, q.2.call⟩, va_recv hK hP (ci := 0) (q0 := 0) rfl rfl, fun U hU hW => ⟨rfl, PB.of hU hW hPc hK hDc hNN hSF hS hFc⟩⟩ rfl rfl hl.1 rfl (lv_room (Nat.le_of_ble_eq_true rfl)) dX0_tellStatement_135 ⟨Nat.le_of_ble_eq_true rfl, Nat.le_of_ble_eq_true rfl⟩) hS (fun q _ h => hFc q h) hFc (fun z_ u_ t H locs ht hvm hw hB hz1 hk1 hS => ?_)
        subst z_
        obtain ⟨hP1, hD1⟩ := hB
        rw [ht] at hP1
        have hJ := vb_join (ws' := (cwL cI h0 h1 tW ++ cwT cI k0 k1 k2 k3 k4 k5 uW)) hP hD [0, 1] [2, 3, 4, 5, 6, 7] [6, 7, 0, 1, 2, 3, 4, 5] rfl rfl (by decide) (by decide) hk1 hFc hP1 hD1 rfl (by decide) rfl
        clear hP hD hPc hDc hFc hP1 hD1 hk1 hz1 ht hvm hG
        obtain ⟨hP, hD⟩ := hJ
        have hPc := hP.sub (ws' := (cwT cI k0 k1 k2 k3 k4 k5 uW)) [2, 3, 4, 5, 6, 7] rfl
        have hDc := hD.sub (ws' := (cwT cI k0 k1 k2 k3 k4 k5 uW)) [2, 3, 4, 5, 6, 7] (by decide) rfl
        have hFc := va_free (wc := (cwT cI k0 k1 k2 k3 k4 k5 uW)) hD hS hA [2, 3, 4, 5, 6, 7] rfl
        refine bd hF (fun r138 hG hF => ?_)
        refine va_calli (va_runVN (As := [.int r135]) (rest := []) ⟨hx, hb, hml, hown, hts⟩ (c_X1_bury l dC dI cI sf H.size N k0 k1 k2 k3 k4 k5 uW r135 r138 hG) ⟨va_cnB 1 hts gX0_tellStatement_X1_bury_n71 rfl rfl rfl (hNN.at 7 rfl) (hts (.initialized RX1) (List.mem_of_getElem? (i := 70) rfl)) (by decide +kernel) ⟨Nat.le_of_ble_eq_true rfl, Nat.le_of_ble_eq_true rfl⟩, hts (.instanceMethod yX1_bury) (List.mem_of_getElem? (i := 106) rfl), hts (.selects RX1 yX1_bury yX1_bury) (List.mem_of_getElem? (i := 107) rfl)⟩ ⟨fun a U g mk q => ⟨q.1, q.2.call⟩, va_recv hK hP (ci := 1) (q0 := 2) rfl rfl, fun U hU hW => ⟨rfl, PB.of hU hW hPc hK hDc hNN hSF hS hFc⟩⟩ rfl rfl hl.1 rfl (lv_room (Nat.le_of_ble_eq_true rfl)) dX0_tellStatement_138 ⟨Nat.le_of_ble_eq_true rfl, Nat.le_of_ble_eq_true rfl⟩) hS (fun q _ h => hFc q h) hFc (fun z_ u_ t H locs ht hvm hw hB hz1 hk1 hS => ?_)
        subst z_
        obtain ⟨hP1, hD1⟩ := hB
        rw [ht] at hP1
        have hJ := vb_join (ws' := (cwL cI h0 h1 tW ++ cwT cI k0 k1 k2 k3 k4 k5 r138.2)) hP hD [2, 3, 4, 5, 6, 7] [0, 1] [0, 1, 2, 3, 4, 5, 6, 7] rfl rfl (by decide) (by decide) hk1 hFc hP1 hD1 rfl (by decide) rfl
        clear hP hD hPc hDc hFc hP1 hD1 hk1 hz1 ht hvm hG
        obtain ⟨hP, hD⟩ := hJ
        refine ckb hF (fun hB hF => ?_)
        obtain rfl := Option.some.inj hF
        exact W.zret (v := r138.1) (ty := .boolean) hx hb hr hB.1 (fun t ht hW => ⟨⟨r138.1, (), rfl, rfl, QB.of ht hP hD⟩, hS.F ht⟩) hS.2.2 dX0_tellStatement_141
      · have hF := iff_ hc100 hF
        by_cases hc113 : r2 = nI 113
        · have hF := ift hc113 hF
          refine lv_lookup (off := 118) (tgt := 123) hx hb dX0_tellStatement_5 (by decide) (by rw [hc113]; decide) (by decide) ?_
          refine lv_aload_n hx hb dX0_tellStatement_123 rfl (lv_at hl 0 rfl) ?_
          refine lv_iload_n hx hb dX0_tellStatement_124 rfl (lv_at hl 1 rfl) ?_
          refine lv_aload_n hx hb dX0_tellStatement_125 rfl (lv_at hl 2 rfl) ?_
          have hPc := hP.sub (ws' := (cwL cI h0 h1 tW ++ cwT cI k0 k1 k2 k3 k4 k5 uW)) [0, 1, 2, 3, 4, 5, 6, 7] rfl
          have hDc := hD.sub (ws' := (cwL cI h0 h1 tW ++ cwT cI k0 k1 k2 k3 k4 k5 uW)) [0, 1, 2, 3, 4, 5, 6, 7] (by decide) rfl
          have hFc := va_free (wc := (cwL cI h0 h1 tW ++ cwT cI k0 k1 k2 k3 k4 k5 uW)) hD hS hA [0, 1, 2, 3, 4, 5, 6, 7] rfl
          refine bd hF (fun r126 hG hF => ?_)
          refine va_calli (va_runV (As := [.int p1, .ref k0]) (rest := []) ⟨hx, hb, hml, hown, hts⟩ (c_X0_tellQuarrel l dC dI cI sf H.size N h0 h1 k0 k1 k2 k3 k4 k5 tW uW p1 r126 hG) (cwV 2 hts gX0_tellStatement_X0_tellQuarrel rfl rfl rfl (by decide +kernel) ⟨Nat.le_of_ble_eq_true rfl, Nat.le_of_ble_eq_true rfl⟩) ⟨fun a U g mk q => ⟨q.1, q.2.call⟩, va_recv hK hP (ci := 0) (q0 := 0) rfl rfl, fun U hU hW => ⟨rfl, PB.of hU hW hPc hK hDc hNN hSF hS hFc⟩⟩ rfl rfl hl.1 rfl (lv_room (Nat.le_of_ble_eq_true rfl)) dX0_tellStatement_126 ⟨Nat.le_of_ble_eq_true rfl, Nat.le_of_ble_eq_true rfl⟩) hS (fun q _ h => hFc q h) hFc (fun z_ u_ t H locs ht hvm hw hB hz1 hk1 hS => ?_)
          subst z_
          obtain ⟨hP1, hD1⟩ := hB
          rw [ht] at hP1
          have hJ := vb_join (ws' := (cwL cI h0 h1 tW ++ cwT cI k0 k1 k2 k3 k4 k5 r126.2)) hP hD [0, 1, 2, 3, 4, 5, 6, 7] [] [0, 1, 2, 3, 4, 5, 6, 7] rfl rfl (by decide) (by decide) hk1 hFc hP1 hD1 rfl (by decide) rfl
          clear hP hD hPc hDc hFc hP1 hD1 hk1 hz1 ht hvm hG
          obtain ⟨hP, hD⟩ := hJ
          refine ckb hF (fun hB hF => ?_)
          obtain rfl := Option.some.inj hF
          exact W.zret (v := r126.1) (ty := .boolean) hx hb hr hB.1 (fun t ht hW => ⟨⟨r126.1, (), rfl, rfl, QB.of ht hP hD⟩, hS.F ht⟩) hS.2.2 dX0_tellStatement_129
        · have hF := iff_ hc113 hF
          by_cases hc119 : r2 = nI 119
          · have hF := ift hc119 hF
            refine lv_lookup (off := 85) (tgt := 90) hx hb dX0_tellStatement_5 (by decide) (by rw [hc119]; decide) (by decide) ?_
            refine lv_aload_n hx hb dX0_tellStatement_90 rfl (lv_at hl 2 rfl) ?_
            refine lv_aload_n hx hb dX0_tellStatement_91 rfl (lv_at hl 0 rfl) ?_
            refine lv_iload_n hx hb dX0_tellStatement_92 rfl (lv_at hl 1 rfl) ?_
            refine lv_iconst (v := nI 1) hx hb dX0_tellStatement_93 (by decide) ?_
            refine lv_iadd hx hb dX0_tellStatement_94 ?_
            have hPc := hP.sub (ws' := (cwL cI h0 h1 tW)) [0, 1] rfl
            have hDc := hD.sub (ws' := (cwL cI h0 h1 tW)) [0, 1] (by decide) rfl
            have hFc := va_free (wc := (cwL cI h0 h1 tW)) hD hS hA [0, 1] rfl
            refine bd hF (fun r95 hG hF => ?_)
            refine va_calli (va_runV (As := [.int (p1 + (nI 1))]) (rest := [.ref k0]) ⟨hx, hb, hml, hown, hts⟩ (c_X0_digit l dC dI cI sf H.size N h0 h1 tW (p1 + (nI 1)) r95 hG) (cwV 1 hts gX0_tellStatement_X0_digit rfl rfl rfl (by decide +kernel) ⟨Nat.le_of_ble_eq_true rfl, Nat.le_of_ble_eq_true rfl⟩) ⟨fun a U g mk q => ⟨q.1, q.2.call⟩, va_recv hK hP (ci := 0) (q0 := 0) rfl rfl, fun U hU hW => ⟨rfl, PB.of hU hW hPc hK hDc hNN hSF hS hFc⟩⟩ rfl rfl hl.1 rfl (lv_room (Nat.le_of_ble_eq_true rfl)) dX0_tellStatement_95 ⟨Nat.le_of_ble_eq_true rfl, Nat.le_of_ble_eq_true rfl⟩) hS (fun q _ h => hFc q h) hFc (fun z_ u_ t H locs ht hvm hw hB hz1 hk1 hS => ?_)
            subst z_
            obtain ⟨hP1, hD1⟩ := hB
            rw [ht] at hP1
            have hJ := vb_join (ws' := (cwL cI h0 h1 tW ++ cwT cI k0 k1 k2 k3 k4 k5 uW)) hP hD [0, 1] [2, 3, 4, 5, 6, 7] [6, 7, 0, 1, 2, 3, 4, 5] rfl rfl (by decide) (by decide) hk1 hFc hP1 hD1 rfl (by decide) rfl
            clear hP hD hPc hDc hFc hP1 hD1 hk1 hz1 ht hvm hG
            obtain ⟨hP, hD⟩ := hJ
            refine lv_aload_n hx hb dX0_tellStatement_98 rfl (lv_at hl 0 rfl) ?_
            refine lv_iload_n hx hb dX0_tellStatement_99 rfl (lv_at hl 1 rfl) ?_
            refine lv_iconst (v := nI 2) hx hb dX0_tellStatement_100 (by decide) ?_
            refine lv_iadd hx hb dX0_tellStatement_101 ?_
            have hPc := hP.sub (ws' := (cwL cI h0 h1 tW)) [0, 1] rfl
            have hDc := hD.sub (ws' := (cwL cI h0 h1 tW)) [0, 1] (by decide) rfl
            have hFc := va_free (wc := (cwL cI h0 h1 tW)) hD hS hA [0, 1] rfl
            refine bd hF (fun r102 hG hF => ?_)
            refine va_calli (va_runV (As := [.int (p1 + (nI 2))]) (rest := [.int r95, .ref k0]) ⟨hx, hb, hml, hown, hts⟩ (c_X0_digit l dC dI cI sf H.size N h0 h1 tW (p1 + (nI 2)) r102 hG) (cwV 1 hts gX0_tellStatement_X0_digit rfl rfl rfl (by decide +kernel) ⟨Nat.le_of_ble_eq_true rfl, Nat.le_of_ble_eq_true rfl⟩) ⟨fun a U g mk q => ⟨q.1, q.2.call⟩, va_recv hK hP (ci := 0) (q0 := 0) rfl rfl, fun U hU hW => ⟨rfl, PB.of hU hW hPc hK hDc hNN hSF hS hFc⟩⟩ rfl rfl hl.1 rfl (lv_room (Nat.le_of_ble_eq_true rfl)) dX0_tellStatement_102 ⟨Nat.le_of_ble_eq_true rfl, Nat.le_of_ble_eq_true rfl⟩) hS (fun q _ h => hFc q h) hFc (fun z_ u_ t H locs ht hvm hw hB hz1 hk1 hS => ?_)
            subst z_
            obtain ⟨hP1, hD1⟩ := hB
            rw [ht] at hP1
            have hJ := vb_join (ws' := (cwL cI h0 h1 tW ++ cwT cI k0 k1 k2 k3 k4 k5 uW)) hP hD [0, 1] [2, 3, 4, 5, 6, 7] [6, 7, 0, 1, 2, 3, 4, 5] rfl rfl (by decide) (by decide) hk1 hFc hP1 hD1 rfl (by decide) rfl
            clear hP hD hPc hDc hFc hP1 hD1 hk1 hz1 ht hvm hG
            obtain ⟨hP, hD⟩ := hJ
            refine lv_aload_n hx hb dX0_tellStatement_105 rfl (lv_at hl 0 rfl) ?_
            refine lv_iload_n hx hb dX0_tellStatement_106 rfl (lv_at hl 1 rfl) ?_
            refine lv_iconst (v := nI 3) hx hb dX0_tellStatement_107 (by decide) ?_
            refine lv_iadd hx hb dX0_tellStatement_108 ?_
            have hPc := hP.sub (ws' := (cwL cI h0 h1 tW)) [0, 1] rfl
            have hDc := hD.sub (ws' := (cwL cI h0 h1 tW)) [0, 1] (by decide) rfl
            have hFc := va_free (wc := (cwL cI h0 h1 tW)) hD hS hA [0, 1] rfl
            refine bd hF (fun r109 hG hF => ?_)
            refine va_calli (va_runV (As := [.int (p1 + (nI 3))]) (rest := [.int r102, .int r95, .ref k0]) ⟨hx, hb, hml, hown, hts⟩ (c_X0_digit l dC dI cI sf H.size N h0 h1 tW (p1 + (nI 3)) r109 hG) (cwV 1 hts gX0_tellStatement_X0_digit rfl rfl rfl (by decide +kernel) ⟨Nat.le_of_ble_eq_true rfl, Nat.le_of_ble_eq_true rfl⟩) ⟨fun a U g mk q => ⟨q.1, q.2.call⟩, va_recv hK hP (ci := 0) (q0 := 0) rfl rfl, fun U hU hW => ⟨rfl, PB.of hU hW hPc hK hDc hNN hSF hS hFc⟩⟩ rfl rfl hl.1 rfl (lv_room (Nat.le_of_ble_eq_true rfl)) dX0_tellStatement_109 ⟨Nat.le_of_ble_eq_true rfl, Nat.le_of_ble_eq_true rfl⟩) hS (fun q _ h => hFc q h) hFc (fun z_ u_ t H locs ht hvm hw hB hz1 hk1 hS => ?_)
            subst z_
            obtain ⟨hP1, hD1⟩ := hB
            rw [ht] at hP1
            have hJ := vb_join (ws' := (cwL cI h0 h1 tW ++ cwT cI k0 k1 k2 k3 k4 k5 uW)) hP hD [0, 1] [2, 3, 4, 5, 6, 7] [6, 7, 0, 1, 2, 3, 4, 5] rfl rfl (by decide) (by decide) hk1 hFc hP1 hD1 rfl (by decide) rfl
            clear hP hD hPc hDc hFc hP1 hD1 hk1 hz1 ht hvm hG
            obtain ⟨hP, hD⟩ := hJ
            have hPc := hP.sub (ws' := (cwT cI k0 k1 k2 k3 k4 k5 uW)) [2, 3, 4, 5, 6, 7] rfl
            have hDc := hD.sub (ws' := (cwT cI k0 k1 k2 k3 k4 k5 uW)) [2, 3, 4, 5, 6, 7] (by decide) rfl
            have hFc := va_free (wc := (cwT cI k0 k1 k2 k3 k4 k5 uW)) hD hS hA [2, 3, 4, 5, 6, 7] rfl
            refine bd hF (fun r112 hG hF => ?_)
            refine va_calli (va_runVN (As := [.int r95, .int r102, .int r109]) (rest := []) ⟨hx, hb, hml, hown, hts⟩ (c_X1_hear l dC dI cI sf H.size N k0 k1 k2 k3 k4 k5 uW r95 r102 r109 r112 hG) ⟨va_cnB 3 hts gX0_tellStatement_X1_hear_n61 rfl rfl rfl (hNN.at 5 rfl) (hts (.initialized RX1) (List.mem_of_getElem? (i := 70) rfl)) (by decide +kernel) ⟨Nat.le_of_ble_eq_true rfl, Nat.le_of_ble_eq_true rfl⟩, hts (.instanceMethod yX1_hear) (List.mem_of_getElem? (i := 78) rfl), hts (.selects RX1 yX1_hear yX1_hear) (List.mem_of_getElem? (i := 79) rfl)⟩ ⟨fun a U g mk q => ⟨q.1, q.2.call⟩, va_recv hK hP (ci := 1) (q0 := 2) rfl rfl, fun U hU hW => ⟨rfl, PB.of hU hW hPc hK hDc hNN hSF hS hFc⟩⟩ rfl rfl hl.1 rfl (lv_room (Nat.le_of_ble_eq_true rfl)) dX0_tellStatement_112 ⟨Nat.le_of_ble_eq_true rfl, Nat.le_of_ble_eq_true rfl⟩) hS (fun q _ h => hFc q h) hFc (fun z_ u_ t H locs ht hvm hw hB hz1 hk1 hS => ?_)
            subst z_
            obtain ⟨hP1, hD1⟩ := hB
            rw [ht] at hP1
            have hJ := vb_join (ws' := (cwL cI h0 h1 tW ++ cwT cI k0 k1 k2 k3 k4 k5 r112.2)) hP hD [2, 3, 4, 5, 6, 7] [0, 1] [0, 1, 2, 3, 4, 5, 6, 7] rfl rfl (by decide) (by decide) hk1 hFc hP1 hD1 rfl (by decide) rfl
            clear hP hD hPc hDc hFc hP1 hD1 hk1 hz1 ht hvm hG
            obtain ⟨hP, hD⟩ := hJ
            refine ckb hF (fun hB hF => ?_)
            obtain rfl := Option.some.inj hF
            exact W.zret (v := r112.1) (ty := .boolean) hx hb hr hB.1 (fun t ht hW => ⟨⟨r112.1, (), rfl, rfl, QB.of ht hP hD⟩, hS.F ht⟩) hS.2.2 dX0_tellStatement_115
          · have hF := iff_ hc119 hF
            by_cases hc121 : r2 = nI 121
            · have hF := ift hc121 hF
              refine lv_lookup (off := 137) (tgt := 142) hx hb dX0_tellStatement_5 (by decide) (by rw [hc121]; decide) (by decide) ?_
              refine lv_aload_n hx hb dX0_tellStatement_142 rfl (lv_at hl 2 rfl) ?_
              refine lv_aload_n hx hb dX0_tellStatement_143 rfl (lv_at hl 0 rfl) ?_
              refine lv_iload_n hx hb dX0_tellStatement_144 rfl (lv_at hl 1 rfl) ?_
              refine lv_iconst (v := nI 1) hx hb dX0_tellStatement_145 (by decide) ?_
              refine lv_iadd hx hb dX0_tellStatement_146 ?_
              have hPc := hP.sub (ws' := (cwL cI h0 h1 tW)) [0, 1] rfl
              have hDc := hD.sub (ws' := (cwL cI h0 h1 tW)) [0, 1] (by decide) rfl
              have hFc := va_free (wc := (cwL cI h0 h1 tW)) hD hS hA [0, 1] rfl
              refine bd hF (fun r147 hG hF => ?_)
              refine va_calli (va_runV (As := [.int (p1 + (nI 1))]) (rest := [.ref k0]) ⟨hx, hb, hml, hown, hts⟩ (c_X0_twoDigits l dC dI cI sf H.size N h0 h1 tW (p1 + (nI 1)) r147 hG) (cwV 1 hts gX0_tellStatement_X0_twoDigits rfl rfl rfl (by decide +kernel) ⟨Nat.le_of_ble_eq_true rfl, Nat.le_of_ble_eq_true rfl⟩) ⟨fun a U g mk q => ⟨q.1, q.2.call⟩, va_recv hK hP (ci := 0) (q0 := 0) rfl rfl, fun U hU hW => ⟨rfl, PB.of hU hW hPc hK hDc hNN hSF hS hFc⟩⟩ rfl rfl hl.1 rfl (lv_room (Nat.le_of_ble_eq_true rfl)) dX0_tellStatement_147 ⟨Nat.le_of_ble_eq_true rfl, Nat.le_of_ble_eq_true rfl⟩) hS (fun q _ h => hFc q h) hFc (fun z_ u_ t H locs ht hvm hw hB hz1 hk1 hS => ?_)
              subst z_
              obtain ⟨hP1, hD1⟩ := hB
              rw [ht] at hP1
              have hJ := vb_join (ws' := (cwL cI h0 h1 tW ++ cwT cI k0 k1 k2 k3 k4 k5 uW)) hP hD [0, 1] [2, 3, 4, 5, 6, 7] [6, 7, 0, 1, 2, 3, 4, 5] rfl rfl (by decide) (by decide) hk1 hFc hP1 hD1 rfl (by decide) rfl
              clear hP hD hPc hDc hFc hP1 hD1 hk1 hz1 ht hvm hG
              obtain ⟨hP, hD⟩ := hJ
              have hPc := hP.sub (ws' := (cwT cI k0 k1 k2 k3 k4 k5 uW)) [2, 3, 4, 5, 6, 7] rfl
              have hDc := hD.sub (ws' := (cwT cI k0 k1 k2 k3 k4 k5 uW)) [2, 3, 4, 5, 6, 7] (by decide) rfl
              have hFc := va_free (wc := (cwT cI k0 k1 k2 k3 k4 k5 uW)) hD hS hA [2, 3, 4, 5, 6, 7] rfl
              refine bd hF (fun r150 hG hF => ?_)
              refine va_calli (va_runVN (As := [.int r147]) (rest := []) ⟨hx, hb, hml, hown, hts⟩ (c_X1_spend l dC dI cI sf H.size N k0 k1 k2 k3 k4 k5 uW r147 r150 hG) ⟨va_cnB 1 hts gX0_tellStatement_X1_spend_n74 rfl rfl rfl (hNN.at 8 rfl) (hts (.initialized RX1) (List.mem_of_getElem? (i := 70) rfl)) (by decide +kernel) ⟨Nat.le_of_ble_eq_true rfl, Nat.le_of_ble_eq_true rfl⟩, hts (.instanceMethod yX1_spend) (List.mem_of_getElem? (i := 109) rfl), hts (.selects RX1 yX1_spend yX1_spend) (List.mem_of_getElem? (i := 110) rfl)⟩ ⟨fun a U g mk q => ⟨q.1, q.2.call⟩, va_recv hK hP (ci := 1) (q0 := 2) rfl rfl, fun U hU hW => ⟨rfl, PB.of hU hW hPc hK hDc hNN hSF hS hFc⟩⟩ rfl rfl hl.1 rfl (lv_room (Nat.le_of_ble_eq_true rfl)) dX0_tellStatement_150 ⟨Nat.le_of_ble_eq_true rfl, Nat.le_of_ble_eq_true rfl⟩) hS (fun q _ h => hFc q h) hFc (fun z_ u_ t H locs ht hvm hw hB hz1 hk1 hS => ?_)
              subst z_
              obtain ⟨hP1, hD1⟩ := hB
              rw [ht] at hP1
              have hJ := vb_join (ws' := (cwL cI h0 h1 tW ++ cwT cI k0 k1 k2 k3 k4 k5 r150.2)) hP hD [2, 3, 4, 5, 6, 7] [0, 1] [0, 1, 2, 3, 4, 5, 6, 7] rfl rfl (by decide) (by decide) hk1 hFc hP1 hD1 rfl (by decide) rfl
              clear hP hD hPc hDc hFc hP1 hD1 hk1 hz1 ht hvm hG
              obtain ⟨hP, hD⟩ := hJ
              refine ckb hF (fun hB hF => ?_)
              obtain rfl := Option.some.inj hF
              exact W.zret (v := r150.1) (ty := .boolean) hx hb hr hB.1 (fun t ht hW => ⟨⟨r150.1, (), rfl, rfl, QB.of ht hP hD⟩, hS.F ht⟩) hS.2.2 dX0_tellStatement_153
            · have hF := iff_ hc121 hF
              refine lv_lookup (off := 149) (tgt := 154) hx hb dX0_tellStatement_5 (by decide) (by simp only [Op.lookupswitch.offset_cons, Op.lookupswitch.offset_nil]; rw [if_neg (show ¬ (97 : Int) = _ from sw_ne (k := 97) (by decide) hc97), if_neg (show ¬ (99 : Int) = _ from sw_ne (k := 99) (by decide) hc99), if_neg (show ¬ (100 : Int) = _ from sw_ne (k := 100) (by decide) hc100), if_neg (show ¬ (113 : Int) = _ from sw_ne (k := 113) (by decide) hc113), if_neg (show ¬ (119 : Int) = _ from sw_ne (k := 119) (by decide) hc119), if_neg (show ¬ (121 : Int) = _ from sw_ne (k := 121) (by decide) hc121)]) (by decide) ?_
              refine lv_iconst (v := nI 0) hx hb dX0_tellStatement_154 (by decide) ?_
              obtain rfl := Option.some.inj hF
              exact W.zret (v := (nI 0)) (ty := .boolean) hx hb hr (by decide +kernel) (fun t ht hW => ⟨⟨(nI 0), (), rfl, rfl, QB.of ht hP hD⟩, hS.F ht⟩) hS.2.2 dX0_tellStatement_155
