set_option maxHeartbeats 4000000 in
set_option maxRecDepth 100000 in
theorem c_X3_partOf (l : Launch) (dC : Nat → ClassId) (dI : Nat → Nat → Nat) (cI : ClassId) (sf : SFP) (sz : Nat) (N : Nat) (p0 : Int64) (p2 : Int64) (p4 : Int32) (r : Int64) (hF : F_X3_partOf N p0 p2 p4 = some r) : Met l yX3_partOf wsX3_partOf ({ frames := 1, cells := 0, slots := 0, locals := 29 }) (va_Pc [.long p0, .long p2, .int p4] (PB (dC, dI) cI ([] : va_W) sz sf)) (va_Ql (fun (z : Int64) (_ : Unit) => z = r) (fun _ t => QB (dC, dI) ([] : va_W) (va_A ([] : va_W) sz) t) (va_A ([] : va_W) sz)) 0 0 (va_A ([] : va_W) sz) := by
  refine Met.ofW (cc := cX3_partOf) (maxL := 5) (ret := (some .long)) (by decide) rfl ?_
  intro p e s m args below meth c s₁ B hml hv
  obtain ⟨rfl, hsz, hP, hK, hD0, hNN, hSF⟩ := hv
  have hx := B.exec
  have hb := B.bytes
  have hr := B.returns
  have hts := atoms_spec (ws := wsX3_partOf) B.pre
  have hown : s.vm.findClass RX3 = some m.cls := findClass_of_methodNamed B.named
  have hlocks := B.notSynchronized
  subst hsz
  have hD := hD0.self (sz := s.heap.size)
  generalize hAe : va_A ([] : va_W) s.heap.size = A at hD hSF ⊢
  have hA : ∀ q : Nat, s.heap.size ≤ q → A q := fun q h => by rw [← hAe]; exact Or.inr h
  clear hAe hD0
  have hS : va_S A s.heap s.heap [] := va_S.rf
  have hl := lv_entry ([.long p0, .long p2, .int p4]) (n := 5) (Nat.le_of_ble_eq_true rfl)
  rw [lg_entry_eq]
  generalize (lg_sl ([.long p0, .long p2, .int p4]) ++ List.replicate (5 - (lg_sl ([.long p0, .long p2, .int p4])).length) Slot.unset).toArray = ls at hl ⊢
  have hl : lv_has ls 5 [(0, .long p0), (2, .long p2), (4, .int p4)] := hl
  rw [F_X3_partOf] at hF
  refine lv_lload_n hx hb dX3_partOf_0 rfl (lv_at hl 0 rfl) ?_
  refine lv_lconst (v := lN 0) hx hb dX3_partOf_1 rfl ?_
  refine W.lcmp hx hb dX3_partOf_2 ?_
  refine lv_if_ne (tgt := 10) hx hb dX3_partOf_3 (by decide) (fun hc => ?_) (fun hc => ?_)
  · have hF := ift hc hF
    refine lv_iload hx hb dX3_partOf_10 (lv_at hl 2 rfl) ?_
    refine vW_have (fun R av Q => ∀ (x0 : Int64) (x2 : Int64) (z0 : Int64) (H : Heap) (locs : List Loc) (ls : Array Slot), F_X3_partOf_20 N x0 x2 z0 = some r → va_P (dC, dI) vwCl ([] : va_W) H → va_D A ([] : va_W) → va_S A s.heap H locs → lv_has ls 5 [(0, .long x0), (2, .long x2)] → W p l e R s m av below meth c H locs 0 0 Q (F0 m 20 ls [.long z0])) ?_ (fun kJ20 => ?_)
    · 
      intro x0 x2 z0 H locs ls hF hP hD hS hl
      rw [F_X3_partOf_20] at hF
      refine lv_lload_n hx hb dX3_partOf_20 rfl (lv_at hl 0 rfl) ?_
      refine lv_lload_n hx hb dX3_partOf_21 rfl (lv_at hl 1 rfl) ?_
      have hPc := hP.sub (ws' := ([] : va_W)) [] rfl
      have hDc := hD.sub (ws' := ([] : va_W)) [] (by decide) rfl
      have hFc := va_free (wc := ([] : va_W)) hD hS hA [] rfl
      refine bd hF (fun r22 hG hF => ?_)
      refine va_calll (va_runS (As := [.long x0, .long x2]) (rest := [.long z0]) ⟨hx, hb, hml, hown, hts⟩ (c_X3_gcd l dC dI cI sf H.size N  x0 x2 r22 hG) (va_cwS 2 hts gX3_partOf_X3_gcd rfl rfl rfl (by decide +kernel) ⟨Nat.le_of_ble_eq_true rfl, Nat.le_of_ble_eq_true rfl⟩) ⟨fun a U g mk q => ⟨q.1, q.2.call⟩, fun U hU hW => ⟨rfl, PB.of hU hW hPc hK hDc hNN hSF hS hFc⟩⟩ rfl rfl hl.1 rfl (lv_room (Nat.le_of_ble_eq_true rfl)) dX3_partOf_22 ⟨Nat.le_of_ble_eq_true rfl, Nat.le_of_ble_eq_true rfl⟩) hS (fun q _ h => hFc q h) hFc (fun z_ u_ t H locs ht hvm hw hB hz1 hk1 hS => ?_)
      subst z_
      obtain ⟨hP1, hD1⟩ := hB
      rw [ht] at hP1
      have hJ := vb_join (ws' := ([] : va_W)) hP hD [] [] [] rfl rfl (by decide) (by decide) hk1 hFc hP1 hD1 rfl (by decide) rfl
      clear hP hD hPc hDc hFc hP1 hD1 hk1 hz1 ht hvm hG
      obtain ⟨hP, hD⟩ := hJ
      refine ckl hF (fun hz hF => ?_)
      refine lv_ldiv hx hb dX3_partOf_25 hz ?_
      obtain rfl := Option.some.inj hF
      exact W.lret (v := (z0 / r22)) hx hb hr (fun t ht hW => ⟨⟨(z0 / r22), (), rfl, rfl, QB.of ht hP hD⟩, hS.F ht⟩) hS.2.2 dX3_partOf_26
    refine lv_if_ne (tgt := 19) hx hb dX3_partOf_12 (by decide) (fun hc => ?_) (fun hc => ?_)
    · have hF := ift hc hF
      refine lv_lload_n hx hb dX3_partOf_19 rfl (lv_at hl 1 rfl) ?_
      exact kJ20 p0 p2 p2 _ _ _ hF hP hD hS (lv_sub hl [0, 1] rfl)
    · have hF := iff_ (fun h => h hc) hF
      refine lv_lload_n hx hb dX3_partOf_15 rfl (lv_at hl 0 rfl) ?_
      refine lv_goto (tgt := 20) hx hb dX3_partOf_16 (by decide) ?_
      exact kJ20 p0 p2 p0 _ _ _ hF hP hD hS (lv_sub hl [0, 1] rfl)
  · have hF := iff_ (fun h => h hc) hF
    refine lv_iload hx hb dX3_partOf_6 (lv_at hl 2 rfl) ?_
    refine lv_i2l (v := p4.toInt64) hx hb dX3_partOf_8 rfl ?_
    obtain rfl := Option.some.inj hF
    exact W.lret (v := p4.toInt64) hx hb hr (fun t ht hW => ⟨⟨p4.toInt64, (), rfl, rfl, QB.of ht hP hD⟩, hS.F ht⟩) hS.2.2 dX3_partOf_9
theorem inw_X3_noWide_X3 : ∀ w ∈ u_ws RX3 TX3 15, w ∈ wsX3_noWide := fun _ h => List.mem_cons_of_mem _ (List.mem_append_right _ h)
set_option maxHeartbeats 4000000 in
set_option maxRecDepth 100000 in
theorem c_X3_noWide (l : Launch) (dC : Nat → ClassId) (dI : Nat → Nat → Nat) (cI : ClassId) (sf : SFP) (sz : Nat) (N : Nat) (b : Nat → Nat) (tW : MS) (p1 : Int32) (r : (Int64 × MS)) (hF : F_X3_noWide N tW p1 = some r) : Met l yX3_noWide wsX3_noWide ({ frames := 1, cells := 0, slots := 0, locals := 21 }) (va_Pc [.ref (b 0), .int p1] (PB (dC, dI) cI (cwM cI b tW) sz sf)) (va_Ql (fun (z : Int64) (_ : Unit) => z = r.1) (fun _ t => QB (dC, dI) (cwM cI b r.2) (va_A (cwM cI b tW) sz) t) (va_A (cwM cI b tW) sz)) 0 0 (va_A (cwM cI b tW) sz) := by
  refine Met.ofW (cc := cX3_noWide) (maxL := 2) (ret := (some .long)) (by decide) rfl ?_
  intro p e s m args below meth c s₁ B hml hv
  obtain ⟨rfl, hsz, hP, hK, hD0, hNN, hSF⟩ := hv
  have hx := B.exec
  have hb := B.bytes
  have hr := B.returns
  have hts := atoms_spec (ws := wsX3_noWide) B.pre
  have hown : s.vm.findClass RX3 = some m.cls := findClass_of_methodNamed B.named
  have hlocks := B.notSynchronized
  subst hsz
  have hD := hD0.self (sz := s.heap.size)
  generalize hAe : va_A (cwM cI b tW) s.heap.size = A at hD hSF ⊢
  have hA : ∀ q : Nat, s.heap.size ≤ q → A q := fun q h => by rw [← hAe]; exact Or.inr h
  clear hAe hD0
  have hS : va_S A s.heap s.heap [] := va_S.rf
  have hl := lv_entry ([.ref (b 0), .int p1]) (n := 2) (Nat.le_of_ble_eq_true rfl)
  rw [lg_entry_eq]
  generalize (lg_sl ([.ref (b 0), .int p1]) ++ List.replicate (2 - (lg_sl ([.ref (b 0), .int p1])).length) Slot.unset).toArray = ls at hl ⊢
  have hl : lv_has ls 2 [(0, .ref (b 0)), (1, .int p1)] := hl
  rw [F_X3_noWide] at hF
  refine lv_ldc2 (v := lN 4000000000000000000) hx hb hown (hts (.constantLong RX3 37 (4000000000000000000)) (List.mem_of_getElem? (i := 1) rfl)) dX3_noWide_0 ?_
  refine lv_aload_n hx hb dX3_noWide_3 rfl (lv_at hl 0 rfl) ?_
  refine lv_iload_n hx hb dX3_noWide_4 rfl (lv_at hl 1 rfl) ?_
  have hPc := hP.sub (ws' := (cwM cI b tW)) [0, 1, 2, 3, 4, 5, 6, 7, 8, 9] rfl
  have hDc := hD.sub (ws' := (cwM cI b tW)) [0, 1, 2, 3, 4, 5, 6, 7, 8, 9] (by decide) rfl
  have hFc := va_free (wc := (cwM cI b tW)) hD hS hA [0, 1, 2, 3, 4, 5, 6, 7, 8, 9] rfl
  refine bd hF (fun r5 hG hF => ?_)
  refine va_calli (va_runV (As := [.int p1]) (rest := [.long (lN 4000000000000000000)]) ⟨hx, hb, hml, hown, hts⟩ (c_X3_no l dC dI cI sf s.heap.size N b tW p1 r5 hG) (cwV 1 hts gX3_noWide_X3_no rfl rfl rfl (by decide +kernel) ⟨Nat.le_of_ble_eq_true rfl, Nat.le_of_ble_eq_true rfl⟩) ⟨fun a U g mk q => ⟨q.1, q.2.call⟩, va_recv hK hP (ci := 3) (q0 := 0) rfl rfl, fun U hU hW => ⟨rfl, PB.of hU hW hPc hK hDc hNN hSF hS hFc⟩⟩ rfl rfl hl.1 rfl (lv_room (Nat.le_of_ble_eq_true rfl)) dX3_noWide_5 ⟨Nat.le_of_ble_eq_true rfl, Nat.le_of_ble_eq_true rfl⟩) hS (fun q _ h => hFc q h) hFc (fun z_ u_ t H locs ht hvm hw hB hz1 hk1 hS => ?_)
  subst z_
  obtain ⟨hP1, hD1⟩ := hB
  rw [ht] at hP1
  have hJ := vb_join (ws' := (cwM cI b r5.2)) hP hD [0, 1, 2, 3, 4, 5, 6, 7, 8, 9] [] [0, 1, 2, 3, 4, 5, 6, 7, 8, 9] rfl rfl (by decide) (by decide) hk1 hFc hP1 hD1 rfl (by decide) rfl
  clear hP hD hPc hDc hFc hP1 hD1 hk1 hz1 ht hvm hG
  obtain ⟨hP, hD⟩ := hJ
  refine lv_i2l (v := r5.1.toInt64) hx hb dX3_noWide_8 rfl ?_
  refine lv_lsub hx hb dX3_noWide_9 ?_
  obtain rfl := Option.some.inj hF
  exact W.lret (v := ((lN 4000000000000000000) - r5.1.toInt64)) hx hb hr (fun t ht hW => ⟨⟨((lN 4000000000000000000) - r5.1.toInt64), (), rfl, rfl, QB.of ht hP hD⟩, hS.F ht⟩) hS.2.2 dX3_noWide_10
theorem inw_X3_mean_X3 : ∀ w ∈ u_ws RX3 TX3 15, w ∈ wsX3_mean := fun _ h => List.mem_cons_of_mem _ (List.mem_append_right _ h)
set_option maxHeartbeats 4000000 in
set_option maxRecDepth 100000 in
theorem c_X3_mean (l : Launch) (dC : Nat → ClassId) (dI : Nat → Nat → Nat) (cI : ClassId) (sf : SFP) (sz : Nat) (N : Nat) (b : Nat → Nat) (tW : MS) (p1 : Int32) (r : (Int64 × MS)) (hF : F_X3_mean N tW p1 = some r) : Met l yX3_mean wsX3_mean ({ frames := 3, cells := 0, slots := 0, locals := 64 }) (va_Pc [.ref (b 0), .int p1] (PB (dC, dI) cI (cwM cI b tW) sz sf)) (va_Ql (fun (z : Int64) (_ : Unit) => z = r.1) (fun _ t => QB (dC, dI) (cwM cI b r.2) (va_A (cwM cI b tW) sz) t) (va_A (cwM cI b tW) sz)) 0 0 (va_A (cwM cI b tW) sz) := by
  refine Met.ofW (cc := cX3_mean) (maxL := 2) (ret := (some .long)) (by decide) rfl ?_
  intro p e s m args below meth c s₁ B hml hv
  obtain ⟨rfl, hsz, hP, hK, hD0, hNN, hSF⟩ := hv
  have hx := B.exec
  have hb := B.bytes
  have hr := B.returns
  have hts := atoms_spec (ws := wsX3_mean) B.pre
  have hown : s.vm.findClass RX3 = some m.cls := findClass_of_methodNamed B.named
  have hlocks := B.notSynchronized
  subst hsz
  have hD := hD0.self (sz := s.heap.size)
  generalize hAe : va_A (cwM cI b tW) s.heap.size = A at hD hSF ⊢
  have hA : ∀ q : Nat, s.heap.size ≤ q → A q := fun q h => by rw [← hAe]; exact Or.inr h
  clear hAe hD0
  have hS : va_S A s.heap s.heap [] := va_S.rf
  have hl := lv_entry ([.ref (b 0), .int p1]) (n := 2) (Nat.le_of_ble_eq_true rfl)
  rw [lg_entry_eq]
  generalize (lg_sl ([.ref (b 0), .int p1]) ++ List.replicate (2 - (lg_sl ([.ref (b 0), .int p1])).length) Slot.unset).toArray = ls at hl ⊢
  have hl : lv_has ls 2 [(0, .ref (b 0)), (1, .int p1)] := hl
  rw [F_X3_mean] at hF
  refine lv_iload_n hx hb dX3_mean_0 rfl (lv_at hl 1 rfl) ?_
  refine lv_iconst (v := nI 0) hx hb dX3_mean_1 (by decide) ?_
  refine lv_iconst (v := nI 1) hx hb dX3_mean_2 (by decide) ?_
  have hPc := hP.sub (ws' := ([] : va_W)) [] rfl
  have hDc := hD.sub (ws' := ([] : va_W)) [] (by decide) rfl
  have hFc := va_free (wc := ([] : va_W)) hD hS hA [] rfl
  refine bd hF (fun r3 hG hF => ?_)
  refine va_calli (va_runS (As := [.int p1, .int (nI 0), .int (nI 1)]) (rest := []) ⟨hx, hb, hml, hown, hts⟩ (c_X3_isIn l dC dI cI sf s.heap.size N  p1 (nI 0) (nI 1) r3 hG) (va_cwS 3 hts gX3_mean_X3_isIn rfl rfl rfl (by decide +kernel) ⟨Nat.le_of_ble_eq_true rfl, Nat.le_of_ble_eq_true rfl⟩) ⟨fun a U g mk q => ⟨q.1, q.2.call⟩, fun U hU hW => ⟨rfl, PB.of hU hW hPc hK hDc hNN hSF hS hFc⟩⟩ rfl rfl hl.1 rfl (lv_room (Nat.le_of_ble_eq_true rfl)) dX3_mean_3 ⟨Nat.le_of_ble_eq_true rfl, Nat.le_of_ble_eq_true rfl⟩) hS (fun q _ h => hFc q h) hFc (fun z_ u_ t H locs ht hvm hw hB hz1 hk1 hS => ?_)
  subst z_
  obtain ⟨hP1, hD1⟩ := hB
  rw [ht] at hP1
  have hJ := vb_join (ws' := (cwM cI b tW)) hP hD [] [0, 1, 2, 3, 4, 5, 6, 7, 8, 9] [0, 1, 2, 3, 4, 5, 6, 7, 8, 9] rfl rfl (by decide) (by decide) hk1 hFc hP1 hD1 rfl (by decide) rfl
  clear hP hD hPc hDc hFc hP1 hD1 hk1 hz1 ht hvm hG
  obtain ⟨hP, hD⟩ := hJ
  refine lv_if_eq (tgt := 35) hx hb dX3_mean_6 (by decide) (fun hc => ?_) (fun hc => ?_)
  · have hF := ift hc hF
    refine lv_aload_n hx hb dX3_mean_35 rfl (lv_at hl 0 rfl) ?_
    refine lv_bipush (v := (-2)) hx hb dX3_mean_36 (by decide) ?_
    have hPc := hP.sub (ws' := (cwM cI b tW)) [0, 1, 2, 3, 4, 5, 6, 7, 8, 9] rfl
    have hDc := hD.sub (ws' := (cwM cI b tW)) [0, 1, 2, 3, 4, 5, 6, 7, 8, 9] (by decide) rfl
    have hFc := va_free (wc := (cwM cI b tW)) hD hS hA [0, 1, 2, 3, 4, 5, 6, 7, 8, 9] rfl
    refine bd hF (fun r38 hG hF => ?_)
    refine va_calll (va_runV (As := [.int (-2)]) (rest := []) ⟨hx, hb, hml, hown, hts⟩ (c_X3_noWide l dC dI cI sf H.size N b tW (-2) r38 hG) (cwV 1 hts gX3_mean_X3_noWide rfl rfl rfl (by decide +kernel) ⟨Nat.le_of_ble_eq_true rfl, Nat.le_of_ble_eq_true rfl⟩) ⟨fun a U g mk q => ⟨q.1, q.2.call⟩, va_recv hK hP (ci := 3) (q0 := 0) rfl rfl, fun U hU hW => ⟨rfl, PB.of hU hW hPc hK hDc hNN hSF hS hFc⟩⟩ rfl rfl hl.1 rfl (lv_room (Nat.le_of_ble_eq_true rfl)) dX3_mean_38 ⟨Nat.le_of_ble_eq_true rfl, Nat.le_of_ble_eq_true rfl⟩) hS (fun q _ h => hFc q h) hFc (fun z_ u_ t H locs ht hvm hw hB hz1 hk1 hS => ?_)
    subst z_
    obtain ⟨hP1, hD1⟩ := hB
    rw [ht] at hP1
    have hJ := vb_join (ws' := (cwM cI b r38.2)) hP hD [0, 1, 2, 3, 4, 5, 6, 7, 8, 9] [] [0, 1, 2, 3, 4, 5, 6, 7, 8, 9] rfl rfl (by decide) (by decide) hk1 hFc hP1 hD1 rfl (by decide) rfl
    clear hP hD hPc hDc hFc hP1 hD1 hk1 hz1 ht hvm hG
    obtain ⟨hP, hD⟩ := hJ
    obtain rfl := Option.some.inj hF
    exact W.lret (v := r38.1) hx hb hr (fun t ht hW => ⟨⟨r38.1, (), rfl, rfl, QB.of ht hP hD⟩, hS.F ht⟩) hS.2.2 dX3_mean_41
  · have hF := iff_ hc hF
    refine lv_aload_n hx hb dX3_mean_9 rfl (lv_at hl 0 rfl) ?_
    refine va_get (D := (dC, dI)) (ci := 3) (v := .ref (b 1)) (C := RX3) (T := TX3) (N := 15) hx hb hts inw_X3_mean_X3 hown hK hP 0 rfl rfl 0 (by decide) (hts (.fieldLink RX3 9 "DeniedOfEachOtherModel" "s" "[I") (List.mem_of_getElem? (i := 1) rfl)) (fun _ h9 => h9) rfl dX3_mean_10 ?_
    have hPc := hP.sub (ws' := (cwA cI (b 1) tW.1)) [1] rfl
    have hDc := hD.sub (ws' := (cwA cI (b 1) tW.1)) [1] (by decide) rfl
    have hFc := va_free (wc := (cwA cI (b 1) tW.1)) hD hS hA [1] rfl
    refine bd hF (fun r13 hG hF => ?_)
    refine va_calli (va_runS (As := [.ref (b 1)]) (rest := []) ⟨hx, hb, hml, hown, hts⟩ (c_X3_agesAll l dC dI cI sf H.size N (b 1) tW.1 r13 hG) (va_cwS 1 hts gX3_mean_X3_agesAll rfl rfl rfl (by decide +kernel) ⟨Nat.le_of_ble_eq_true rfl, Nat.le_of_ble_eq_true rfl⟩) ⟨fun a U g mk q => ⟨q.1, q.2.call⟩, fun U hU hW => ⟨rfl, PB.of hU hW hPc hK hDc hNN hSF hS hFc⟩⟩ rfl rfl hl.1 rfl (lv_room (Nat.le_of_ble_eq_true rfl)) dX3_mean_13 ⟨Nat.le_of_ble_eq_true rfl, Nat.le_of_ble_eq_true rfl⟩) hS (fun q _ h => hFc q h) hFc (fun z_ u_ t H locs ht hvm hw hB hz1 hk1 hS => ?_)
    subst z_
    obtain ⟨hP1, hD1⟩ := hB
    rw [ht] at hP1
    have hJ := vb_join (ws' := (cwM cI b tW)) hP hD [1] [0, 2, 3, 4, 5, 6, 7, 8, 9] [0, 9, 1, 2, 3, 4, 5, 6, 7, 8] rfl rfl (by decide) (by decide) hk1 hFc hP1 hD1 rfl (by decide) rfl
    clear hP hD hPc hDc hFc hP1 hD1 hk1 hz1 ht hvm hG
    obtain ⟨hP, hD⟩ := hJ
    refine lv_i2l (v := r13.toInt64) hx hb dX3_mean_16 rfl ?_
    refine lv_aload_n hx hb dX3_mean_17 rfl (lv_at hl 0 rfl) ?_
    refine va_get (D := (dC, dI)) (ci := 3) (v := .ref (b 1)) (C := RX3) (T := TX3) (N := 15) hx hb hts inw_X3_mean_X3 hown hK hP 0 rfl rfl 0 (by decide) (hts (.fieldLink RX3 9 "DeniedOfEachOtherModel" "s" "[I") (List.mem_of_getElem? (i := 1) rfl)) (fun _ h9 => h9) rfl dX3_mean_18 ?_
    have hPc := hP.sub (ws' := (cwA cI (b 1) tW.1)) [1] rfl
    have hDc := hD.sub (ws' := (cwA cI (b 1) tW.1)) [1] (by decide) rfl
    have hFc := va_free (wc := (cwA cI (b 1) tW.1)) hD hS hA [1] rfl
    refine bd hF (fun r21 hG hF => ?_)
    refine va_calli (va_runS (As := [.ref (b 1)]) (rest := [.long r13.toInt64]) ⟨hx, hb, hml, hown, hts⟩ (c_X3_livingIn l dC dI cI sf H.size N (b 1) tW.1 r21 hG) (va_cwS 1 hts gX3_mean_X3_livingIn rfl rfl rfl (by decide +kernel) ⟨Nat.le_of_ble_eq_true rfl, Nat.le_of_ble_eq_true rfl⟩) ⟨fun a U g mk q => ⟨q.1, q.2.call⟩, fun U hU hW => ⟨rfl, PB.of hU hW hPc hK hDc hNN hSF hS hFc⟩⟩ rfl rfl hl.1 rfl (lv_room (Nat.le_of_ble_eq_true rfl)) dX3_mean_21 ⟨Nat.le_of_ble_eq_true rfl, Nat.le_of_ble_eq_true rfl⟩) hS (fun q _ h => hFc q h) hFc (fun z_ u_ t H locs ht hvm hw hB hz1 hk1 hS => ?_)
    subst z_
    obtain ⟨hP1, hD1⟩ := hB
    rw [ht] at hP1
    have hJ := vb_join (ws' := (cwM cI b tW)) hP hD [1] [0, 2, 3, 4, 5, 6, 7, 8, 9] [0, 9, 1, 2, 3, 4, 5, 6, 7, 8] rfl rfl (by decide) (by decide) hk1 hFc hP1 hD1 rfl (by decide) rfl
    clear hP hD hPc hDc hFc hP1 hD1 hk1 hz1 ht hvm hG
    obtain ⟨hP, hD⟩ := hJ
    have hPc := hP.sub (ws' := ([] : va_W)) [] rfl
    have hDc := hD.sub (ws' := ([] : va_W)) [] (by decide) rfl
    have hFc := va_free (wc := ([] : va_W)) hD hS hA [] rfl
    refine bd hF (fun r24 hG hF => ?_)
    refine va_calli (va_runS (As := [.int r21]) (rest := [.long r13.toInt64]) ⟨hx, hb, hml, hown, hts⟩ (c_X3_bits l dC dI cI sf H.size N  r21 r24 hG) (va_cwS 1 hts gX3_mean_X3_bits rfl rfl rfl (by decide +kernel) ⟨Nat.le_of_ble_eq_true rfl, Nat.le_of_ble_eq_true rfl⟩) ⟨fun a U g mk q => ⟨q.1, q.2.call⟩, fun U hU hW => ⟨rfl, PB.of hU hW hPc hK hDc hNN hSF hS hFc⟩⟩ rfl rfl hl.1 rfl (lv_room (Nat.le_of_ble_eq_true rfl)) dX3_mean_24 ⟨Nat.le_of_ble_eq_true rfl, Nat.le_of_ble_eq_true rfl⟩) hS (fun q _ h => hFc q h) hFc (fun z_ u_ t H locs ht hvm hw hB hz1 hk1 hS => ?_)
    subst z_
    obtain ⟨hP1, hD1⟩ := hB
    rw [ht] at hP1
    have hJ := vb_join (ws' := (cwM cI b tW)) hP hD [] [0, 1, 2, 3, 4, 5, 6, 7, 8, 9] [0, 1, 2, 3, 4, 5, 6, 7, 8, 9] rfl rfl (by decide) (by decide) hk1 hFc hP1 hD1 rfl (by decide) rfl
    clear hP hD hPc hDc hFc hP1 hD1 hk1 hz1 ht hvm hG
    obtain ⟨hP, hD⟩ := hJ
    refine lv_i2l (v := r24.toInt64) hx hb dX3_mean_27 rfl ?_
    refine lv_iload_n hx hb dX3_mean_28 rfl (lv_at hl 1 rfl) ?_
    have hPc := hP.sub (ws' := ([] : va_W)) [] rfl
    have hDc := hD.sub (ws' := ([] : va_W)) [] (by decide) rfl
    have hFc := va_free (wc := ([] : va_W)) hD hS hA [] rfl
    refine bd hF (fun r29 hG hF => ?_)
    refine va_calll (va_runS (As := [.long r13.toInt64, .long r24.toInt64, .int p1]) (rest := []) ⟨hx, hb, hml, hown, hts⟩ (c_X3_partOf l dC dI cI sf H.size N  r13.toInt64 r24.toInt64 p1 r29 hG) (va_cwS 3 hts gX3_mean_X3_partOf rfl rfl rfl (by decide +kernel) ⟨Nat.le_of_ble_eq_true rfl, Nat.le_of_ble_eq_true rfl⟩) ⟨fun a U g mk q => ⟨q.1, q.2.call⟩, fun U hU hW => ⟨rfl, PB.of hU hW hPc hK hDc hNN hSF hS hFc⟩⟩ rfl rfl hl.1 rfl (lv_room (Nat.le_of_ble_eq_true rfl)) dX3_mean_29 ⟨Nat.le_of_ble_eq_true rfl, Nat.le_of_ble_eq_true rfl⟩) hS (fun q _ h => hFc q h) hFc (fun z_ u_ t H locs ht hvm hw hB hz1 hk1 hS => ?_)
    subst z_
    obtain ⟨hP1, hD1⟩ := hB
    rw [ht] at hP1
    have hJ := vb_join (ws' := (cwM cI b tW)) hP hD [] [0, 1, 2, 3, 4, 5, 6, 7, 8, 9] [0, 1, 2, 3, 4, 5, 6, 7, 8, 9] rfl rfl (by decide) (by decide) hk1 hFc hP1 hD1 rfl (by decide) rfl
    clear hP hD hPc hDc hFc hP1 hD1 hk1 hz1 ht hvm hG
    obtain ⟨hP, hD⟩ := hJ
    refine lv_goto (tgt := 41) hx hb dX3_mean_32 (by decide) ?_
    obtain rfl := Option.some.inj hF
    exact W.lret (v := r29) hx hb hr (fun t ht hW => ⟨⟨r29, (), rfl, rfl, QB.of ht hP hD⟩, hS.F ht⟩) hS.2.2 dX3_mean_41
theorem inw_X3_on_X3 : ∀ w ∈ u_ws RX3 TX3 15, w ∈ wsX3_on := fun _ h => List.mem_cons_of_mem _ (List.mem_append_right _ h)
set_option maxHeartbeats 4000000 in
set_option maxRecDepth 100000 in
theorem c_X3_on (l : Launch) (dC : Nat → ClassId) (dI : Nat → Nat → Nat) (cI : ClassId) (sf : SFP) (sz : Nat) (N : Nat) (b : Nat → Nat) (tW : MS) (r : (Int32 × MS)) (hF : F_X3_on N tW = some r) : Met l yX3_on wsX3_on ({ frames := 1, cells := 0, slots := 0, locals := 22 }) (va_Pc [.ref (b 0)] (PB (dC, dI) cI (cwM cI b tW) sz sf)) (va_Qi (fun (z : Int32) (_ : Unit) => z = r.1) (fun _ t => QB (dC, dI) (cwM cI b r.2) (va_A (cwM cI b tW) sz) t) (va_A (cwM cI b tW) sz)) 0 0 (va_A (cwM cI b tW) sz) := by
  refine Met.ofW (cc := cX3_on) (maxL := 1) (ret := (some .int)) (by decide) rfl ?_
  intro p e s m args below meth c s₁ B hml hv
  obtain ⟨rfl, hsz, hP, hK, hD0, hNN, hSF⟩ := hv
  have hx := B.exec
  have hb := B.bytes
  have hr := B.returns
  have hts := atoms_spec (ws := wsX3_on) B.pre
  have hown : s.vm.findClass RX3 = some m.cls := findClass_of_methodNamed B.named
  have hlocks := B.notSynchronized
  subst hsz
  have hD := hD0.self (sz := s.heap.size)
  generalize hAe : va_A (cwM cI b tW) s.heap.size = A at hD hSF ⊢
  have hA : ∀ q : Nat, s.heap.size ≤ q → A q := fun q h => by rw [← hAe]; exact Or.inr h
  clear hAe hD0
  have hS : va_S A s.heap s.heap [] := va_S.rf
  have hl := lv_entry ([.ref (b 0)]) (n := 1) (Nat.le_of_ble_eq_true rfl)
  rw [lg_entry_eq]
  generalize (lg_sl ([.ref (b 0)]) ++ List.replicate (1 - (lg_sl ([.ref (b 0)])).length) Slot.unset).toArray = ls at hl ⊢
  have hl : lv_has ls 1 [(0, .ref (b 0))] := hl
  rw [F_X3_on] at hF
  refine lv_aload_n hx hb dX3_on_0 rfl (lv_at hl 0 rfl) ?_
  refine va_get (D := (dC, dI)) (ci := 3) (v := .int tW.2.2.2.2.1) (C := RX3) (T := TX3) (N := 15) hx hb hts inw_X3_on_X3 hown hK hP 0 rfl rfl 4 (by decide) (hts (.fieldLink RX3 220 "DeniedOfEachOtherModel" "hasImage" "Z") (List.mem_of_getElem? (i := 1) rfl)) (fun _ h9 => h9) rfl dX3_on_1 ?_
  refine lv_if_ne (tgt := 14) hx hb dX3_on_4 (by decide) (fun hc => ?_) (fun hc => ?_)
  · have hF := ift hc hF
    refine lv_aload_n hx hb dX3_on_14 rfl (lv_at hl 0 rfl) ?_
    refine va_get (D := (dC, dI)) (ci := 3) (v := .ref (b 3)) (C := RX3) (T := TX3) (N := 15) hx hb hts inw_X3_on_X3 hown hK hP 0 rfl rfl 2 (by decide) (hts (.fieldLink RX3 16 "DeniedOfEachOtherModel" "image" "[I") (List.mem_of_getElem? (i := 2) rfl)) (fun _ h9 => h9) rfl dX3_on_15 ?_
    refine lv_aload_n hx hb dX3_on_18 rfl (lv_at hl 0 rfl) ?_
    refine va_get (D := (dC, dI)) (ci := 3) (v := .ref (b 1)) (C := RX3) (T := TX3) (N := 15) hx hb hts inw_X3_on_X3 hown hK hP 0 rfl rfl 0 (by decide) (hts (.fieldLink RX3 9 "DeniedOfEachOtherModel" "s" "[I") (List.mem_of_getElem? (i := 3) rfl)) (fun _ h9 => h9) rfl dX3_on_19 ?_
    have hPc := hP.sub (ws' := (cwA cI (b 3) tW.2.2.1 ++ cwA cI (b 1) tW.1)) [3, 1] rfl
    have hDc := hD.sub (ws' := (cwA cI (b 3) tW.2.2.1 ++ cwA cI (b 1) tW.1)) [3, 1] (by decide) rfl
    have hFc := va_free (wc := (cwA cI (b 3) tW.2.2.1 ++ cwA cI (b 1) tW.1)) hD hS hA [3, 1] rfl
    refine bd hF (fun r22 hG hF => ?_)
    refine va_callv (va_runS (As := [.ref (b 3), .ref (b 1)]) (rest := []) ⟨hx, hb, hml, hown, hts⟩ (c_X3_copies l dC dI cI sf s.heap.size N (b 3) (b 1) tW.2.2.1 tW.1 r22 hG) (va_cwS 2 hts gX3_on_X3_copies rfl rfl rfl (by decide +kernel) ⟨Nat.le_of_ble_eq_true rfl, Nat.le_of_ble_eq_true rfl⟩) ⟨fun a U g mk q => ⟨q.1, q.2.call⟩, fun U hU hW => ⟨rfl, PB.of hU hW hPc hK hDc hNN hSF hS hFc⟩⟩ rfl rfl hl.1 rfl (lv_room (Nat.le_of_ble_eq_true rfl)) dX3_on_22 ⟨Nat.le_of_ble_eq_true rfl, Nat.le_of_ble_eq_true rfl⟩) hS (fun q _ h => hFc q h) hFc (fun u_ t H locs ht hvm hw hB hz1 hk1 hS => ?_)
    obtain ⟨hP1, hD1⟩ := hB
    rw [ht] at hP1
    have hJ := vb_join (ws' := (cwM cI b (r22, tW.2.1, tW.2.2.1, tW.2.2.2.1, tW.2.2.2.2.1, tW.2.2.2.2.2.1, tW.2.2.2.2.2.2.1, tW.2.2.2.2.2.2.2.1, tW.2.2.2.2.2.2.2.2.1, tW.2.2.2.2.2.2.2.2.2.1, tW.2.2.2.2.2.2.2.2.2.2.1, tW.2.2.2.2.2.2.2.2.2.2.2.1, tW.2.2.2.2.2.2.2.2.2.2.2.2.1, tW.2.2.2.2.2.2.2.2.2.2.2.2.2.1, tW.2.2.2.2.2.2.2.2.2.2.2.2.2.2))) hP hD [3, 1] [0, 2, 4, 5, 6, 7, 8, 9] [0, 9, 1, 8, 2, 3, 4, 5, 6, 7] rfl rfl (by decide) (by decide) hk1 hFc hP1 hD1 rfl (by decide) rfl
    clear hP hD hPc hDc hFc hP1 hD1 hk1 hz1 ht hvm hG
    obtain ⟨hP, hD⟩ := hJ
    refine lv_aload_n hx hb dX3_on_25 rfl (lv_at hl 0 rfl) ?_
    refine va_get (D := (dC, dI)) (ci := 3) (v := .ref (b 1)) (C := RX3) (T := TX3) (N := 15) hx hb hts inw_X3_on_X3 hown hK hP 0 rfl rfl 0 (by decide) (hts (.fieldLink RX3 9 "DeniedOfEachOtherModel" "s" "[I") (List.mem_of_getElem? (i := 3) rfl)) (fun _ h9 => h9) rfl dX3_on_26 ?_
    refine lv_iconst (v := nI 1) hx hb dX3_on_29 (by decide) ?_
    refine va_iald (D := (dC, dI)) hx hb hK hP 1 0 rfl rfl (vp_in_nI (n := 1) (N := 74) (by decide) (by decide)) dX3_on_30 ?_
    obtain rfl := Option.some.inj hF
    exact W.iret (v := (r22 (nI 1).toNatClampNeg)) hx hb hr (fun t ht hW => ⟨⟨(r22 (nI 1).toNatClampNeg), (), rfl, rfl, QB.of ht hP hD⟩, hS.F ht⟩) hS.2.2 dX3_on_31
  · have hF := iff_ (fun h => h hc) hF
    refine lv_aload_n hx hb dX3_on_7 rfl (lv_at hl 0 rfl) ?_
    refine lv_bipush (v := (-3)) hx hb dX3_on_8 (by decide) ?_
    have hPc := hP.sub (ws' := (cwM cI b tW)) [0, 1, 2, 3, 4, 5, 6, 7, 8, 9] rfl
    have hDc := hD.sub (ws' := (cwM cI b tW)) [0, 1, 2, 3, 4, 5, 6, 7, 8, 9] (by decide) rfl
    have hFc := va_free (wc := (cwM cI b tW)) hD hS hA [0, 1, 2, 3, 4, 5, 6, 7, 8, 9] rfl
    refine bd hF (fun r10 hG hF => ?_)
    refine va_calli (va_runV (As := [.int (-3)]) (rest := []) ⟨hx, hb, hml, hown, hts⟩ (c_X3_no l dC dI cI sf s.heap.size N b tW (-3) r10 hG) (cwV 1 hts gX3_on_X3_no rfl rfl rfl (by decide +kernel) ⟨Nat.le_of_ble_eq_true rfl, Nat.le_of_ble_eq_true rfl⟩) ⟨fun a U g mk q => ⟨q.1, q.2.call⟩, va_recv hK hP (ci := 3) (q0 := 0) rfl rfl, fun U hU hW => ⟨rfl, PB.of hU hW hPc hK hDc hNN hSF hS hFc⟩⟩ rfl rfl hl.1 rfl (lv_room (Nat.le_of_ble_eq_true rfl)) dX3_on_10 ⟨Nat.le_of_ble_eq_true rfl, Nat.le_of_ble_eq_true rfl⟩) hS (fun q _ h => hFc q h) hFc (fun z_ u_ t H locs ht hvm hw hB hz1 hk1 hS => ?_)
    subst z_
    obtain ⟨hP1, hD1⟩ := hB
    rw [ht] at hP1
    have hJ := vb_join (ws' := (cwM cI b r10.2)) hP hD [0, 1, 2, 3, 4, 5, 6, 7, 8, 9] [] [0, 1, 2, 3, 4, 5, 6, 7, 8, 9] rfl rfl (by decide) (by decide) hk1 hFc hP1 hD1 rfl (by decide) rfl
    clear hP hD hPc hDc hFc hP1 hD1 hk1 hz1 ht hvm hG
    obtain ⟨hP, hD⟩ := hJ
    obtain rfl := Option.some.inj hF
    exact W.iret (v := r10.1) hx hb hr (fun t ht hW => ⟨⟨r10.1, (), rfl, rfl, QB.of ht hP hD⟩, hS.F ht⟩) hS.2.2 dX3_on_13
theorem inw_X3_quarrel_X3 : ∀ w ∈ u_ws RX3 TX3 15, w ∈ wsX3_quarrel := fun _ h => List.mem_cons_of_mem _ (List.mem_append_right _ h)
set_option maxHeartbeats 4000000 in
set_option maxRecDepth 100000 in
theorem c_X3_quarrel (l : Launch) (dC : Nat → ClassId) (dI : Nat → Nat → Nat) (cI : ClassId) (sf : SFP) (sz : Nat) (N : Nat) (b : Nat → Nat) (tW : MS) (p1 : Int32) (r : (Int32 × MS)) (hF : F_X3_quarrel N tW p1 = some r) : Met l yX3_quarrel wsX3_quarrel ({ frames := 6, cells := 0, slots := 0, locals := 139 }) (va_Pc [.ref (b 0), .int p1] (PB (dC, dI) cI (cwM cI b tW) sz sf)) (va_Qi (fun (z : Int32) (_ : Unit) => z = r.1) (fun _ t => QB (dC, dI) (cwM cI b r.2) (va_A (cwM cI b tW) sz) t) (va_A (cwM cI b tW) sz)) 0 0 (va_A (cwM cI b tW) sz) := by
  refine Met.ofW (cc := cX3_quarrel) (maxL := 7) (ret := (some .int)) (by decide) rfl ?_
  intro p e s m args below meth c s₁ B hml hv
  obtain ⟨rfl, hsz, hP, hK, hD0, hNN, hSF⟩ := hv
  have hx := B.exec
  have hb := B.bytes
  have hr := B.returns
  have hts := atoms_spec (ws := wsX3_quarrel) B.pre
  have hown : s.vm.findClass RX3 = some m.cls := findClass_of_methodNamed B.named
  have hlocks := B.notSynchronized
  subst hsz
  have hD := hD0.self (sz := s.heap.size)
  generalize hAe : va_A (cwM cI b tW) s.heap.size = A at hD hSF ⊢
  have hA : ∀ q : Nat, s.heap.size ≤ q → A q := fun q h => by rw [← hAe]; exact Or.inr h
  clear hAe hD0
  have hS : va_S A s.heap s.heap [] := va_S.rf
  have hl := lv_entry ([.ref (b 0), .int p1]) (n := 7) (Nat.le_of_ble_eq_true rfl)
  rw [lg_entry_eq]
  generalize (lg_sl ([.ref (b 0), .int p1]) ++ List.replicate (7 - (lg_sl ([.ref (b 0), .int p1])).length) Slot.unset).toArray = ls at hl ⊢
  have hl : lv_has ls 7 [(0, .ref (b 0)), (1, .int p1)] := hl
  rw [F_X3_quarrel] at hF
  refine lv_iload_n hx hb dX3_quarrel_0 rfl (lv_at hl 1 rfl) ?_
  have hPc := hP.sub (ws' := ([] : va_W)) [] rfl
  have hDc := hD.sub (ws' := ([] : va_W)) [] (by decide) rfl
  have hFc := va_free (wc := ([] : va_W)) hD hS hA [] rfl
  refine bd hF (fun r1 hG hF => ?_)
  refine va_calli (va_runS (As := [.int p1]) (rest := []) ⟨hx, hb, hml, hown, hts⟩ (c_X3_isTopic l dC dI cI sf s.heap.size N  p1 r1 hG) (va_cwS 1 hts gX3_quarrel_X3_isTopic rfl rfl rfl (by decide +kernel) ⟨Nat.le_of_ble_eq_true rfl, Nat.le_of_ble_eq_true rfl⟩) ⟨fun a U g mk q => ⟨q.1, q.2.call⟩, fun U hU hW => ⟨rfl, PB.of hU hW hPc hK hDc hNN hSF hS hFc⟩⟩ rfl rfl hl.1 rfl (lv_room (Nat.le_of_ble_eq_true rfl)) dX3_quarrel_1 ⟨Nat.le_of_ble_eq_true rfl, Nat.le_of_ble_eq_true rfl⟩) hS (fun q _ h => hFc q h) hFc (fun z_ u_ t H locs ht hvm hw hB hz1 hk1 hS => ?_)
  subst z_
  obtain ⟨hP1, hD1⟩ := hB
  rw [ht] at hP1
  have hJ := vb_join (ws' := (cwM cI b tW)) hP hD [] [0, 1, 2, 3, 4, 5, 6, 7, 8, 9] [0, 1, 2, 3, 4, 5, 6, 7, 8, 9] rfl rfl (by decide) (by decide) hk1 hFc hP1 hD1 rfl (by decide) rfl
  clear hP hD hPc hDc hFc hP1 hD1 hk1 hz1 ht hvm hG
  obtain ⟨hP, hD⟩ := hJ
  refine lv_if_ne (tgt := 13) hx hb dX3_quarrel_4 (by decide) (fun hc => ?_) (fun hc => ?_)
  · have hF := ift hc hF
    refine lv_bipush (v := (-9)) hx hb dX3_quarrel_13 (by decide) ?_
    refine lv_istore_n (lv' := [(2, .int (-9)), (0, .ref (b 0)), (1, .int p1)]) hx hb dX3_quarrel_15 rfl hl (by decide) rfl (fun ls hl => ?_)
    refine lv_iconst (v := (-1)) hx hb dX3_quarrel_16 (by decide) ?_
    refine lv_istore_n (lv' := [(3, .int (-1)), (2, .int (-9)), (0, .ref (b 0)), (1, .int p1)]) hx hb dX3_quarrel_17 rfl hl (by decide) rfl (fun ls hl => ?_)
    refine lv_iconst (v := nI 0) hx hb dX3_quarrel_18 (by decide) ?_
    refine vW_have (fun R av Q => ∀ (n21 : Nat) (tW : MS) (x1 : Int32) (x2 : Int32) (x3 : Int32) (x4 : Int32) (H : Heap) (locs : List Loc) (ls : Array Slot), F_X3_quarrel_21 N n21 tW x1 x2 x3 x4 = some r → va_P (dC, dI) vwCl (cwM cI b tW) H → va_D A (cwM cI b tW) → va_S A s.heap H locs → lv_has ls 7 [(0, .ref (b 0)), (1, .int x1), (2, .int x2), (3, .int x3), (4, .int x4)] → W p l e R s m av below meth c H locs 0 0 Q (F0 m 21 ls [])) ?_ (fun kJ21 => ?_)
    · intro n21
      induction n21 with
      | zero => intro tW x1 x2 x3 x4 H locs ls hF; exact nn hF
      | succ n21 ih21 =>
        intro tW x1 x2 x3 x4 H locs ls hF hP hD hS hl
        rw [F_X3_quarrel_21] at hF
        refine lv_iload hx hb dX3_quarrel_21 (lv_at hl 4 rfl) ?_
        refine lv_aload_n hx hb dX3_quarrel_23 rfl (lv_at hl 0 rfl) ?_
        refine va_get (D := (dC, dI)) (ci := 3) (v := .ref (b 1)) (C := RX3) (T := TX3) (N := 15) hx hb hts inw_X3_quarrel_X3 hown hK hP 0 rfl rfl 0 (by decide) (hts (.fieldLink RX3 9 "DeniedOfEachOtherModel" "s" "[I") (List.mem_of_getElem? (i := 1) rfl)) (fun _ h9 => h9) rfl dX3_quarrel_24 ?_
        refine lv_iconst (v := nI 0) hx hb dX3_quarrel_27 (by decide) ?_
        refine va_iald (D := (dC, dI)) hx hb hK hP 1 0 rfl rfl (vp_in_nI (n := 0) (N := 74) (by decide) (by decide)) dX3_quarrel_28 ?_
        refine lv_icmp_ge (tgt := 175) hx hb dX3_quarrel_29 (by decide) (fun hc => ?_) (fun hc => ?_)
        · have hF := ift hc hF
          refine lv_iload_n hx hb dX3_quarrel_175 rfl (lv_at hl 2 rfl) ?_
          obtain rfl := Option.some.inj hF
          exact W.iret (v := x2) hx hb hr (fun t ht hW => ⟨⟨x2, (), rfl, rfl, QB.of ht hP hD⟩, hS.F ht⟩) hS.2.2 dX3_quarrel_176
        · have hF := iff_ hc hF
          refine lv_iconst (v := nI 0) hx hb dX3_quarrel_32 (by decide) ?_
          refine vW_have (fun R av Q => ∀ (n35 : Nat) (tW : MS) (x1 : Int32) (x2 : Int32) (x3 : Int32) (x4 : Int32) (x5 : Int32) (H : Heap) (locs : List Loc) (ls : Array Slot), F_X3_quarrel_35 N (fun ctW cx1 cx2 cx3 cx4 => F_X3_quarrel_21 N n21 ctW cx1 cx2 cx3 cx4) n35 tW x1 x2 x3 x4 x5 = some r → va_P (dC, dI) vwCl (cwM cI b tW) H → va_D A (cwM cI b tW) → va_S A s.heap H locs → lv_has ls 7 [(0, .ref (b 0)), (1, .int x1), (2, .int x2), (3, .int x3), (4, .int x4), (5, .int x5)] → W p l e R s m av below meth c H locs 0 0 Q (F0 m 35 ls [])) ?_ (fun kJ35 => ?_)
          · intro n35
            induction n35 with
            | zero => intro tW x1 x2 x3 x4 x5 H locs ls hF; exact nn hF
            | succ n35 ih35 =>
              intro tW x1 x2 x3 x4 x5 H locs ls hF hP hD hS hl
              rw [F_X3_quarrel_35] at hF
              refine lv_iload hx hb dX3_quarrel_35 (lv_at hl 5 rfl) ?_
              refine lv_aload_n hx hb dX3_quarrel_37 rfl (lv_at hl 0 rfl) ?_
              refine va_get (D := (dC, dI)) (ci := 3) (v := .ref (b 1)) (C := RX3) (T := TX3) (N := 15) hx hb hts inw_X3_quarrel_X3 hown hK hP 0 rfl rfl 0 (by decide) (hts (.fieldLink RX3 9 "DeniedOfEachOtherModel" "s" "[I") (List.mem_of_getElem? (i := 1) rfl)) (fun _ h9 => h9) rfl dX3_quarrel_38 ?_
              refine lv_iconst (v := nI 0) hx hb dX3_quarrel_41 (by decide) ?_
              refine va_iald (D := (dC, dI)) hx hb hK hP 1 0 rfl rfl (vp_in_nI (n := 0) (N := 74) (by decide) (by decide)) dX3_quarrel_42 ?_
              refine vW_have (fun R av Q => ∀ (tW : MS) (x1 : Int32) (x2 : Int32) (x3 : Int32) (x4 : Int32) (H : Heap) (locs : List Loc) (ls : Array Slot), F_X3_quarrel_169 N (fun ctW cx1 cx2 cx3 cx4 => F_X3_quarrel_21 N n21 ctW cx1 cx2 cx3 cx4) tW x1 x2 x3 x4 = some r → va_P (dC, dI) vwCl (cwM cI b tW) H → va_D A (cwM cI b tW) → va_S A s.heap H locs → lv_has ls 7 [(0, .ref (b 0)), (1, .int x1), (2, .int x2), (3, .int x3), (4, .int x4)] → W p l e R s m av below meth c H locs 0 0 Q (F0 m 169 ls [])) ?_ (fun kJ169 => ?_)
              · 
                intro tW x1 x2 x3 x4 H locs ls hF hP hD hS hl
                rw [F_X3_quarrel_169] at hF
                refine lv_iinc (v := x4 + (nI 1)) (lv' := [(4, .int (x4 + (nI 1))), (0, .ref (b 0)), (1, .int x1), (2, .int x2), (3, .int x3)]) hx hb dX3_quarrel_169 hl (k := 4) rfl (by rfl) (by decide) rfl (fun ls hl => ?_)
                refine lv_goto (tgt := 21) hx hb dX3_quarrel_172 (by decide) ?_
                exact ih21 tW x1 x2 x3 (x4 + (nI 1)) _ _ _ hF hP hD hS (lv_sub hl [1, 2, 3, 4, 0] rfl)
              refine lv_icmp_ge (tgt := 169) hx hb dX3_quarrel_43 (by decide) (fun hc => ?_) (fun hc => ?_)
              · have hF := ift hc hF
                exact kJ169 tW x1 x2 x3 x4 _ _ _ hF hP hD hS (lv_sub hl [0, 1, 2, 3, 4] rfl)
              · have hF := iff_ hc hF
                refine lv_iload hx hb dX3_quarrel_46 (lv_at hl 4 rfl) ?_
                refine lv_iload hx hb dX3_quarrel_48 (lv_at hl 5 rfl) ?_
                refine vW_have (fun R av Q => ∀ (tW : MS) (x1 : Int32) (x2 : Int32) (x3 : Int32) (x4 : Int32) (x5 : Int32) (H : Heap) (locs : List Loc) (ls : Array Slot), F_X3_quarrel_163 N (fun ctW cx1 cx2 cx3 cx4 => F_X3_quarrel_21 N n21 ctW cx1 cx2 cx3 cx4) (fun ctW cx1 cx2 cx3 cx4 cx5 => F_X3_quarrel_35 N (fun ctW cx1 cx2 cx3 cx4 => F_X3_quarrel_21 N n21 ctW cx1 cx2 cx3 cx4) n35 ctW cx1 cx2 cx3 cx4 cx5) tW x1 x2 x3 x4 x5 = some r → va_P (dC, dI) vwCl (cwM cI b tW) H → va_D A (cwM cI b tW) → va_S A s.heap H locs → lv_has ls 7 [(0, .ref (b 0)), (1, .int x1), (2, .int x2), (3, .int x3), (4, .int x4), (5, .int x5)] → W p l e R s m av below meth c H locs 0 0 Q (F0 m 163 ls [])) ?_ (fun kJ163 => ?_)
                · 
                  intro tW x1 x2 x3 x4 x5 H locs ls hF hP hD hS hl
                  rw [F_X3_quarrel_163] at hF
                  refine lv_iinc (v := x5 + (nI 1)) (lv' := [(5, .int (x5 + (nI 1))), (0, .ref (b 0)), (1, .int x1), (2, .int x2), (3, .int x3), (4, .int x4)]) hx hb dX3_quarrel_163 hl (k := 5) rfl (by rfl) (by decide) rfl (fun ls hl => ?_)
                  refine lv_goto (tgt := 35) hx hb dX3_quarrel_166 (by decide) ?_
                  exact ih35 tW x1 x2 x3 x4 (x5 + (nI 1)) _ _ _ hF hP hD hS (lv_sub hl [1, 2, 3, 4, 5, 0] rfl)
                refine lv_icmp_eq (tgt := 163) hx hb dX3_quarrel_50 (by decide) (fun hc => ?_) (fun hc => ?_)
                · have hF := ift hc hF
                  exact kJ163 tW x1 x2 x3 x4 x5 _ _ _ hF hP hD hS (lv_sub hl [0, 1, 2, 3, 4, 5] rfl)
                · have hF := iff_ hc hF
                  refine lv_aload_n hx hb dX3_quarrel_53 rfl (lv_at hl 0 rfl) ?_
                  refine va_get (D := (dC, dI)) (ci := 3) (v := .ref (b 1)) (C := RX3) (T := TX3) (N := 15) hx hb hts inw_X3_quarrel_X3 hown hK hP 0 rfl rfl 0 (by decide) (hts (.fieldLink RX3 9 "DeniedOfEachOtherModel" "s" "[I") (List.mem_of_getElem? (i := 1) rfl)) (fun _ h9 => h9) rfl dX3_quarrel_54 ?_
                  refine lv_iload hx hb dX3_quarrel_57 (lv_at hl 4 rfl) ?_
                  have hPc := hP.sub (ws' := (cwA cI (b 1) tW.1)) [1] rfl
                  have hDc := hD.sub (ws' := (cwA cI (b 1) tW.1)) [1] (by decide) rfl
                  have hFc := va_free (wc := (cwA cI (b 1) tW.1)) hD hS hA [1] rfl
                  refine bd hF (fun r59 hG hF => ?_)
                  refine va_calli (va_runS (As := [.ref (b 1), .int x4]) (rest := []) ⟨hx, hb, hml, hown, hts⟩ (c_X3_isAlive l dC dI cI sf H.size N (b 1) tW.1 x4 r59 hG) (va_cwS 2 hts gX3_quarrel_X3_isAlive rfl rfl rfl (by decide +kernel) ⟨Nat.le_of_ble_eq_true rfl, Nat.le_of_ble_eq_true rfl⟩) ⟨fun a U g mk q => ⟨q.1, q.2.call⟩, fun U hU hW => ⟨rfl, PB.of hU hW hPc hK hDc hNN hSF hS hFc⟩⟩ rfl rfl hl.1 rfl (lv_room (Nat.le_of_ble_eq_true rfl)) dX3_quarrel_59 ⟨Nat.le_of_ble_eq_true rfl, Nat.le_of_ble_eq_true rfl⟩) hS (fun q _ h => hFc q h) hFc (fun z_ u_ t H locs ht hvm hw hB hz1 hk1 hS => ?_)
                  subst z_
                  obtain ⟨hP1, hD1⟩ := hB
                  rw [ht] at hP1
                  have hJ := vb_join (ws' := (cwM cI b tW)) hP hD [1] [0, 2, 3, 4, 5, 6, 7, 8, 9] [0, 9, 1, 2, 3, 4, 5, 6, 7, 8] rfl rfl (by decide) (by decide) hk1 hFc hP1 hD1 rfl (by decide) rfl
                  clear hP hD hPc hDc hFc hP1 hD1 hk1 hz1 ht hvm hG
                  obtain ⟨hP, hD⟩ := hJ
                  refine lv_if_eq (tgt := 163) hx hb dX3_quarrel_62 (by decide) (fun hc => ?_) (fun hc => ?_)
                  · have hF := ift hc hF
                    exact kJ163 tW x1 x2 x3 x4 x5 _ _ _ hF hP hD hS (lv_sub hl [0, 1, 2, 3, 4, 5] rfl)
                  · have hF := iff_ hc hF
                    refine lv_aload_n hx hb dX3_quarrel_65 rfl (lv_at hl 0 rfl) ?_
                    refine va_get (D := (dC, dI)) (ci := 3) (v := .ref (b 1)) (C := RX3) (T := TX3) (N := 15) hx hb hts inw_X3_quarrel_X3 hown hK hP 0 rfl rfl 0 (by decide) (hts (.fieldLink RX3 9 "DeniedOfEachOtherModel" "s" "[I") (List.mem_of_getElem? (i := 1) rfl)) (fun _ h9 => h9) rfl dX3_quarrel_66 ?_
                    refine lv_iload hx hb dX3_quarrel_69 (lv_at hl 5 rfl) ?_
                    have hPc := hP.sub (ws' := (cwA cI (b 1) tW.1)) [1] rfl
                    have hDc := hD.sub (ws' := (cwA cI (b 1) tW.1)) [1] (by decide) rfl
                    have hFc := va_free (wc := (cwA cI (b 1) tW.1)) hD hS hA [1] rfl
                    refine bd hF (fun r71 hG hF => ?_)
                    refine va_calli (va_runS (As := [.ref (b 1), .int x5]) (rest := []) ⟨hx, hb, hml, hown, hts⟩ (c_X3_isAlive l dC dI cI sf H.size N (b 1) tW.1 x5 r71 hG) (va_cwS 2 hts gX3_quarrel_X3_isAlive rfl rfl rfl (by decide +kernel) ⟨Nat.le_of_ble_eq_true rfl, Nat.le_of_ble_eq_true rfl⟩) ⟨fun a U g mk q => ⟨q.1, q.2.call⟩, fun U hU hW => ⟨rfl, PB.of hU hW hPc hK hDc hNN hSF hS hFc⟩⟩ rfl rfl hl.1 rfl (lv_room (Nat.le_of_ble_eq_true rfl)) dX3_quarrel_71 ⟨Nat.le_of_ble_eq_true rfl, Nat.le_of_ble_eq_true rfl⟩) hS (fun q _ h => hFc q h) hFc (fun z_ u_ t H locs ht hvm hw hB hz1 hk1 hS => ?_)
                    subst z_
                    obtain ⟨hP1, hD1⟩ := hB
                    rw [ht] at hP1
                    have hJ := vb_join (ws' := (cwM cI b tW)) hP hD [1] [0, 2, 3, 4, 5, 6, 7, 8, 9] [0, 9, 1, 2, 3, 4, 5, 6, 7, 8] rfl rfl (by decide) (by decide) hk1 hFc hP1 hD1 rfl (by decide) rfl
                    clear hP hD hPc hDc hFc hP1 hD1 hk1 hz1 ht hvm hG
                    obtain ⟨hP, hD⟩ := hJ
                    refine lv_if_ne (tgt := 80) hx hb dX3_quarrel_74 (by decide) (fun hc => ?_) (fun hc => ?_)
                    · have hF := ift hc hF
                      refine lv_aload_n hx hb dX3_quarrel_80 rfl (lv_at hl 0 rfl) ?_
                      refine va_get (D := (dC, dI)) (ci := 3) (v := .ref (b 1)) (C := RX3) (T := TX3) (N := 15) hx hb hts inw_X3_quarrel_X3 hown hK hP 0 rfl rfl 0 (by decide) (hts (.fieldLink RX3 9 "DeniedOfEachOtherModel" "s" "[I") (List.mem_of_getElem? (i := 1) rfl)) (fun _ h9 => h9) rfl dX3_quarrel_81 ?_
                      refine lv_aload_n hx hb dX3_quarrel_84 rfl (lv_at hl 0 rfl) ?_
                      refine va_get (D := (dC, dI)) (ci := 3) (v := .ref (b 2)) (C := RX3) (T := TX3) (N := 15) hx hb hts inw_X3_quarrel_X3 hown hK hP 0 rfl rfl 1 (by decide) (hts (.fieldLink RX3 13 "DeniedOfEachOtherModel" "m" "[I") (List.mem_of_getElem? (i := 2) rfl)) (fun _ h9 => h9) rfl dX3_quarrel_85 ?_
                      have hPc := hP.sub (ws' := (cwA cI (b 1) tW.1 ++ cwA cI (b 2) tW.2.1)) [1, 2] rfl
                      have hDc := hD.sub (ws' := (cwA cI (b 1) tW.1 ++ cwA cI (b 2) tW.2.1)) [1, 2] (by decide) rfl
                      have hFc := va_free (wc := (cwA cI (b 1) tW.1 ++ cwA cI (b 2) tW.2.1)) hD hS hA [1, 2] rfl
                      refine bd hF (fun r88 hG hF => ?_)
                      refine va_callv (va_runS (As := [.ref (b 1), .ref (b 2)]) (rest := []) ⟨hx, hb, hml, hown, hts⟩ (c_X3_copies l dC dI cI sf H.size N (b 1) (b 2) tW.1 tW.2.1 r88 hG) (va_cwS 2 hts gX3_quarrel_X3_copies rfl rfl rfl (by decide +kernel) ⟨Nat.le_of_ble_eq_true rfl, Nat.le_of_ble_eq_true rfl⟩) ⟨fun a U g mk q => ⟨q.1, q.2.call⟩, fun U hU hW => ⟨rfl, PB.of hU hW hPc hK hDc hNN hSF hS hFc⟩⟩ rfl rfl hl.1 rfl (lv_room (Nat.le_of_ble_eq_true rfl)) dX3_quarrel_88 ⟨Nat.le_of_ble_eq_true rfl, Nat.le_of_ble_eq_true rfl⟩) hS (fun q _ h => hFc q h) hFc (fun u_ t H locs ht hvm hw hB hz1 hk1 hS => ?_)
                      obtain ⟨hP1, hD1⟩ := hB
                      rw [ht] at hP1
                      have hJ := vb_join (ws' := (cwM cI b (tW.1, r88, tW.2.2.1, tW.2.2.2.1, tW.2.2.2.2.1, tW.2.2.2.2.2.1, tW.2.2.2.2.2.2.1, tW.2.2.2.2.2.2.2.1, tW.2.2.2.2.2.2.2.2.1, tW.2.2.2.2.2.2.2.2.2.1, tW.2.2.2.2.2.2.2.2.2.2.1, tW.2.2.2.2.2.2.2.2.2.2.2.1, tW.2.2.2.2.2.2.2.2.2.2.2.2.1, tW.2.2.2.2.2.2.2.2.2.2.2.2.2.1, tW.2.2.2.2.2.2.2.2.2.2.2.2.2.2))) hP hD [1, 2] [0, 3, 4, 5, 6, 7, 8, 9] [0, 8, 9, 1, 2, 3, 4, 5, 6, 7] rfl rfl (by decide) (by decide) hk1 hFc hP1 hD1 rfl (by decide) rfl
                      clear hP hD hPc hDc hFc hP1 hD1 hk1 hz1 ht hvm hG
                      obtain ⟨hP, hD⟩ := hJ
                      refine lv_aload_n hx hb dX3_quarrel_91 rfl (lv_at hl 0 rfl) ?_
                      refine va_get (D := (dC, dI)) (ci := 3) (v := .ref (b 2)) (C := RX3) (T := TX3) (N := 15) hx hb hts inw_X3_quarrel_X3 hown hK hP 0 rfl rfl 1 (by decide) (hts (.fieldLink RX3 13 "DeniedOfEachOtherModel" "m" "[I") (List.mem_of_getElem? (i := 2) rfl)) (fun _ h9 => h9) rfl dX3_quarrel_92 ?_
                      refine lv_iload hx hb dX3_quarrel_95 (lv_at hl 4 rfl) ?_
                      refine lv_iconst (v := nI 4) hx hb dX3_quarrel_97 (by decide) ?_
                      refine lv_iload_n hx hb dX3_quarrel_98 rfl (lv_at hl 1 rfl) ?_
                      refine lv_iadd hx hb dX3_quarrel_99 ?_
                      have hPc := hP.sub (ws' := ([] : va_W)) [] rfl
                      have hDc := hD.sub (ws' := ([] : va_W)) [] (by decide) rfl
                      have hFc := va_free (wc := ([] : va_W)) hD hS hA [] rfl
                      refine bd hF (fun r100 hG hF => ?_)
                      refine va_calli (va_runS (As := [.int x4, .int ((nI 4) + x1)]) (rest := [.ref (b 2)]) ⟨hx, hb, hml, hown, hts⟩ (c_X3_of l dC dI cI sf H.size N  x4 ((nI 4) + x1) r100 hG) (va_cwS 2 hts gX3_quarrel_X3_of rfl rfl rfl (by decide +kernel) ⟨Nat.le_of_ble_eq_true rfl, Nat.le_of_ble_eq_true rfl⟩) ⟨fun a U g mk q => ⟨q.1, q.2.call⟩, fun U hU hW => ⟨rfl, PB.of hU hW hPc hK hDc hNN hSF hS hFc⟩⟩ rfl rfl hl.1 rfl (lv_room (Nat.le_of_ble_eq_true rfl)) dX3_quarrel_100 ⟨Nat.le_of_ble_eq_true rfl, Nat.le_of_ble_eq_true rfl⟩) hS (fun q _ h => hFc q h) hFc (fun z_ u_ t H locs ht hvm hw hB hz1 hk1 hS => ?_)
                      subst z_
                      obtain ⟨hP1, hD1⟩ := hB
                      rw [ht] at hP1
                      have hJ := vb_join (ws' := (cwM cI b (tW.1, r88, tW.2.2.1, tW.2.2.2.1, tW.2.2.2.2.1, tW.2.2.2.2.2.1, tW.2.2.2.2.2.2.1, tW.2.2.2.2.2.2.2.1, tW.2.2.2.2.2.2.2.2.1, tW.2.2.2.2.2.2.2.2.2.1, tW.2.2.2.2.2.2.2.2.2.2.1, tW.2.2.2.2.2.2.2.2.2.2.2.1, tW.2.2.2.2.2.2.2.2.2.2.2.2.1, tW.2.2.2.2.2.2.2.2.2.2.2.2.2.1, tW.2.2.2.2.2.2.2.2.2.2.2.2.2.2))) hP hD [] [0, 1, 2, 3, 4, 5, 6, 7, 8, 9] [0, 1, 2, 3, 4, 5, 6, 7, 8, 9] rfl rfl (by decide) (by decide) hk1 hFc hP1 hD1 rfl (by decide) rfl
                      clear hP hD hPc hDc hFc hP1 hD1 hk1 hz1 ht hvm hG
                      obtain ⟨hP, hD⟩ := hJ
                      refine lv_iconst (v := nI 1) hx hb dX3_quarrel_103 (by decide) ?_
                      refine cki hF (fun hi hF => ?_)
                      refine va_iast (D := (dC, dI)) hx hb hK hP hD hS 2 0 rfl rfl hi dX3_quarrel_104 (fun H locs hP hD hS => ?_)
                      have hP : va_P (dC, dI) vwCl (cwM cI b (tW.1, (upd r88 r100.toNatClampNeg (nI 1)), tW.2.2.1, tW.2.2.2.1, tW.2.2.2.2.1, tW.2.2.2.2.2.1, tW.2.2.2.2.2.2.1, tW.2.2.2.2.2.2.2.1, tW.2.2.2.2.2.2.2.2.1, tW.2.2.2.2.2.2.2.2.2.1, tW.2.2.2.2.2.2.2.2.2.2.1, tW.2.2.2.2.2.2.2.2.2.2.2.1, tW.2.2.2.2.2.2.2.2.2.2.2.2.1, tW.2.2.2.2.2.2.2.2.2.2.2.2.2.1, tW.2.2.2.2.2.2.2.2.2.2.2.2.2.2)) H := hP
                      have hD : va_D A (cwM cI b (tW.1, (upd r88 r100.toNatClampNeg (nI 1)), tW.2.2.1, tW.2.2.2.1, tW.2.2.2.2.1, tW.2.2.2.2.2.1, tW.2.2.2.2.2.2.1, tW.2.2.2.2.2.2.2.1, tW.2.2.2.2.2.2.2.2.1, tW.2.2.2.2.2.2.2.2.2.1, tW.2.2.2.2.2.2.2.2.2.2.1, tW.2.2.2.2.2.2.2.2.2.2.2.1, tW.2.2.2.2.2.2.2.2.2.2.2.2.1, tW.2.2.2.2.2.2.2.2.2.2.2.2.2.1, tW.2.2.2.2.2.2.2.2.2.2.2.2.2.2)) := hD
                      refine lv_aload_n hx hb dX3_quarrel_105 rfl (lv_at hl 0 rfl) ?_
                      refine va_get (D := (dC, dI)) (ci := 3) (v := .ref (b 2)) (C := RX3) (T := TX3) (N := 15) hx hb hts inw_X3_quarrel_X3 hown hK hP 0 rfl rfl 1 (by decide) (hts (.fieldLink RX3 13 "DeniedOfEachOtherModel" "m" "[I") (List.mem_of_getElem? (i := 2) rfl)) (fun _ h9 => h9) rfl dX3_quarrel_106 ?_
                      refine lv_iload hx hb dX3_quarrel_109 (lv_at hl 5 rfl) ?_
                      refine lv_iconst (v := nI 4) hx hb dX3_quarrel_111 (by decide) ?_
                      refine lv_iload_n hx hb dX3_quarrel_112 rfl (lv_at hl 1 rfl) ?_
                      refine lv_iadd hx hb dX3_quarrel_113 ?_
                      have hPc := hP.sub (ws' := ([] : va_W)) [] rfl
                      have hDc := hD.sub (ws' := ([] : va_W)) [] (by decide) rfl
                      have hFc := va_free (wc := ([] : va_W)) hD hS hA [] rfl
                      refine bd hF (fun r114 hG hF => ?_)
                      refine va_calli (va_runS (As := [.int x5, .int ((nI 4) + x1)]) (rest := [.ref (b 2)]) ⟨hx, hb, hml, hown, hts⟩ (c_X3_of l dC dI cI sf H.size N  x5 ((nI 4) + x1) r114 hG) (va_cwS 2 hts gX3_quarrel_X3_of rfl rfl rfl (by decide +kernel) ⟨Nat.le_of_ble_eq_true rfl, Nat.le_of_ble_eq_true rfl⟩) ⟨fun a U g mk q => ⟨q.1, q.2.call⟩, fun U hU hW => ⟨rfl, PB.of hU hW hPc hK hDc hNN hSF hS hFc⟩⟩ rfl rfl hl.1 rfl (lv_room (Nat.le_of_ble_eq_true rfl)) dX3_quarrel_114 ⟨Nat.le_of_ble_eq_true rfl, Nat.le_of_ble_eq_true rfl⟩) hS (fun q _ h => hFc q h) hFc (fun z_ u_ t H locs ht hvm hw hB hz1 hk1 hS => ?_)
                      subst z_
                      obtain ⟨hP1, hD1⟩ := hB
                      rw [ht] at hP1
                      have hJ := vb_join (ws' := (cwM cI b (tW.1, (upd r88 r100.toNatClampNeg (nI 1)), tW.2.2.1, tW.2.2.2.1, tW.2.2.2.2.1, tW.2.2.2.2.2.1, tW.2.2.2.2.2.2.1, tW.2.2.2.2.2.2.2.1, tW.2.2.2.2.2.2.2.2.1, tW.2.2.2.2.2.2.2.2.2.1, tW.2.2.2.2.2.2.2.2.2.2.1, tW.2.2.2.2.2.2.2.2.2.2.2.1, tW.2.2.2.2.2.2.2.2.2.2.2.2.1, tW.2.2.2.2.2.2.2.2.2.2.2.2.2.1, tW.2.2.2.2.2.2.2.2.2.2.2.2.2.2))) hP hD [] [0, 1, 2, 3, 4, 5, 6, 7, 8, 9] [0, 1, 2, 3, 4, 5, 6, 7, 8, 9] rfl rfl (by decide) (by decide) hk1 hFc hP1 hD1 rfl (by decide) rfl
                      clear hP hD hPc hDc hFc hP1 hD1 hk1 hz1 ht hvm hG
                      obtain ⟨hP, hD⟩ := hJ
                      refine lv_iconst (v := nI 2) hx hb dX3_quarrel_117 (by decide) ?_
                      refine cki hF (fun hi hF => ?_)
                      refine va_iast (D := (dC, dI)) hx hb hK hP hD hS 2 0 rfl rfl hi dX3_quarrel_118 (fun H locs hP hD hS => ?_)
                      have hP : va_P (dC, dI) vwCl (cwM cI b (tW.1, (upd (upd r88 r100.toNatClampNeg (nI 1)) r114.toNatClampNeg (nI 2)), tW.2.2.1, tW.2.2.2.1, tW.2.2.2.2.1, tW.2.2.2.2.2.1, tW.2.2.2.2.2.2.1, tW.2.2.2.2.2.2.2.1, tW.2.2.2.2.2.2.2.2.1, tW.2.2.2.2.2.2.2.2.2.1, tW.2.2.2.2.2.2.2.2.2.2.1, tW.2.2.2.2.2.2.2.2.2.2.2.1, tW.2.2.2.2.2.2.2.2.2.2.2.2.1, tW.2.2.2.2.2.2.2.2.2.2.2.2.2.1, tW.2.2.2.2.2.2.2.2.2.2.2.2.2.2)) H := hP
                      have hD : va_D A (cwM cI b (tW.1, (upd (upd r88 r100.toNatClampNeg (nI 1)) r114.toNatClampNeg (nI 2)), tW.2.2.1, tW.2.2.2.1, tW.2.2.2.2.1, tW.2.2.2.2.2.1, tW.2.2.2.2.2.2.1, tW.2.2.2.2.2.2.2.1, tW.2.2.2.2.2.2.2.2.1, tW.2.2.2.2.2.2.2.2.2.1, tW.2.2.2.2.2.2.2.2.2.2.1, tW.2.2.2.2.2.2.2.2.2.2.2.1, tW.2.2.2.2.2.2.2.2.2.2.2.2.1, tW.2.2.2.2.2.2.2.2.2.2.2.2.2.1, tW.2.2.2.2.2.2.2.2.2.2.2.2.2.2)) := hD
                      refine lv_aload_n hx hb dX3_quarrel_119 rfl (lv_at hl 0 rfl) ?_
                      refine lv_iconst (v := nI 1) hx hb dX3_quarrel_120 (by decide) ?_
                      refine lv_iload_n hx hb dX3_quarrel_121 rfl (lv_at hl 1 rfl) ?_
                      refine lv_ishl hx hb dX3_quarrel_122 ?_
                      have hPc := hP.sub (ws' := (cwM cI b (tW.1, (upd (upd r88 r100.toNatClampNeg (nI 1)) r114.toNatClampNeg (nI 2)), tW.2.2.1, tW.2.2.2.1, tW.2.2.2.2.1, tW.2.2.2.2.2.1, tW.2.2.2.2.2.2.1, tW.2.2.2.2.2.2.2.1, tW.2.2.2.2.2.2.2.2.1, tW.2.2.2.2.2.2.2.2.2.1, tW.2.2.2.2.2.2.2.2.2.2.1, tW.2.2.2.2.2.2.2.2.2.2.2.1, tW.2.2.2.2.2.2.2.2.2.2.2.2.1, tW.2.2.2.2.2.2.2.2.2.2.2.2.2.1, tW.2.2.2.2.2.2.2.2.2.2.2.2.2.2))) [0, 1, 2, 3, 4, 5, 6, 7, 8, 9] rfl
                      have hDc := hD.sub (ws' := (cwM cI b (tW.1, (upd (upd r88 r100.toNatClampNeg (nI 1)) r114.toNatClampNeg (nI 2)), tW.2.2.1, tW.2.2.2.1, tW.2.2.2.2.1, tW.2.2.2.2.2.1, tW.2.2.2.2.2.2.1, tW.2.2.2.2.2.2.2.1, tW.2.2.2.2.2.2.2.2.1, tW.2.2.2.2.2.2.2.2.2.1, tW.2.2.2.2.2.2.2.2.2.2.1, tW.2.2.2.2.2.2.2.2.2.2.2.1, tW.2.2.2.2.2.2.2.2.2.2.2.2.1, tW.2.2.2.2.2.2.2.2.2.2.2.2.2.1, tW.2.2.2.2.2.2.2.2.2.2.2.2.2.2))) [0, 1, 2, 3, 4, 5, 6, 7, 8, 9] (by decide) rfl
                      have hFc := va_free (wc := (cwM cI b (tW.1, (upd (upd r88 r100.toNatClampNeg (nI 1)) r114.toNatClampNeg (nI 2)), tW.2.2.1, tW.2.2.2.1, tW.2.2.2.2.1, tW.2.2.2.2.2.1, tW.2.2.2.2.2.2.1, tW.2.2.2.2.2.2.2.1, tW.2.2.2.2.2.2.2.2.1, tW.2.2.2.2.2.2.2.2.2.1, tW.2.2.2.2.2.2.2.2.2.2.1, tW.2.2.2.2.2.2.2.2.2.2.2.1, tW.2.2.2.2.2.2.2.2.2.2.2.2.1, tW.2.2.2.2.2.2.2.2.2.2.2.2.2.1, tW.2.2.2.2.2.2.2.2.2.2.2.2.2.2))) hD hS hA [0, 1, 2, 3, 4, 5, 6, 7, 8, 9] rfl
                      refine bd hF (fun r123 hG hF => ?_)
                      refine va_calli (va_runV (As := [.int ((nI 1) <<< (x1 &&& 31))]) (rest := []) ⟨hx, hb, hml, hown, hts⟩ (c_X3_lastsIn l dC dI cI sf H.size N b (tW.1, (upd (upd r88 r100.toNatClampNeg (nI 1)) r114.toNatClampNeg (nI 2)), tW.2.2.1, tW.2.2.2.1, tW.2.2.2.2.1, tW.2.2.2.2.2.1, tW.2.2.2.2.2.2.1, tW.2.2.2.2.2.2.2.1, tW.2.2.2.2.2.2.2.2.1, tW.2.2.2.2.2.2.2.2.2.1, tW.2.2.2.2.2.2.2.2.2.2.1, tW.2.2.2.2.2.2.2.2.2.2.2.1, tW.2.2.2.2.2.2.2.2.2.2.2.2.1, tW.2.2.2.2.2.2.2.2.2.2.2.2.2.1, tW.2.2.2.2.2.2.2.2.2.2.2.2.2.2) ((nI 1) <<< (x1 &&& 31)) r123 hG) (cwV 1 hts gX3_quarrel_X3_lastsIn rfl rfl rfl (by decide +kernel) ⟨Nat.le_of_ble_eq_true rfl, Nat.le_of_ble_eq_true rfl⟩) ⟨fun a U g mk q => ⟨q.1, q.2.call⟩, va_recv hK hP (ci := 3) (q0 := 0) rfl rfl, fun U hU hW => ⟨rfl, PB.of hU hW hPc hK hDc hNN hSF hS hFc⟩⟩ rfl rfl hl.1 rfl (lv_room (Nat.le_of_ble_eq_true rfl)) dX3_quarrel_123 ⟨Nat.le_of_ble_eq_true rfl, Nat.le_of_ble_eq_true rfl⟩) hS (fun q _ h => hFc q h) hFc (fun z_ u_ t H locs ht hvm hw hB hz1 hk1 hS => ?_)
                      subst z_
                      obtain ⟨hP1, hD1⟩ := hB
                      rw [ht] at hP1
                      have hJ := vb_join (ws' := (cwM cI b r123.2)) hP hD [0, 1, 2, 3, 4, 5, 6, 7, 8, 9] [] [0, 1, 2, 3, 4, 5, 6, 7, 8, 9] rfl rfl (by decide) (by decide) hk1 hFc hP1 hD1 rfl (by decide) rfl
                      clear hP hD hPc hDc hFc hP1 hD1 hk1 hz1 ht hvm hG
                      obtain ⟨hP, hD⟩ := hJ
                      refine lv_istore (lv' := [(6, .int r123.1), (0, .ref (b 0)), (1, .int x1), (2, .int x2), (3, .int x3), (4, .int x4), (5, .int x5)]) hx hb dX3_quarrel_126 hl (by decide) rfl (fun ls hl => ?_)
                      refine lv_iload hx hb dX3_quarrel_128 (lv_at hl 0 rfl) ?_
                      refine vW_have (fun R av Q => ∀ (tW : MS) (x1 : Int32) (x2 : Int32) (x3 : Int32) (x4 : Int32) (x5 : Int32) (z0 : Int32) (H : Heap) (locs : List Loc) (ls : Array Slot), F_X3_quarrel_140 N (fun ctW cx1 cx2 cx3 cx4 => F_X3_quarrel_21 N n21 ctW cx1 cx2 cx3 cx4) (fun ctW cx1 cx2 cx3 cx4 cx5 => F_X3_quarrel_35 N (fun ctW cx1 cx2 cx3 cx4 => F_X3_quarrel_21 N n21 ctW cx1 cx2 cx3 cx4) n35 ctW cx1 cx2 cx3 cx4 cx5) tW x1 x2 x3 x4 x5 z0 = some r → va_P (dC, dI) vwCl (cwM cI b tW) H → va_D A (cwM cI b tW) → va_S A s.heap H locs → lv_has ls 7 [(0, .ref (b 0)), (1, .int x1), (2, .int x2), (3, .int x3), (4, .int x4), (5, .int x5)] → W p l e R s m av below meth c H locs 0 0 Q (F0 m 140 ls [.int z0])) ?_ (fun kJ140 => ?_)
                      · 
                        intro tW x1 x2 x3 x4 x5 z0 H locs ls hF hP hD hS hl
                        rw [F_X3_quarrel_140] at hF
                        refine lv_istore (lv' := [(6, .int z0), (0, .ref (b 0)), (1, .int x1), (2, .int x2), (3, .int x3), (4, .int x4), (5, .int x5)]) hx hb dX3_quarrel_140 hl (by decide) rfl (fun ls hl => ?_)
                        refine lv_iload hx hb dX3_quarrel_142 (lv_at hl 0 rfl) ?_
                        refine lv_iload_n hx hb dX3_quarrel_144 rfl (lv_at hl 4 rfl) ?_
                        refine lv_icmp_gt (tgt := 151) hx hb dX3_quarrel_145 (by decide) (fun hc => ?_) (fun hc => ?_)
                        · have hF := ift hc hF
                          refine lv_bipush (v := nI 10) hx hb dX3_quarrel_151 (by decide) ?_
                          refine lv_iload hx hb dX3_quarrel_153 (lv_at hl 5 rfl) ?_
                          refine lv_imul hx hb dX3_quarrel_155 ?_
                          refine lv_iload hx hb dX3_quarrel_156 (lv_at hl 6 rfl) ?_
                          refine lv_iadd hx hb dX3_quarrel_158 ?_
                          refine lv_istore_n (lv' := [(2, .int (((nI 10) * x4) + x5)), (6, .int z0), (0, .ref (b 0)), (1, .int x1), (3, .int x3), (4, .int x4), (5, .int x5)]) hx hb dX3_quarrel_159 rfl hl (by decide) rfl (fun ls hl => ?_)
                          refine lv_iload hx hb dX3_quarrel_160 (lv_at hl 1 rfl) ?_
                          refine lv_istore_n (lv' := [(3, .int z0), (2, .int (((nI 10) * x4) + x5)), (6, .int z0), (0, .ref (b 0)), (1, .int x1), (4, .int x4), (5, .int x5)]) hx hb dX3_quarrel_162 rfl hl (by decide) rfl (fun ls hl => ?_)
                          exact kJ163 tW x1 (((nI 10) * x4) + x5) z0 x4 x5 _ _ _ hF hP hD hS (lv_sub hl [3, 4, 1, 0, 5, 6] rfl)
                        · have hF := iff_ hc hF
                          refine lv_goto (tgt := 163) hx hb dX3_quarrel_148 (by decide) ?_
                          exact kJ163 tW x1 x2 x3 x4 x5 _ _ _ hF hP hD hS (lv_sub hl [1, 2, 3, 4, 5, 6] rfl)
                      refine lv_if_ge (tgt := 138) hx hb dX3_quarrel_130 (by decide) (fun hc => ?_) (fun hc => ?_)
                      · have hF := ift hc hF
                        refine lv_iload hx hb dX3_quarrel_138 (lv_at hl 0 rfl) ?_
                        exact kJ140 r123.2 x1 x2 x3 x4 x5 r123.1 _ _ _ hF hP hD hS (lv_sub hl [1, 2, 3, 4, 5, 6] rfl)
                      · have hF := iff_ hc hF
                        refine lv_bipush (v := nI 61) hx hb dX3_quarrel_133 (by decide) ?_
                        refine lv_goto (tgt := 140) hx hb dX3_quarrel_135 (by decide) ?_
                        exact kJ140 r123.2 x1 x2 x3 x4 x5 (nI 61) _ _ _ hF hP hD hS (lv_sub hl [1, 2, 3, 4, 5, 6] rfl)
                    · have hF := iff_ (fun h => h hc) hF
                      refine lv_goto (tgt := 163) hx hb dX3_quarrel_77 (by decide) ?_
                      exact kJ163 tW x1 x2 x3 x4 x5 _ _ _ hF hP hD hS (lv_sub hl [0, 1, 2, 3, 4, 5] rfl)
          refine lv_istore (lv' := [(5, .int (nI 0)), (0, .ref (b 0)), (1, .int x1), (2, .int x2), (3, .int x3), (4, .int x4)]) hx hb dX3_quarrel_33 hl (by decide) rfl (fun ls hl => ?_)
          exact kJ35 N tW x1 x2 x3 x4 (nI 0) _ _ _ hF hP hD hS (lv_sub hl [1, 2, 3, 4, 5, 0] rfl)
    refine lv_istore (lv' := [(4, .int (nI 0)), (3, .int (-1)), (2, .int (-9)), (0, .ref (b 0)), (1, .int p1)]) hx hb dX3_quarrel_19 hl (by decide) rfl (fun ls hl => ?_)
    exact kJ21 N tW p1 (-9) (-1) (nI 0) _ _ _ hF hP hD hS (lv_sub hl [3, 4, 2, 1, 0] rfl)
  · have hF := iff_ (fun h => h hc) hF
    refine lv_aload_n hx hb dX3_quarrel_7 rfl (lv_at hl 0 rfl) ?_
    refine lv_iconst (v := (-1)) hx hb dX3_quarrel_8 (by decide) ?_
    have hPc := hP.sub (ws' := (cwM cI b tW)) [0, 1, 2, 3, 4, 5, 6, 7, 8, 9] rfl
    have hDc := hD.sub (ws' := (cwM cI b tW)) [0, 1, 2, 3, 4, 5, 6, 7, 8, 9] (by decide) rfl
    have hFc := va_free (wc := (cwM cI b tW)) hD hS hA [0, 1, 2, 3, 4, 5, 6, 7, 8, 9] rfl
    refine bd hF (fun r9 hG hF => ?_)
    refine va_calli (va_runV (As := [.int (-1)]) (rest := []) ⟨hx, hb, hml, hown, hts⟩ (c_X3_no l dC dI cI sf H.size N b tW (-1) r9 hG) (cwV 1 hts gX3_quarrel_X3_no rfl rfl rfl (by decide +kernel) ⟨Nat.le_of_ble_eq_true rfl, Nat.le_of_ble_eq_true rfl⟩) ⟨fun a U g mk q => ⟨q.1, q.2.call⟩, va_recv hK hP (ci := 3) (q0 := 0) rfl rfl, fun U hU hW => ⟨rfl, PB.of hU hW hPc hK hDc hNN hSF hS hFc⟩⟩ rfl rfl hl.1 rfl (lv_room (Nat.le_of_ble_eq_true rfl)) dX3_quarrel_9 ⟨Nat.le_of_ble_eq_true rfl, Nat.le_of_ble_eq_true rfl⟩) hS (fun q _ h => hFc q h) hFc (fun z_ u_ t H locs ht hvm hw hB hz1 hk1 hS => ?_)
    subst z_
    obtain ⟨hP1, hD1⟩ := hB
    rw [ht] at hP1
    have hJ := vb_join (ws' := (cwM cI b r9.2)) hP hD [0, 1, 2, 3, 4, 5, 6, 7, 8, 9] [] [0, 1, 2, 3, 4, 5, 6, 7, 8, 9] rfl rfl (by decide) (by decide) hk1 hFc hP1 hD1 rfl (by decide) rfl
    clear hP hD hPc hDc hFc hP1 hD1 hk1 hz1 ht hvm hG
    obtain ⟨hP, hD⟩ := hJ
    obtain rfl := Option.some.inj hF
    exact W.iret (v := r9.1) hx hb hr (fun t ht hW => ⟨⟨r9.1, (), rfl, rfl, QB.of ht hP hD⟩, hS.F ht⟩) hS.2.2 dX3_quarrel_12
theorem inw_X3_readsKind_X3 : ∀ w ∈ u_ws RX3 TX3 15, w ∈ wsX3_readsKind := fun _ h => List.mem_cons_of_mem _ (List.mem_append_right _ h)
set_option maxHeartbeats 4000000 in
set_option maxRecDepth 100000 in
theorem c_X3_readsKind (l : Launch) (dC : Nat → ClassId) (dI : Nat → Nat → Nat) (cI : ClassId) (sf : SFP) (sz : Nat) (N : Nat) (b : Nat → Nat) (tW : MS) (r : (Int32 × MS)) (hF : F_X3_readsKind N tW = some r) : Met l yX3_readsKind wsX3_readsKind ({ frames := 1, cells := 0, slots := 0, locals := 20 }) (va_Pc [.ref (b 0)] (PB (dC, dI) cI (cwM cI b tW) sz sf)) (va_Qi (fun (z : Int32) (_ : Unit) => z = r.1) (fun _ t => QB (dC, dI) (cwM cI b r.2) (va_A (cwM cI b tW) sz) t) (va_A (cwM cI b tW) sz)) 0 0 (va_A (cwM cI b tW) sz) := by
  refine Met.ofW (cc := cX3_readsKind) (maxL := 1) (ret := (some .boolean)) (by decide) rfl ?_
  intro p e s m args below meth c s₁ B hml hv
  obtain ⟨rfl, hsz, hP, hK, hD0, hNN, hSF⟩ := hv
  have hx := B.exec
  have hb := B.bytes
  have hr := B.returns
  have hts := atoms_spec (ws := wsX3_readsKind) B.pre
  have hown : s.vm.findClass RX3 = some m.cls := findClass_of_methodNamed B.named
  have hlocks := B.notSynchronized
  subst hsz
  have hD := hD0.self (sz := s.heap.size)
  generalize hAe : va_A (cwM cI b tW) s.heap.size = A at hD hSF ⊢
  have hA : ∀ q : Nat, s.heap.size ≤ q → A q := fun q h => by rw [← hAe]; exact Or.inr h
  clear hAe hD0
  have hS : va_S A s.heap s.heap [] := va_S.rf
  have hl := lv_entry ([.ref (b 0)]) (n := 1) (Nat.le_of_ble_eq_true rfl)
  rw [lg_entry_eq]
  generalize (lg_sl ([.ref (b 0)]) ++ List.replicate (1 - (lg_sl ([.ref (b 0)])).length) Slot.unset).toArray = ls at hl ⊢
  have hl : lv_has ls 1 [(0, .ref (b 0))] := hl
  rw [F_X3_readsKind] at hF
  refine lv_aload_n hx hb dX3_readsKind_0 rfl (lv_at hl 0 rfl) ?_
  refine va_get (D := (dC, dI)) (ci := 3) (v := .ref (b 8)) (C := RX3) (T := TX3) (N := 15) hx hb hts inw_X3_readsKind_X3 hown hK hP 0 rfl rfl 12 (by decide) (hts (.fieldLink RX3 31 "DeniedOfEachOtherModel" "numbers" "[I") (List.mem_of_getElem? (i := 1) rfl)) (fun _ h9 => h9) rfl dX3_readsKind_1 ?_
  refine lv_iconst (v := nI 0) hx hb dX3_readsKind_4 (by decide) ?_
  refine lv_aload_n hx hb dX3_readsKind_5 rfl (lv_at hl 0 rfl) ?_
  have hPc := hP.sub (ws' := (cwM cI b tW)) [0, 1, 2, 3, 4, 5, 6, 7, 8, 9] rfl
  have hDc := hD.sub (ws' := (cwM cI b tW)) [0, 1, 2, 3, 4, 5, 6, 7, 8, 9] (by decide) rfl
  have hFc := va_free (wc := (cwM cI b tW)) hD hS hA [0, 1, 2, 3, 4, 5, 6, 7, 8, 9] rfl
  refine bd hF (fun r6 hG hF => ?_)
  refine va_calli (va_runV (As := []) (rest := [.int (nI 0), .ref (b 8)]) ⟨hx, hb, hml, hown, hts⟩ (c_X3_here l dC dI cI sf s.heap.size N b tW r6 hG) (cwV 0 hts gX3_readsKind_X3_here rfl rfl rfl (by decide +kernel) ⟨Nat.le_of_ble_eq_true rfl, Nat.le_of_ble_eq_true rfl⟩) ⟨fun a U g mk q => ⟨q.1, q.2.call⟩, va_recv hK hP (ci := 3) (q0 := 0) rfl rfl, fun U hU hW => ⟨rfl, PB.of hU hW hPc hK hDc hNN hSF hS hFc⟩⟩ rfl rfl hl.1 rfl (lv_room (Nat.le_of_ble_eq_true rfl)) dX3_readsKind_6 ⟨Nat.le_of_ble_eq_true rfl, Nat.le_of_ble_eq_true rfl⟩) hS (fun q _ h => hFc q h) hFc (fun z_ u_ t H locs ht hvm hw hB hz1 hk1 hS => ?_)
  subst z_
  obtain ⟨hP1, hD1⟩ := hB
  rw [ht] at hP1
  have hJ := vb_join (ws' := (cwM cI b tW)) hP hD [0, 1, 2, 3, 4, 5, 6, 7, 8, 9] [] [0, 1, 2, 3, 4, 5, 6, 7, 8, 9] rfl rfl (by decide) (by decide) hk1 hFc hP1 hD1 rfl (by decide) rfl
  clear hP hD hPc hDc hFc hP1 hD1 hk1 hz1 ht hvm hG
  obtain ⟨hP, hD⟩ := hJ
  have hPc := hP.sub (ws' := ([] : va_W)) [] rfl
  have hDc := hD.sub (ws' := ([] : va_W)) [] (by decide) rfl
  have hFc := va_free (wc := ([] : va_W)) hD hS hA [] rfl
  refine bd hF (fun r9 hG hF => ?_)
  refine va_calli (va_runS (As := [.int r6]) (rest := [.int (nI 0), .ref (b 8)]) ⟨hx, hb, hml, hown, hts⟩ (c_X3_kindBy l dC dI cI sf H.size N  r6 r9 hG) (va_cwS 1 hts gX3_readsKind_X3_kindBy rfl rfl rfl (by decide +kernel) ⟨Nat.le_of_ble_eq_true rfl, Nat.le_of_ble_eq_true rfl⟩) ⟨fun a U g mk q => ⟨q.1, q.2.call⟩, fun U hU hW => ⟨rfl, PB.of hU hW hPc hK hDc hNN hSF hS hFc⟩⟩ rfl rfl hl.1 rfl (lv_room (Nat.le_of_ble_eq_true rfl)) dX3_readsKind_9 ⟨Nat.le_of_ble_eq_true rfl, Nat.le_of_ble_eq_true rfl⟩) hS (fun q _ h => hFc q h) hFc (fun z_ u_ t H locs ht hvm hw hB hz1 hk1 hS => ?_)
  subst z_
  obtain ⟨hP1, hD1⟩ := hB
  rw [ht] at hP1
  have hJ := vb_join (ws' := (cwM cI b tW)) hP hD [] [0, 1, 2, 3, 4, 5, 6, 7, 8, 9] [0, 1, 2, 3, 4, 5, 6, 7, 8, 9] rfl rfl (by decide) (by decide) hk1 hFc hP1 hD1 rfl (by decide) rfl
  clear hP hD hPc hDc hFc hP1 hD1 hk1 hz1 ht hvm hG
  obtain ⟨hP, hD⟩ := hJ
  refine va_iast (D := (dC, dI)) hx hb hK hP hD hS 8 0 rfl rfl (vp_in_nI (n := 0) (N := 3) (by decide) (by decide)) dX3_readsKind_12 (fun H locs hP hD hS => ?_)
  have hP : va_P (dC, dI) vwCl (cwM cI b (tW.1, tW.2.1, tW.2.2.1, tW.2.2.2.1, tW.2.2.2.2.1, tW.2.2.2.2.2.1, tW.2.2.2.2.2.2.1, tW.2.2.2.2.2.2.2.1, tW.2.2.2.2.2.2.2.2.1, tW.2.2.2.2.2.2.2.2.2.1, tW.2.2.2.2.2.2.2.2.2.2.1, tW.2.2.2.2.2.2.2.2.2.2.2.1, (upd tW.2.2.2.2.2.2.2.2.2.2.2.2.1 (nI 0).toNatClampNeg r9), tW.2.2.2.2.2.2.2.2.2.2.2.2.2.1, tW.2.2.2.2.2.2.2.2.2.2.2.2.2.2)) H := hP
  have hD : va_D A (cwM cI b (tW.1, tW.2.1, tW.2.2.1, tW.2.2.2.1, tW.2.2.2.2.1, tW.2.2.2.2.2.1, tW.2.2.2.2.2.2.1, tW.2.2.2.2.2.2.2.1, tW.2.2.2.2.2.2.2.2.1, tW.2.2.2.2.2.2.2.2.2.1, tW.2.2.2.2.2.2.2.2.2.2.1, tW.2.2.2.2.2.2.2.2.2.2.2.1, (upd tW.2.2.2.2.2.2.2.2.2.2.2.2.1 (nI 0).toNatClampNeg r9), tW.2.2.2.2.2.2.2.2.2.2.2.2.2.1, tW.2.2.2.2.2.2.2.2.2.2.2.2.2.2)) := hD
  refine lv_aload_n hx hb dX3_readsKind_13 rfl (lv_at hl 0 rfl) ?_
  refine lv_dup hx hb dX3_readsKind_14 rfl ?_
  refine va_get (D := (dC, dI)) (ci := 3) (v := .int tW.2.2.2.2.2.2.2.2.2.2.1) (C := RX3) (T := TX3) (N := 15) hx hb hts inw_X3_readsKind_X3 hown hK hP 0 rfl rfl 10 (by decide) (hts (.fieldLink RX3 94 "DeniedOfEachOtherModel" "place" "I") (List.mem_of_getElem? (i := 2) rfl)) (fun _ h9 => h9) rfl dX3_readsKind_15 ?_
  refine lv_aload_n hx hb dX3_readsKind_18 rfl (lv_at hl 0 rfl) ?_
  refine va_get (D := (dC, dI)) (ci := 3) (v := .ref (b 8)) (C := RX3) (T := TX3) (N := 15) hx hb hts inw_X3_readsKind_X3 hown hK hP 0 rfl rfl 12 (by decide) (hts (.fieldLink RX3 31 "DeniedOfEachOtherModel" "numbers" "[I") (List.mem_of_getElem? (i := 1) rfl)) (fun _ h9 => h9) rfl dX3_readsKind_19 ?_
  refine lv_iconst (v := nI 0) hx hb dX3_readsKind_22 (by decide) ?_
  refine va_iald (D := (dC, dI)) hx hb hK hP 8 0 rfl rfl (vp_in_nI (n := 0) (N := 3) (by decide) (by decide)) dX3_readsKind_23 ?_
  refine vW_have (fun R av Q => ∀ (tW : MS) (z1 : Int32) (z2 : Int32) (H : Heap) (locs : List Loc) (ls : Array Slot), F_X3_readsKind_32 N tW z1 z2 = some r → va_P (dC, dI) vwCl (cwM cI b tW) H → va_D A (cwM cI b tW) → va_S A s.heap H locs → lv_has ls 1 [(0, .ref (b 0))] → W p l e R s m av below meth c H locs 0 0 Q (F0 m 32 ls [.int z2, .int z1, .ref (b 0)])) ?_ (fun kJ32 => ?_)
  · 
    intro tW z1 z2 H locs ls hF hP hD hS hl
    rw [F_X3_readsKind_32] at hF
    refine lv_iadd hx hb dX3_readsKind_32 ?_
    refine va_put (D := (dC, dI)) (ci := 3) (v := .int (z1 + z2)) (ty := .int) (C := RX3) (T := TX3) (N := 15) hx hb hts inw_X3_readsKind_X3 tyX3 tyX3_ok nmX3 hown hK hP hD hS 0 rfl rfl 10 (by decide) (hts (.fieldLink RX3 94 "DeniedOfEachOtherModel" "place" "I") (List.mem_of_getElem? (i := 2) rfl)) (fun _ h9 => h9) rfl (by decide +kernel) rfl rfl (Nat.le_of_ble_eq_true rfl) dX3_readsKind_33 (fun H locs hP hD hS => ?_)
    have hP : va_P (dC, dI) vwCl (cwM cI b (tW.1, tW.2.1, tW.2.2.1, tW.2.2.2.1, tW.2.2.2.2.1, tW.2.2.2.2.2.1, tW.2.2.2.2.2.2.1, tW.2.2.2.2.2.2.2.1, tW.2.2.2.2.2.2.2.2.1, tW.2.2.2.2.2.2.2.2.2.1, (z1 + z2), tW.2.2.2.2.2.2.2.2.2.2.2.1, tW.2.2.2.2.2.2.2.2.2.2.2.2.1, tW.2.2.2.2.2.2.2.2.2.2.2.2.2.1, tW.2.2.2.2.2.2.2.2.2.2.2.2.2.2)) H := hP
    have hD : va_D A (cwM cI b (tW.1, tW.2.1, tW.2.2.1, tW.2.2.2.1, tW.2.2.2.2.1, tW.2.2.2.2.2.1, tW.2.2.2.2.2.2.1, tW.2.2.2.2.2.2.2.1, tW.2.2.2.2.2.2.2.2.1, tW.2.2.2.2.2.2.2.2.2.1, (z1 + z2), tW.2.2.2.2.2.2.2.2.2.2.2.1, tW.2.2.2.2.2.2.2.2.2.2.2.2.1, tW.2.2.2.2.2.2.2.2.2.2.2.2.2.1, tW.2.2.2.2.2.2.2.2.2.2.2.2.2.2)) := hD
    refine lv_aload_n hx hb dX3_readsKind_36 rfl (lv_at hl 0 rfl) ?_
    refine va_get (D := (dC, dI)) (ci := 3) (v := .ref (b 8)) (C := RX3) (T := TX3) (N := 15) hx hb hts inw_X3_readsKind_X3 hown hK hP 0 rfl rfl 12 (by decide) (hts (.fieldLink RX3 31 "DeniedOfEachOtherModel" "numbers" "[I") (List.mem_of_getElem? (i := 1) rfl)) (fun _ h9 => h9) rfl dX3_readsKind_37 ?_
    refine lv_iconst (v := nI 0) hx hb dX3_readsKind_40 (by decide) ?_
    refine va_iald (D := (dC, dI)) hx hb hK hP 8 0 rfl rfl (vp_in_nI (n := 0) (N := 3) (by decide) (by decide)) dX3_readsKind_41 ?_
    refine lv_if_lt (tgt := 49) hx hb dX3_readsKind_42 (by decide) (fun hc => ?_) (fun hc => ?_)
    · have hF := ift hc hF
      refine lv_iconst (v := nI 0) hx hb dX3_readsKind_49 (by decide) ?_
      obtain rfl := Option.some.inj hF
      exact W.zret (v := (nI 0)) (ty := .boolean) hx hb hr (by decide +kernel) (fun t ht hW => ⟨⟨(nI 0), (), rfl, rfl, QB.of ht hP hD⟩, hS.F ht⟩) hS.2.2 dX3_readsKind_50
    · have hF := iff_ hc hF
      refine lv_iconst (v := nI 1) hx hb dX3_readsKind_45 (by decide) ?_
      refine lv_goto (tgt := 50) hx hb dX3_readsKind_46 (by decide) ?_
      obtain rfl := Option.some.inj hF
      exact W.zret (v := (nI 1)) (ty := .boolean) hx hb hr (by decide +kernel) (fun t ht hW => ⟨⟨(nI 1), (), rfl, rfl, QB.of ht hP hD⟩, hS.F ht⟩) hS.2.2 dX3_readsKind_50
  refine lv_if_ge (tgt := 31) hx hb dX3_readsKind_24 (by decide) (fun hc => ?_) (fun hc => ?_)
  · have hF := ift hc hF
    refine lv_iconst (v := nI 1) hx hb dX3_readsKind_31 (by decide) ?_
    exact kJ32 (tW.1, tW.2.1, tW.2.2.1, tW.2.2.2.1, tW.2.2.2.2.1, tW.2.2.2.2.2.1, tW.2.2.2.2.2.2.1, tW.2.2.2.2.2.2.2.1, tW.2.2.2.2.2.2.2.2.1, tW.2.2.2.2.2.2.2.2.2.1, tW.2.2.2.2.2.2.2.2.2.2.1, tW.2.2.2.2.2.2.2.2.2.2.2.1, (upd tW.2.2.2.2.2.2.2.2.2.2.2.2.1 (nI 0).toNatClampNeg r9), tW.2.2.2.2.2.2.2.2.2.2.2.2.2.1, tW.2.2.2.2.2.2.2.2.2.2.2.2.2.2) tW.2.2.2.2.2.2.2.2.2.2.1 (nI 1) _ _ _ hF hP hD hS (lv_sub hl [0] rfl)
  · have hF := iff_ hc hF
    refine lv_iconst (v := nI 0) hx hb dX3_readsKind_27 (by decide) ?_
    refine lv_goto (tgt := 32) hx hb dX3_readsKind_28 (by decide) ?_
    exact kJ32 (tW.1, tW.2.1, tW.2.2.1, tW.2.2.2.1, tW.2.2.2.2.1, tW.2.2.2.2.2.1, tW.2.2.2.2.2.2.1, tW.2.2.2.2.2.2.2.1, tW.2.2.2.2.2.2.2.2.1, tW.2.2.2.2.2.2.2.2.2.1, tW.2.2.2.2.2.2.2.2.2.2.1, tW.2.2.2.2.2.2.2.2.2.2.2.1, (upd tW.2.2.2.2.2.2.2.2.2.2.2.2.1 (nI 0).toNatClampNeg r9), tW.2.2.2.2.2.2.2.2.2.2.2.2.2.1, tW.2.2.2.2.2.2.2.2.2.2.2.2.2.2) tW.2.2.2.2.2.2.2.2.2.2.1 (nI 0) _ _ _ hF hP hD hS (lv_sub hl [0] rfl)
theorem inw_X3_readsNumber_X3 : ∀ w ∈ u_ws RX3 TX3 15, w ∈ wsX3_readsNumber := fun _ h => List.mem_cons_of_mem _ (List.mem_append_right _ h)
set_option maxHeartbeats 4000000 in
set_option maxRecDepth 100000 in
theorem c_X3_readsNumber (l : Launch) (dC : Nat → ClassId) (dI : Nat → Nat → Nat) (cI : ClassId) (sf : SFP) (sz : Nat) (N : Nat) (b : Nat → Nat) (tW : MS) (p1 : Int32) (p2 : Int32) (r : (Int32 × MS)) (hF : F_X3_readsNumber N tW p1 p2 = some r) : Met l yX3_readsNumber wsX3_readsNumber ({ frames := 2, cells := 0, slots := 0, locals := 42 }) (va_Pc [.ref (b 0), .int p1, .int p2] (PB (dC, dI) cI (cwM cI b tW) sz sf)) (va_Qi (fun (z : Int32) (_ : Unit) => z = r.1) (fun _ t => QB (dC, dI) (cwM cI b r.2) (va_A (cwM cI b tW) sz) t) (va_A (cwM cI b tW) sz)) 0 0 (va_A (cwM cI b tW) sz) := by
  refine Met.ofW (cc := cX3_readsNumber) (maxL := 4) (ret := (some .boolean)) (by decide) rfl ?_
  intro p e s m args below meth c s₁ B hml hv
  obtain ⟨rfl, hsz, hP, hK, hD0, hNN, hSF⟩ := hv
  have hx := B.exec
  have hb := B.bytes
  have hr := B.returns
  have hts := atoms_spec (ws := wsX3_readsNumber) B.pre
  have hown : s.vm.findClass RX3 = some m.cls := findClass_of_methodNamed B.named
  have hlocks := B.notSynchronized
  subst hsz
  have hD := hD0.self (sz := s.heap.size)
  generalize hAe : va_A (cwM cI b tW) s.heap.size = A at hD hSF ⊢
  have hA : ∀ q : Nat, s.heap.size ≤ q → A q := fun q h => by rw [← hAe]; exact Or.inr h
  clear hAe hD0
  have hS : va_S A s.heap s.heap [] := va_S.rf
  have hl := lv_entry ([.ref (b 0), .int p1, .int p2]) (n := 4) (Nat.le_of_ble_eq_true rfl)
  rw [lg_entry_eq]
  generalize (lg_sl ([.ref (b 0), .int p1, .int p2]) ++ List.replicate (4 - (lg_sl ([.ref (b 0), .int p1, .int p2])).length) Slot.unset).toArray = ls at hl ⊢
  have hl : lv_has ls 4 [(0, .ref (b 0)), (1, .int p1), (2, .int p2)] := hl
  rw [F_X3_readsNumber] at hF
  refine lv_aload_n hx hb dX3_readsNumber_0 rfl (lv_at hl 0 rfl) ?_
  refine va_get (D := (dC, dI)) (ci := 3) (v := .ref (b 8)) (C := RX3) (T := TX3) (N := 15) hx hb hts inw_X3_readsNumber_X3 hown hK hP 0 rfl rfl 12 (by decide) (hts (.fieldLink RX3 31 "DeniedOfEachOtherModel" "numbers" "[I") (List.mem_of_getElem? (i := 1) rfl)) (fun _ h9 => h9) rfl dX3_readsNumber_1 ?_
  refine lv_iload_n hx hb dX3_readsNumber_4 rfl (lv_at hl 1 rfl) ?_
  refine lv_iconst (v := nI 0) hx hb dX3_readsNumber_5 (by decide) ?_
  refine cki hF (fun hi hF => ?_)
  refine va_iast (D := (dC, dI)) hx hb hK hP hD hS 8 0 rfl rfl hi dX3_readsNumber_6 (fun H locs hP hD hS => ?_)
  have hP : va_P (dC, dI) vwCl (cwM cI b (tW.1, tW.2.1, tW.2.2.1, tW.2.2.2.1, tW.2.2.2.2.1, tW.2.2.2.2.2.1, tW.2.2.2.2.2.2.1, tW.2.2.2.2.2.2.2.1, tW.2.2.2.2.2.2.2.2.1, tW.2.2.2.2.2.2.2.2.2.1, tW.2.2.2.2.2.2.2.2.2.2.1, tW.2.2.2.2.2.2.2.2.2.2.2.1, (upd tW.2.2.2.2.2.2.2.2.2.2.2.2.1 p1.toNatClampNeg (nI 0)), tW.2.2.2.2.2.2.2.2.2.2.2.2.2.1, tW.2.2.2.2.2.2.2.2.2.2.2.2.2.2)) H := hP
  have hD : va_D A (cwM cI b (tW.1, tW.2.1, tW.2.2.1, tW.2.2.2.1, tW.2.2.2.2.1, tW.2.2.2.2.2.1, tW.2.2.2.2.2.2.1, tW.2.2.2.2.2.2.2.1, tW.2.2.2.2.2.2.2.2.1, tW.2.2.2.2.2.2.2.2.2.1, tW.2.2.2.2.2.2.2.2.2.2.1, tW.2.2.2.2.2.2.2.2.2.2.2.1, (upd tW.2.2.2.2.2.2.2.2.2.2.2.2.1 p1.toNatClampNeg (nI 0)), tW.2.2.2.2.2.2.2.2.2.2.2.2.2.1, tW.2.2.2.2.2.2.2.2.2.2.2.2.2.2)) := hD
  refine lv_iconst (v := nI 0) hx hb dX3_readsNumber_7 (by decide) ?_
  refine vW_have (fun R av Q => ∀ (n9 : Nat) (tW : MS) (x1 : Int32) (x2 : Int32) (x3 : Int32) (H : Heap) (locs : List Loc) (ls : Array Slot), F_X3_readsNumber_9 N n9 tW x1 x2 x3 = some r → va_P (dC, dI) vwCl (cwM cI b tW) H → va_D A (cwM cI b tW) → va_S A s.heap H locs → lv_has ls 4 [(0, .ref (b 0)), (1, .int x1), (2, .int x2), (3, .int x3)] → W p l e R s m av below meth c H locs 0 0 Q (F0 m 9 ls [])) ?_ (fun kJ9 => ?_)
  · intro n9
    induction n9 with
    | zero => intro tW x1 x2 x3 H locs ls hF; exact nn hF
    | succ n9 ih9 =>
      intro tW x1 x2 x3 H locs ls hF hP hD hS hl
      rw [F_X3_readsNumber_9] at hF
      refine lv_iload_n hx hb dX3_readsNumber_9 rfl (lv_at hl 3 rfl) ?_
      refine lv_iload_n hx hb dX3_readsNumber_10 rfl (lv_at hl 2 rfl) ?_
      refine lv_icmp_ge (tgt := 62) hx hb dX3_readsNumber_11 (by decide) (fun hc => ?_) (fun hc => ?_)
      · have hF := ift hc hF
        refine lv_iconst (v := nI 1) hx hb dX3_readsNumber_62 (by decide) ?_
        obtain rfl := Option.some.inj hF
        exact W.zret (v := (nI 1)) (ty := .boolean) hx hb hr (by decide +kernel) (fun t ht hW => ⟨⟨(nI 1), (), rfl, rfl, QB.of ht hP hD⟩, hS.F ht⟩) hS.2.2 dX3_readsNumber_63
      · have hF := iff_ hc hF
        refine lv_aload_n hx hb dX3_readsNumber_14 rfl (lv_at hl 0 rfl) ?_
        have hPc := hP.sub (ws' := (cwM cI b tW)) [0, 1, 2, 3, 4, 5, 6, 7, 8, 9] rfl
        have hDc := hD.sub (ws' := (cwM cI b tW)) [0, 1, 2, 3, 4, 5, 6, 7, 8, 9] (by decide) rfl
        have hFc := va_free (wc := (cwM cI b tW)) hD hS hA [0, 1, 2, 3, 4, 5, 6, 7, 8, 9] rfl
        refine bd hF (fun r15 hG hF => ?_)
        refine va_calli (va_runV (As := []) (rest := []) ⟨hx, hb, hml, hown, hts⟩ (c_X3_isDigit l dC dI cI sf H.size N b tW r15 hG) (cwV 0 hts gX3_readsNumber_X3_isDigit rfl rfl rfl (by decide +kernel) ⟨Nat.le_of_ble_eq_true rfl, Nat.le_of_ble_eq_true rfl⟩) ⟨fun a U g mk q => ⟨q.1, q.2.call⟩, va_recv hK hP (ci := 3) (q0 := 0) rfl rfl, fun U hU hW => ⟨rfl, PB.of hU hW hPc hK hDc hNN hSF hS hFc⟩⟩ rfl rfl hl.1 rfl (lv_room (Nat.le_of_ble_eq_true rfl)) dX3_readsNumber_15 ⟨Nat.le_of_ble_eq_true rfl, Nat.le_of_ble_eq_true rfl⟩) hS (fun q _ h => hFc q h) hFc (fun z_ u_ t H locs ht hvm hw hB hz1 hk1 hS => ?_)
        subst z_
        obtain ⟨hP1, hD1⟩ := hB
        rw [ht] at hP1
        have hJ := vb_join (ws' := (cwM cI b tW)) hP hD [0, 1, 2, 3, 4, 5, 6, 7, 8, 9] [] [0, 1, 2, 3, 4, 5, 6, 7, 8, 9] rfl rfl (by decide) (by decide) hk1 hFc hP1 hD1 rfl (by decide) rfl
        clear hP hD hPc hDc hFc hP1 hD1 hk1 hz1 ht hvm hG
        obtain ⟨hP, hD⟩ := hJ
        refine lv_if_ne (tgt := 23) hx hb dX3_readsNumber_18 (by decide) (fun hc => ?_) (fun hc => ?_)
        · have hF := ift hc hF
          refine lv_aload_n hx hb dX3_readsNumber_23 rfl (lv_at hl 0 rfl) ?_
          refine va_get (D := (dC, dI)) (ci := 3) (v := .ref (b 8)) (C := RX3) (T := TX3) (N := 15) hx hb hts inw_X3_readsNumber_X3 hown hK hP 0 rfl rfl 12 (by decide) (hts (.fieldLink RX3 31 "DeniedOfEachOtherModel" "numbers" "[I") (List.mem_of_getElem? (i := 1) rfl)) (fun _ h9 => h9) rfl dX3_readsNumber_24 ?_
          refine lv_iload_n hx hb dX3_readsNumber_27 rfl (lv_at hl 1 rfl) ?_
          refine lv_bipush (v := nI 10) hx hb dX3_readsNumber_28 (by decide) ?_
          refine lv_aload_n hx hb dX3_readsNumber_30 rfl (lv_at hl 0 rfl) ?_
          refine va_get (D := (dC, dI)) (ci := 3) (v := .ref (b 8)) (C := RX3) (T := TX3) (N := 15) hx hb hts inw_X3_readsNumber_X3 hown hK hP 0 rfl rfl 12 (by decide) (hts (.fieldLink RX3 31 "DeniedOfEachOtherModel" "numbers" "[I") (List.mem_of_getElem? (i := 1) rfl)) (fun _ h9 => h9) rfl dX3_readsNumber_31 ?_
          refine lv_iload_n hx hb dX3_readsNumber_34 rfl (lv_at hl 1 rfl) ?_
          refine cki hF (fun hi hF => ?_)
          refine va_iald (D := (dC, dI)) hx hb hK hP 8 0 rfl rfl hi dX3_readsNumber_35 ?_
          refine lv_imul hx hb dX3_readsNumber_36 ?_
          refine lv_aload_n hx hb dX3_readsNumber_37 rfl (lv_at hl 0 rfl) ?_
          have hPc := hP.sub (ws' := (cwM cI b tW)) [0, 1, 2, 3, 4, 5, 6, 7, 8, 9] rfl
          have hDc := hD.sub (ws' := (cwM cI b tW)) [0, 1, 2, 3, 4, 5, 6, 7, 8, 9] (by decide) rfl
          have hFc := va_free (wc := (cwM cI b tW)) hD hS hA [0, 1, 2, 3, 4, 5, 6, 7, 8, 9] rfl
          refine bd hF (fun r38 hG hF => ?_)
          refine va_calli (va_runV (As := []) (rest := [.int ((nI 10) * (tW.2.2.2.2.2.2.2.2.2.2.2.2.1 x1.toNatClampNeg)), .int x1, .ref (b 8)]) ⟨hx, hb, hml, hown, hts⟩ (c_X3_here l dC dI cI sf H.size N b tW r38 hG) (cwV 0 hts gX3_readsNumber_X3_here rfl rfl rfl (by decide +kernel) ⟨Nat.le_of_ble_eq_true rfl, Nat.le_of_ble_eq_true rfl⟩) ⟨fun a U g mk q => ⟨q.1, q.2.call⟩, va_recv hK hP (ci := 3) (q0 := 0) rfl rfl, fun U hU hW => ⟨rfl, PB.of hU hW hPc hK hDc hNN hSF hS hFc⟩⟩ rfl rfl hl.1 rfl (lv_room (Nat.le_of_ble_eq_true rfl)) dX3_readsNumber_38 ⟨Nat.le_of_ble_eq_true rfl, Nat.le_of_ble_eq_true rfl⟩) hS (fun q _ h => hFc q h) hFc (fun z_ u_ t H locs ht hvm hw hB hz1 hk1 hS => ?_)
          subst z_
          obtain ⟨hP1, hD1⟩ := hB
          rw [ht] at hP1
          have hJ := vb_join (ws' := (cwM cI b tW)) hP hD [0, 1, 2, 3, 4, 5, 6, 7, 8, 9] [] [0, 1, 2, 3, 4, 5, 6, 7, 8, 9] rfl rfl (by decide) (by decide) hk1 hFc hP1 hD1 rfl (by decide) rfl
          clear hP hD hPc hDc hFc hP1 hD1 hk1 hz1 ht hvm hG
          obtain ⟨hP, hD⟩ := hJ
          refine lv_iadd hx hb dX3_readsNumber_41 ?_
          refine lv_bipush (v := nI 48) hx hb dX3_readsNumber_42 (by decide) ?_
          refine lv_isub hx hb dX3_readsNumber_44 ?_
          refine cki hF (fun hi hF => ?_)
          refine va_iast (D := (dC, dI)) hx hb hK hP hD hS 8 0 rfl rfl hi dX3_readsNumber_45 (fun H locs hP hD hS => ?_)
          have hP : va_P (dC, dI) vwCl (cwM cI b (tW.1, tW.2.1, tW.2.2.1, tW.2.2.2.1, tW.2.2.2.2.1, tW.2.2.2.2.2.1, tW.2.2.2.2.2.2.1, tW.2.2.2.2.2.2.2.1, tW.2.2.2.2.2.2.2.2.1, tW.2.2.2.2.2.2.2.2.2.1, tW.2.2.2.2.2.2.2.2.2.2.1, tW.2.2.2.2.2.2.2.2.2.2.2.1, (upd tW.2.2.2.2.2.2.2.2.2.2.2.2.1 x1.toNatClampNeg ((((nI 10) * (tW.2.2.2.2.2.2.2.2.2.2.2.2.1 x1.toNatClampNeg)) + r38) - (nI 48))), tW.2.2.2.2.2.2.2.2.2.2.2.2.2.1, tW.2.2.2.2.2.2.2.2.2.2.2.2.2.2)) H := hP
          have hD : va_D A (cwM cI b (tW.1, tW.2.1, tW.2.2.1, tW.2.2.2.1, tW.2.2.2.2.1, tW.2.2.2.2.2.1, tW.2.2.2.2.2.2.1, tW.2.2.2.2.2.2.2.1, tW.2.2.2.2.2.2.2.2.1, tW.2.2.2.2.2.2.2.2.2.1, tW.2.2.2.2.2.2.2.2.2.2.1, tW.2.2.2.2.2.2.2.2.2.2.2.1, (upd tW.2.2.2.2.2.2.2.2.2.2.2.2.1 x1.toNatClampNeg ((((nI 10) * (tW.2.2.2.2.2.2.2.2.2.2.2.2.1 x1.toNatClampNeg)) + r38) - (nI 48))), tW.2.2.2.2.2.2.2.2.2.2.2.2.2.1, tW.2.2.2.2.2.2.2.2.2.2.2.2.2.2)) := hD
          refine lv_aload_n hx hb dX3_readsNumber_46 rfl (lv_at hl 0 rfl) ?_
          refine lv_dup hx hb dX3_readsNumber_47 rfl ?_
          refine va_get (D := (dC, dI)) (ci := 3) (v := .int tW.2.2.2.2.2.2.2.2.2.2.1) (C := RX3) (T := TX3) (N := 15) hx hb hts inw_X3_readsNumber_X3 hown hK hP 0 rfl rfl 10 (by decide) (hts (.fieldLink RX3 94 "DeniedOfEachOtherModel" "place" "I") (List.mem_of_getElem? (i := 2) rfl)) (fun _ h9 => h9) rfl dX3_readsNumber_48 ?_
          refine lv_iconst (v := nI 1) hx hb dX3_readsNumber_51 (by decide) ?_
          refine lv_iadd hx hb dX3_readsNumber_52 ?_
          refine va_put (D := (dC, dI)) (ci := 3) (v := .int (tW.2.2.2.2.2.2.2.2.2.2.1 + (nI 1))) (ty := .int) (C := RX3) (T := TX3) (N := 15) hx hb hts inw_X3_readsNumber_X3 tyX3 tyX3_ok nmX3 hown hK hP hD hS 0 rfl rfl 10 (by decide) (hts (.fieldLink RX3 94 "DeniedOfEachOtherModel" "place" "I") (List.mem_of_getElem? (i := 2) rfl)) (fun _ h9 => h9) rfl (by decide +kernel) rfl rfl (Nat.le_of_ble_eq_true rfl) dX3_readsNumber_53 (fun H locs hP hD hS => ?_)
          have hP : va_P (dC, dI) vwCl (cwM cI b (tW.1, tW.2.1, tW.2.2.1, tW.2.2.2.1, tW.2.2.2.2.1, tW.2.2.2.2.2.1, tW.2.2.2.2.2.2.1, tW.2.2.2.2.2.2.2.1, tW.2.2.2.2.2.2.2.2.1, tW.2.2.2.2.2.2.2.2.2.1, (tW.2.2.2.2.2.2.2.2.2.2.1 + (nI 1)), tW.2.2.2.2.2.2.2.2.2.2.2.1, (upd tW.2.2.2.2.2.2.2.2.2.2.2.2.1 x1.toNatClampNeg ((((nI 10) * (tW.2.2.2.2.2.2.2.2.2.2.2.2.1 x1.toNatClampNeg)) + r38) - (nI 48))), tW.2.2.2.2.2.2.2.2.2.2.2.2.2.1, tW.2.2.2.2.2.2.2.2.2.2.2.2.2.2)) H := hP
          have hD : va_D A (cwM cI b (tW.1, tW.2.1, tW.2.2.1, tW.2.2.2.1, tW.2.2.2.2.1, tW.2.2.2.2.2.1, tW.2.2.2.2.2.2.1, tW.2.2.2.2.2.2.2.1, tW.2.2.2.2.2.2.2.2.1, tW.2.2.2.2.2.2.2.2.2.1, (tW.2.2.2.2.2.2.2.2.2.2.1 + (nI 1)), tW.2.2.2.2.2.2.2.2.2.2.2.1, (upd tW.2.2.2.2.2.2.2.2.2.2.2.2.1 x1.toNatClampNeg ((((nI 10) * (tW.2.2.2.2.2.2.2.2.2.2.2.2.1 x1.toNatClampNeg)) + r38) - (nI 48))), tW.2.2.2.2.2.2.2.2.2.2.2.2.2.1, tW.2.2.2.2.2.2.2.2.2.2.2.2.2.2)) := hD
          refine lv_iinc (v := x3 + (nI 1)) (lv' := [(3, .int (x3 + (nI 1))), (0, .ref (b 0)), (1, .int x1), (2, .int x2)]) hx hb dX3_readsNumber_56 hl (k := 3) rfl (by rfl) (by decide) rfl (fun ls hl => ?_)
          refine lv_goto (tgt := 9) hx hb dX3_readsNumber_59 (by decide) ?_
          exact ih9 (tW.1, tW.2.1, tW.2.2.1, tW.2.2.2.1, tW.2.2.2.2.1, tW.2.2.2.2.2.1, tW.2.2.2.2.2.2.1, tW.2.2.2.2.2.2.2.1, tW.2.2.2.2.2.2.2.2.1, tW.2.2.2.2.2.2.2.2.2.1, (tW.2.2.2.2.2.2.2.2.2.2.1 + (nI 1)), tW.2.2.2.2.2.2.2.2.2.2.2.1, (upd tW.2.2.2.2.2.2.2.2.2.2.2.2.1 x1.toNatClampNeg ((((nI 10) * (tW.2.2.2.2.2.2.2.2.2.2.2.2.1 x1.toNatClampNeg)) + r38) - (nI 48))), tW.2.2.2.2.2.2.2.2.2.2.2.2.2.1, tW.2.2.2.2.2.2.2.2.2.2.2.2.2.2) x1 x2 (x3 + (nI 1)) _ _ _ hF hP hD hS (lv_sub hl [1, 2, 3, 0] rfl)
        · have hF := iff_ (fun h => h hc) hF
          refine lv_iconst (v := nI 0) hx hb dX3_readsNumber_21 (by decide) ?_
          obtain rfl := Option.some.inj hF
          exact W.zret (v := (nI 0)) (ty := .boolean) hx hb hr (by decide +kernel) (fun t ht hW => ⟨⟨(nI 0), (), rfl, rfl, QB.of ht hP hD⟩, hS.F ht⟩) hS.2.2 dX3_readsNumber_22
  refine lv_istore_n (lv' := [(3, .int (nI 0)), (0, .ref (b 0)), (1, .int p1), (2, .int p2)]) hx hb dX3_readsNumber_8 rfl hl (by decide) rfl (fun ls hl => ?_)
  exact kJ9 N (tW.1, tW.2.1, tW.2.2.1, tW.2.2.2.1, tW.2.2.2.2.1, tW.2.2.2.2.2.1, tW.2.2.2.2.2.2.1, tW.2.2.2.2.2.2.2.1, tW.2.2.2.2.2.2.2.2.1, tW.2.2.2.2.2.2.2.2.2.1, tW.2.2.2.2.2.2.2.2.2.2.1, tW.2.2.2.2.2.2.2.2.2.2.2.1, (upd tW.2.2.2.2.2.2.2.2.2.2.2.2.1 p1.toNatClampNeg (nI 0)), tW.2.2.2.2.2.2.2.2.2.2.2.2.2.1, tW.2.2.2.2.2.2.2.2.2.2.2.2.2.2) p1 p2 (nI 0) _ _ _ hF hP hD hS (lv_sub hl [1, 2, 3, 0] rfl)
theorem inw_X3_readsWords_X3 : ∀ w ∈ u_ws RX3 TX3 15, w ∈ wsX3_readsWords := fun _ h => List.mem_cons_of_mem _ (List.mem_append_right _ h)
set_option maxHeartbeats 4000000 in
set_option maxRecDepth 100000 in
theorem c_X3_readsWords (l : Launch) (dC : Nat → ClassId) (dI : Nat → Nat → Nat) (cI : ClassId) (sf : SFP) (sz : Nat) (N : Nat) (b : Nat → Nat) (tW : MS) (r : (Int32 × MS)) (hF : F_X3_readsWords N tW = some r) : Met l yX3_readsWords wsX3_readsWords ({ frames := 2, cells := 0, slots := 0, locals := 42 }) (va_Pc [.ref (b 0)] (PB (dC, dI) cI (cwM cI b tW) sz sf)) (va_Qi (fun (z : Int32) (_ : Unit) => z = r.1) (fun _ t => QB (dC, dI) (cwM cI b r.2) (va_A (cwM cI b tW) sz) t) (va_A (cwM cI b tW) sz)) 0 0 (va_A (cwM cI b tW) sz) := by
  refine Met.ofW (cc := cX3_readsWords) (maxL := 1) (ret := (some .boolean)) (by decide) rfl ?_
  intro p e s m args below meth c s₁ B hml hv
  obtain ⟨rfl, hsz, hP, hK, hD0, hNN, hSF⟩ := hv
  have hx := B.exec
  have hb := B.bytes
  have hr := B.returns
  have hts := atoms_spec (ws := wsX3_readsWords) B.pre
  have hown : s.vm.findClass RX3 = some m.cls := findClass_of_methodNamed B.named
  have hlocks := B.notSynchronized
  subst hsz
  have hD := hD0.self (sz := s.heap.size)
  generalize hAe : va_A (cwM cI b tW) s.heap.size = A at hD hSF ⊢
  have hA : ∀ q : Nat, s.heap.size ≤ q → A q := fun q h => by rw [← hAe]; exact Or.inr h
  clear hAe hD0
  have hS : va_S A s.heap s.heap [] := va_S.rf
  have hl := lv_entry ([.ref (b 0)]) (n := 1) (Nat.le_of_ble_eq_true rfl)
  rw [lg_entry_eq]
  generalize (lg_sl ([.ref (b 0)]) ++ List.replicate (1 - (lg_sl ([.ref (b 0)])).length) Slot.unset).toArray = ls at hl ⊢
  have hl : lv_has ls 1 [(0, .ref (b 0))] := hl
  rw [F_X3_readsWords] at hF
  refine lv_aload_n hx hb dX3_readsWords_0 rfl (lv_at hl 0 rfl) ?_
  refine lv_iconst (v := nI 0) hx hb dX3_readsWords_1 (by decide) ?_
  refine vW_have (fun R av Q => ∀ (n5 : Nat) (tW : MS) (H : Heap) (locs : List Loc) (ls : Array Slot), F_X3_readsWords_5 N n5 tW = some r → va_P (dC, dI) vwCl (cwM cI b tW) H → va_D A (cwM cI b tW) → va_S A s.heap H locs → lv_has ls 1 [(0, .ref (b 0))] → W p l e R s m av below meth c H locs 0 0 Q (F0 m 5 ls [])) ?_ (fun kJ5 => ?_)
  · intro n5
    induction n5 with
    | zero => intro tW H locs ls hF; exact nn hF
    | succ n5 ih5 =>
      intro tW H locs ls hF hP hD hS hl
      rw [F_X3_readsWords_5] at hF
      refine lv_aload_n hx hb dX3_readsWords_5 rfl (lv_at hl 0 rfl) ?_
      refine va_get (D := (dC, dI)) (ci := 3) (v := .int tW.2.2.2.2.2.2.2.2.2.2.2.1) (C := RX3) (T := TX3) (N := 15) hx hb hts inw_X3_readsWords_X3 hown hK hP 0 rfl rfl 11 (by decide) (hts (.fieldLink RX3 108 "DeniedOfEachOtherModel" "many" "I") (List.mem_of_getElem? (i := 1) rfl)) (fun _ h9 => h9) rfl dX3_readsWords_6 ?_
      refine lv_bipush (v := nI 8) hx hb dX3_readsWords_9 (by decide) ?_
      refine vW_have (fun R av Q => ∀ (tW : MS) (H : Heap) (locs : List Loc) (ls : Array Slot), F_X3_readsWords_60 N tW = some r → va_P (dC, dI) vwCl (cwM cI b tW) H → va_D A (cwM cI b tW) → va_S A s.heap H locs → lv_has ls 1 [(0, .ref (b 0))] → W p l e R s m av below meth c H locs 0 0 Q (F0 m 60 ls [])) ?_ (fun kJ60 => ?_)
      · 
        intro tW H locs ls hF hP hD hS hl
        rw [F_X3_readsWords_60] at hF
        refine lv_aload_n hx hb dX3_readsWords_60 rfl (lv_at hl 0 rfl) ?_
        refine va_get (D := (dC, dI)) (ci := 3) (v := .int tW.2.2.2.2.2.2.2.2.2.2.2.1) (C := RX3) (T := TX3) (N := 15) hx hb hts inw_X3_readsWords_X3 hown hK hP 0 rfl rfl 11 (by decide) (hts (.fieldLink RX3 108 "DeniedOfEachOtherModel" "many" "I") (List.mem_of_getElem? (i := 1) rfl)) (fun _ h9 => h9) rfl dX3_readsWords_61 ?_
        refine lv_if_le (tgt := 71) hx hb dX3_readsWords_64 (by decide) (fun hc => ?_) (fun hc => ?_)
        · have hF := ift hc hF
          refine lv_iconst (v := nI 0) hx hb dX3_readsWords_71 (by decide) ?_
          obtain rfl := Option.some.inj hF
          exact W.zret (v := (nI 0)) (ty := .boolean) hx hb hr (by decide +kernel) (fun t ht hW => ⟨⟨(nI 0), (), rfl, rfl, QB.of ht hP hD⟩, hS.F ht⟩) hS.2.2 dX3_readsWords_72
        · have hF := iff_ hc hF
          refine lv_iconst (v := nI 1) hx hb dX3_readsWords_67 (by decide) ?_
          refine lv_goto (tgt := 72) hx hb dX3_readsWords_68 (by decide) ?_
          obtain rfl := Option.some.inj hF
          exact W.zret (v := (nI 1)) (ty := .boolean) hx hb hr (by decide +kernel) (fun t ht hW => ⟨⟨(nI 1), (), rfl, rfl, QB.of ht hP hD⟩, hS.F ht⟩) hS.2.2 dX3_readsWords_72
      refine lv_icmp_ge (tgt := 60) hx hb dX3_readsWords_11 (by decide) (fun hc => ?_) (fun hc => ?_)
      · have hF := ift hc hF
        exact kJ60 tW _ _ _ hF hP hD hS (lv_sub hl [0] rfl)
      · have hF := iff_ hc hF
        refine lv_aload_n hx hb dX3_readsWords_14 rfl (lv_at hl 0 rfl) ?_
        have hPc := hP.sub (ws' := (cwM cI b tW)) [0, 1, 2, 3, 4, 5, 6, 7, 8, 9] rfl
        have hDc := hD.sub (ws' := (cwM cI b tW)) [0, 1, 2, 3, 4, 5, 6, 7, 8, 9] (by decide) rfl
        have hFc := va_free (wc := (cwM cI b tW)) hD hS hA [0, 1, 2, 3, 4, 5, 6, 7, 8, 9] rfl
        refine bd hF (fun r15 hG hF => ?_)
        refine va_calli (va_runV (As := []) (rest := []) ⟨hx, hb, hml, hown, hts⟩ (c_X3_isDigit l dC dI cI sf H.size N b tW r15 hG) (cwV 0 hts gX3_readsWords_X3_isDigit rfl rfl rfl (by decide +kernel) ⟨Nat.le_of_ble_eq_true rfl, Nat.le_of_ble_eq_true rfl⟩) ⟨fun a U g mk q => ⟨q.1, q.2.call⟩, va_recv hK hP (ci := 3) (q0 := 0) rfl rfl, fun U hU hW => ⟨rfl, PB.of hU hW hPc hK hDc hNN hSF hS hFc⟩⟩ rfl rfl hl.1 rfl (lv_room (Nat.le_of_ble_eq_true rfl)) dX3_readsWords_15 ⟨Nat.le_of_ble_eq_true rfl, Nat.le_of_ble_eq_true rfl⟩) hS (fun q _ h => hFc q h) hFc (fun z_ u_ t H locs ht hvm hw hB hz1 hk1 hS => ?_)
        subst z_
        obtain ⟨hP1, hD1⟩ := hB
        rw [ht] at hP1
        have hJ := vb_join (ws' := (cwM cI b tW)) hP hD [0, 1, 2, 3, 4, 5, 6, 7, 8, 9] [] [0, 1, 2, 3, 4, 5, 6, 7, 8, 9] rfl rfl (by decide) (by decide) hk1 hFc hP1 hD1 rfl (by decide) rfl
        clear hP hD hPc hDc hFc hP1 hD1 hk1 hz1 ht hvm hG
        obtain ⟨hP, hD⟩ := hJ
        refine lv_if_eq (tgt := 60) hx hb dX3_readsWords_18 (by decide) (fun hc => ?_) (fun hc => ?_)
        · have hF := ift hc hF
          exact kJ60 tW _ _ _ hF hP hD hS (lv_sub hl [0] rfl)
        · have hF := iff_ hc hF
          refine lv_aload_n hx hb dX3_readsWords_21 rfl (lv_at hl 0 rfl) ?_
          refine va_get (D := (dC, dI)) (ci := 3) (v := .ref (b 9)) (C := RX3) (T := TX3) (N := 15) hx hb hts inw_X3_readsWords_X3 hown hK hP 0 rfl rfl 13 (by decide) (hts (.fieldLink RX3 34 "DeniedOfEachOtherModel" "told" "[I") (List.mem_of_getElem? (i := 2) rfl)) (fun _ h9 => h9) rfl dX3_readsWords_22 ?_
          refine lv_aload_n hx hb dX3_readsWords_25 rfl (lv_at hl 0 rfl) ?_
          refine va_get (D := (dC, dI)) (ci := 3) (v := .int tW.2.2.2.2.2.2.2.2.2.2.2.1) (C := RX3) (T := TX3) (N := 15) hx hb hts inw_X3_readsWords_X3 hown hK hP 0 rfl rfl 11 (by decide) (hts (.fieldLink RX3 108 "DeniedOfEachOtherModel" "many" "I") (List.mem_of_getElem? (i := 1) rfl)) (fun _ h9 => h9) rfl dX3_readsWords_26 ?_
          refine lv_aload_n hx hb dX3_readsWords_29 rfl (lv_at hl 0 rfl) ?_
          have hPc := hP.sub (ws' := (cwM cI b tW)) [0, 1, 2, 3, 4, 5, 6, 7, 8, 9] rfl
          have hDc := hD.sub (ws' := (cwM cI b tW)) [0, 1, 2, 3, 4, 5, 6, 7, 8, 9] (by decide) rfl
          have hFc := va_free (wc := (cwM cI b tW)) hD hS hA [0, 1, 2, 3, 4, 5, 6, 7, 8, 9] rfl
          refine bd hF (fun r30 hG hF => ?_)
          refine va_calli (va_runV (As := []) (rest := [.int tW.2.2.2.2.2.2.2.2.2.2.2.1, .ref (b 9)]) ⟨hx, hb, hml, hown, hts⟩ (c_X3_here l dC dI cI sf H.size N b tW r30 hG) (cwV 0 hts gX3_readsWords_X3_here rfl rfl rfl (by decide +kernel) ⟨Nat.le_of_ble_eq_true rfl, Nat.le_of_ble_eq_true rfl⟩) ⟨fun a U g mk q => ⟨q.1, q.2.call⟩, va_recv hK hP (ci := 3) (q0 := 0) rfl rfl, fun U hU hW => ⟨rfl, PB.of hU hW hPc hK hDc hNN hSF hS hFc⟩⟩ rfl rfl hl.1 rfl (lv_room (Nat.le_of_ble_eq_true rfl)) dX3_readsWords_30 ⟨Nat.le_of_ble_eq_true rfl, Nat.le_of_ble_eq_true rfl⟩) hS (fun q _ h => hFc q h) hFc (fun z_ u_ t H locs ht hvm hw hB hz1 hk1 hS => ?_)
          subst z_
          obtain ⟨hP1, hD1⟩ := hB
          rw [ht] at hP1
          have hJ := vb_join (ws' := (cwM cI b tW)) hP hD [0, 1, 2, 3, 4, 5, 6, 7, 8, 9] [] [0, 1, 2, 3, 4, 5, 6, 7, 8, 9] rfl rfl (by decide) (by decide) hk1 hFc hP1 hD1 rfl (by decide) rfl
          clear hP hD hPc hDc hFc hP1 hD1 hk1 hz1 ht hvm hG
          obtain ⟨hP, hD⟩ := hJ
          refine lv_bipush (v := nI 48) hx hb dX3_readsWords_33 (by decide) ?_
          refine lv_isub hx hb dX3_readsWords_35 ?_
          refine cki hF (fun hi hF => ?_)
          refine va_iast (D := (dC, dI)) hx hb hK hP hD hS 9 0 rfl rfl hi dX3_readsWords_36 (fun H locs hP hD hS => ?_)
          have hP : va_P (dC, dI) vwCl (cwM cI b (tW.1, tW.2.1, tW.2.2.1, tW.2.2.2.1, tW.2.2.2.2.1, tW.2.2.2.2.2.1, tW.2.2.2.2.2.2.1, tW.2.2.2.2.2.2.2.1, tW.2.2.2.2.2.2.2.2.1, tW.2.2.2.2.2.2.2.2.2.1, tW.2.2.2.2.2.2.2.2.2.2.1, tW.2.2.2.2.2.2.2.2.2.2.2.1, tW.2.2.2.2.2.2.2.2.2.2.2.2.1, (upd tW.2.2.2.2.2.2.2.2.2.2.2.2.2.1 tW.2.2.2.2.2.2.2.2.2.2.2.1.toNatClampNeg (r30 - (nI 48))), tW.2.2.2.2.2.2.2.2.2.2.2.2.2.2)) H := hP
          have hD : va_D A (cwM cI b (tW.1, tW.2.1, tW.2.2.1, tW.2.2.2.1, tW.2.2.2.2.1, tW.2.2.2.2.2.1, tW.2.2.2.2.2.2.1, tW.2.2.2.2.2.2.2.1, tW.2.2.2.2.2.2.2.2.1, tW.2.2.2.2.2.2.2.2.2.1, tW.2.2.2.2.2.2.2.2.2.2.1, tW.2.2.2.2.2.2.2.2.2.2.2.1, tW.2.2.2.2.2.2.2.2.2.2.2.2.1, (upd tW.2.2.2.2.2.2.2.2.2.2.2.2.2.1 tW.2.2.2.2.2.2.2.2.2.2.2.1.toNatClampNeg (r30 - (nI 48))), tW.2.2.2.2.2.2.2.2.2.2.2.2.2.2)) := hD
          refine lv_aload_n hx hb dX3_readsWords_37 rfl (lv_at hl 0 rfl) ?_
          refine lv_dup hx hb dX3_readsWords_38 rfl ?_
          refine va_get (D := (dC, dI)) (ci := 3) (v := .int tW.2.2.2.2.2.2.2.2.2.2.2.1) (C := RX3) (T := TX3) (N := 15) hx hb hts inw_X3_readsWords_X3 hown hK hP 0 rfl rfl 11 (by decide) (hts (.fieldLink RX3 108 "DeniedOfEachOtherModel" "many" "I") (List.mem_of_getElem? (i := 1) rfl)) (fun _ h9 => h9) rfl dX3_readsWords_39 ?_
          refine lv_iconst (v := nI 1) hx hb dX3_readsWords_42 (by decide) ?_
          refine lv_iadd hx hb dX3_readsWords_43 ?_
          refine va_put (D := (dC, dI)) (ci := 3) (v := .int (tW.2.2.2.2.2.2.2.2.2.2.2.1 + (nI 1))) (ty := .int) (C := RX3) (T := TX3) (N := 15) hx hb hts inw_X3_readsWords_X3 tyX3 tyX3_ok nmX3 hown hK hP hD hS 0 rfl rfl 11 (by decide) (hts (.fieldLink RX3 108 "DeniedOfEachOtherModel" "many" "I") (List.mem_of_getElem? (i := 1) rfl)) (fun _ h9 => h9) rfl (by decide +kernel) rfl rfl (Nat.le_of_ble_eq_true rfl) dX3_readsWords_44 (fun H locs hP hD hS => ?_)
          have hP : va_P (dC, dI) vwCl (cwM cI b (tW.1, tW.2.1, tW.2.2.1, tW.2.2.2.1, tW.2.2.2.2.1, tW.2.2.2.2.2.1, tW.2.2.2.2.2.2.1, tW.2.2.2.2.2.2.2.1, tW.2.2.2.2.2.2.2.2.1, tW.2.2.2.2.2.2.2.2.2.1, tW.2.2.2.2.2.2.2.2.2.2.1, (tW.2.2.2.2.2.2.2.2.2.2.2.1 + (nI 1)), tW.2.2.2.2.2.2.2.2.2.2.2.2.1, (upd tW.2.2.2.2.2.2.2.2.2.2.2.2.2.1 tW.2.2.2.2.2.2.2.2.2.2.2.1.toNatClampNeg (r30 - (nI 48))), tW.2.2.2.2.2.2.2.2.2.2.2.2.2.2)) H := hP
          have hD : va_D A (cwM cI b (tW.1, tW.2.1, tW.2.2.1, tW.2.2.2.1, tW.2.2.2.2.1, tW.2.2.2.2.2.1, tW.2.2.2.2.2.2.1, tW.2.2.2.2.2.2.2.1, tW.2.2.2.2.2.2.2.2.1, tW.2.2.2.2.2.2.2.2.2.1, tW.2.2.2.2.2.2.2.2.2.2.1, (tW.2.2.2.2.2.2.2.2.2.2.2.1 + (nI 1)), tW.2.2.2.2.2.2.2.2.2.2.2.2.1, (upd tW.2.2.2.2.2.2.2.2.2.2.2.2.2.1 tW.2.2.2.2.2.2.2.2.2.2.2.1.toNatClampNeg (r30 - (nI 48))), tW.2.2.2.2.2.2.2.2.2.2.2.2.2.2)) := hD
          refine lv_aload_n hx hb dX3_readsWords_47 rfl (lv_at hl 0 rfl) ?_
          refine lv_dup hx hb dX3_readsWords_48 rfl ?_
          refine va_get (D := (dC, dI)) (ci := 3) (v := .int tW.2.2.2.2.2.2.2.2.2.2.1) (C := RX3) (T := TX3) (N := 15) hx hb hts inw_X3_readsWords_X3 hown hK hP 0 rfl rfl 10 (by decide) (hts (.fieldLink RX3 94 "DeniedOfEachOtherModel" "place" "I") (List.mem_of_getElem? (i := 3) rfl)) (fun _ h9 => h9) rfl dX3_readsWords_49 ?_
          refine lv_iconst (v := nI 1) hx hb dX3_readsWords_52 (by decide) ?_
          refine lv_iadd hx hb dX3_readsWords_53 ?_
          refine va_put (D := (dC, dI)) (ci := 3) (v := .int (tW.2.2.2.2.2.2.2.2.2.2.1 + (nI 1))) (ty := .int) (C := RX3) (T := TX3) (N := 15) hx hb hts inw_X3_readsWords_X3 tyX3 tyX3_ok nmX3 hown hK hP hD hS 0 rfl rfl 10 (by decide) (hts (.fieldLink RX3 94 "DeniedOfEachOtherModel" "place" "I") (List.mem_of_getElem? (i := 3) rfl)) (fun _ h9 => h9) rfl (by decide +kernel) rfl rfl (Nat.le_of_ble_eq_true rfl) dX3_readsWords_54 (fun H locs hP hD hS => ?_)
          have hP : va_P (dC, dI) vwCl (cwM cI b (tW.1, tW.2.1, tW.2.2.1, tW.2.2.2.1, tW.2.2.2.2.1, tW.2.2.2.2.2.1, tW.2.2.2.2.2.2.1, tW.2.2.2.2.2.2.2.1, tW.2.2.2.2.2.2.2.2.1, tW.2.2.2.2.2.2.2.2.2.1, (tW.2.2.2.2.2.2.2.2.2.2.1 + (nI 1)), (tW.2.2.2.2.2.2.2.2.2.2.2.1 + (nI 1)), tW.2.2.2.2.2.2.2.2.2.2.2.2.1, (upd tW.2.2.2.2.2.2.2.2.2.2.2.2.2.1 tW.2.2.2.2.2.2.2.2.2.2.2.1.toNatClampNeg (r30 - (nI 48))), tW.2.2.2.2.2.2.2.2.2.2.2.2.2.2)) H := hP
          have hD : va_D A (cwM cI b (tW.1, tW.2.1, tW.2.2.1, tW.2.2.2.1, tW.2.2.2.2.1, tW.2.2.2.2.2.1, tW.2.2.2.2.2.2.1, tW.2.2.2.2.2.2.2.1, tW.2.2.2.2.2.2.2.2.1, tW.2.2.2.2.2.2.2.2.2.1, (tW.2.2.2.2.2.2.2.2.2.2.1 + (nI 1)), (tW.2.2.2.2.2.2.2.2.2.2.2.1 + (nI 1)), tW.2.2.2.2.2.2.2.2.2.2.2.2.1, (upd tW.2.2.2.2.2.2.2.2.2.2.2.2.2.1 tW.2.2.2.2.2.2.2.2.2.2.2.1.toNatClampNeg (r30 - (nI 48))), tW.2.2.2.2.2.2.2.2.2.2.2.2.2.2)) := hD
          refine lv_goto (tgt := 5) hx hb dX3_readsWords_57 (by decide) ?_
          exact ih5 (tW.1, tW.2.1, tW.2.2.1, tW.2.2.2.1, tW.2.2.2.2.1, tW.2.2.2.2.2.1, tW.2.2.2.2.2.2.1, tW.2.2.2.2.2.2.2.1, tW.2.2.2.2.2.2.2.2.1, tW.2.2.2.2.2.2.2.2.2.1, (tW.2.2.2.2.2.2.2.2.2.2.1 + (nI 1)), (tW.2.2.2.2.2.2.2.2.2.2.2.1 + (nI 1)), tW.2.2.2.2.2.2.2.2.2.2.2.2.1, (upd tW.2.2.2.2.2.2.2.2.2.2.2.2.2.1 tW.2.2.2.2.2.2.2.2.2.2.2.1.toNatClampNeg (r30 - (nI 48))), tW.2.2.2.2.2.2.2.2.2.2.2.2.2.2) _ _ _ hF hP hD hS (lv_sub hl [0] rfl)
  refine va_put (D := (dC, dI)) (ci := 3) (v := .int (nI 0)) (ty := .int) (C := RX3) (T := TX3) (N := 15) hx hb hts inw_X3_readsWords_X3 tyX3 tyX3_ok nmX3 hown hK hP hD hS 0 rfl rfl 11 (by decide) (hts (.fieldLink RX3 108 "DeniedOfEachOtherModel" "many" "I") (List.mem_of_getElem? (i := 1) rfl)) (fun _ h9 => h9) rfl (by decide +kernel) rfl rfl (Nat.le_of_ble_eq_true rfl) dX3_readsWords_2 (fun H locs hP hD hS => ?_)
  have hP : va_P (dC, dI) vwCl (cwM cI b (tW.1, tW.2.1, tW.2.2.1, tW.2.2.2.1, tW.2.2.2.2.1, tW.2.2.2.2.2.1, tW.2.2.2.2.2.2.1, tW.2.2.2.2.2.2.2.1, tW.2.2.2.2.2.2.2.2.1, tW.2.2.2.2.2.2.2.2.2.1, tW.2.2.2.2.2.2.2.2.2.2.1, (nI 0), tW.2.2.2.2.2.2.2.2.2.2.2.2.1, tW.2.2.2.2.2.2.2.2.2.2.2.2.2.1, tW.2.2.2.2.2.2.2.2.2.2.2.2.2.2)) H := hP
  have hD : va_D A (cwM cI b (tW.1, tW.2.1, tW.2.2.1, tW.2.2.2.1, tW.2.2.2.2.1, tW.2.2.2.2.2.1, tW.2.2.2.2.2.2.1, tW.2.2.2.2.2.2.2.1, tW.2.2.2.2.2.2.2.2.1, tW.2.2.2.2.2.2.2.2.2.1, tW.2.2.2.2.2.2.2.2.2.2.1, (nI 0), tW.2.2.2.2.2.2.2.2.2.2.2.2.1, tW.2.2.2.2.2.2.2.2.2.2.2.2.2.1, tW.2.2.2.2.2.2.2.2.2.2.2.2.2.2)) := hD
  exact kJ5 N (tW.1, tW.2.1, tW.2.2.1, tW.2.2.2.1, tW.2.2.2.2.1, tW.2.2.2.2.2.1, tW.2.2.2.2.2.2.1, tW.2.2.2.2.2.2.2.1, tW.2.2.2.2.2.2.2.2.1, tW.2.2.2.2.2.2.2.2.2.1, tW.2.2.2.2.2.2.2.2.2.2.1, (nI 0), tW.2.2.2.2.2.2.2.2.2.2.2.2.1, tW.2.2.2.2.2.2.2.2.2.2.2.2.2.1, tW.2.2.2.2.2.2.2.2.2.2.2.2.2.2) _ _ _ hF hP hD hS (lv_sub hl [0] rfl)
