theorem inw_X3_lesserAll_X3 : ∀ w ∈ u_ws RX3 TX3 15, w ∈ wsX3_lesserAll := fun _ h => List.mem_cons_of_mem _ (List.mem_append_right _ h)
set_option maxHeartbeats 4000000 in
set_option maxRecDepth 100000 in
theorem c_X3_lesserAll (l : Launch) (dC : Nat → ClassId) (dI : Nat → Nat → Nat) (cI : ClassId) (sf : SFP) (sz : Nat) (N : Nat) (b : Nat → Nat) (tW : MS) (r : Int32) (hF : F_X3_lesserAll N tW = some r) : Met l yX3_lesserAll wsX3_lesserAll ({ frames := 3, cells := 0, slots := 0, locals := 66 }) (va_Pc [.ref (b 0)] (PB (dC, dI) cI (cwM cI b tW) sz sf)) (va_Qi (fun (z : Int32) (_ : Unit) => z = r) (fun _ t => QB (dC, dI) (cwM cI b tW) (va_A (cwM cI b tW) sz) t) (va_A (cwM cI b tW) sz)) 0 0 (va_A (cwM cI b tW) sz) := by
  refine Met.ofW (cc := cX3_lesserAll) (maxL := 3) (ret := (some .int)) (by decide) rfl ?_
  intro p e s m args below meth c s₁ B hml hv
  obtain ⟨rfl, hsz, hP, hK, hD0, hNN, hSF⟩ := hv
  have hx := B.exec
  have hb := B.bytes
  have hr := B.returns
  have hts := atoms_spec (ws := wsX3_lesserAll) B.pre
  have hown : s.vm.findClass RX3 = some m.cls := findClass_of_methodNamed B.named
  have hlocks := B.notSynchronized
  subst hsz
  have hD := hD0.self (sz := s.heap.size)
  generalize hAe : va_A (cwM cI b tW) s.heap.size = A at hD hSF ⊢
  have hA : ∀ q : Nat, s.heap.size ≤ q → A q := fun q h => by rw [← hAe]; exact Or.inr h
  clear hAe hD0
  have hS : va_S A s.heap s.heap [] := va_S.rf
  have hl := lv_entry ([.ref (b 0)]) (n := 3) (Nat.le_of_ble_eq_true rfl)
  rw [lg_entry_eq]
  generalize (lg_sl ([.ref (b 0)]) ++ List.replicate (3 - (lg_sl ([.ref (b 0)])).length) Slot.unset).toArray = ls at hl ⊢
  have hl : lv_has ls 3 [(0, .ref (b 0))] := hl
  rw [F_X3_lesserAll] at hF
  refine lv_iconst (v := nI 0) hx hb dX3_lesserAll_0 (by decide) ?_
  refine lv_istore_n (lv' := [(1, .int (nI 0)), (0, .ref (b 0))]) hx hb dX3_lesserAll_1 rfl hl (by decide) rfl (fun ls hl => ?_)
  refine lv_iconst (v := nI 0) hx hb dX3_lesserAll_2 (by decide) ?_
  refine vW_have (fun R av Q => ∀ (n4 : Nat) (x1 : Int32) (x2 : Int32) (H : Heap) (locs : List Loc) (ls : Array Slot), F_X3_lesserAll_4 N tW n4 x1 x2 = some r → va_P (dC, dI) vwCl (cwM cI b tW) H → va_D A (cwM cI b tW) → va_S A s.heap H locs → lv_has ls 3 [(0, .ref (b 0)), (1, .int x1), (2, .int x2)] → W p l e R s m av below meth c H locs 0 0 Q (F0 m 4 ls [])) ?_ (fun kJ4 => ?_)
  · intro n4
    induction n4 with
    | zero => intro x1 x2 H locs ls hF; exact nn hF
    | succ n4 ih4 =>
      intro x1 x2 H locs ls hF hP hD hS hl
      rw [F_X3_lesserAll_4] at hF
      refine lv_iload_n hx hb dX3_lesserAll_4 rfl (lv_at hl 2 rfl) ?_
      refine lv_bipush (v := nI 8) hx hb dX3_lesserAll_5 (by decide) ?_
      refine lv_icmp_ge (tgt := 40) hx hb dX3_lesserAll_7 (by decide) (fun hc => ?_) (fun hc => ?_)
      · have hF := ift hc hF
        refine lv_iload_n hx hb dX3_lesserAll_40 rfl (lv_at hl 1 rfl) ?_
        obtain rfl := Option.some.inj hF
        exact W.iret (v := x1) hx hb hr (fun t ht hW => ⟨⟨x1, (), rfl, rfl, QB.of ht hP hD⟩, hS.F ht⟩) hS.2.2 dX3_lesserAll_41
      · have hF := iff_ hc hF
        refine lv_iload_n hx hb dX3_lesserAll_10 rfl (lv_at hl 1 rfl) ?_
        refine lv_aload_n hx hb dX3_lesserAll_11 rfl (lv_at hl 0 rfl) ?_
        refine va_get (D := (dC, dI)) (ci := 3) (v := .ref (b 1)) (C := RX3) (T := TX3) (N := 15) hx hb hts inw_X3_lesserAll_X3 hown hK hP 0 rfl rfl 0 (by decide) (hts (.fieldLink RX3 9 "DeniedOfEachOtherModel" "s" "[I") (List.mem_of_getElem? (i := 1) rfl)) (fun _ h9 => h9) rfl dX3_lesserAll_12 ?_
        refine lv_iload_n hx hb dX3_lesserAll_15 rfl (lv_at hl 2 rfl) ?_
        refine lv_iconst (v := nI 1) hx hb dX3_lesserAll_16 (by decide) ?_
        have hPc := hP.sub (ws' := (cwA cI (b 1) tW.1)) [1] rfl
        have hDc := hD.sub (ws' := (cwA cI (b 1) tW.1)) [1] (by decide) rfl
        have hFc := va_free (wc := (cwA cI (b 1) tW.1)) hD hS hA [1] rfl
        refine bd hF (fun r17 hG hF => ?_)
        refine va_calli (va_runS (As := [.ref (b 1), .int x2, .int (nI 1)]) (rest := [.int x1]) ⟨hx, hb, hml, hown, hts⟩ (c_X3_saying l dC dI cI sf H.size N (b 1) tW.1 x2 (nI 1) r17 hG) (va_cwS 3 hts gX3_lesserAll_X3_saying rfl rfl rfl (by decide +kernel) ⟨Nat.le_of_ble_eq_true rfl, Nat.le_of_ble_eq_true rfl⟩) ⟨fun a U g mk q => ⟨q.1, q.2.call⟩, fun U hU hW => ⟨rfl, PB.of hU hW hPc hK hDc hNN hSF hS hFc⟩⟩ rfl rfl hl.1 rfl (lv_room (Nat.le_of_ble_eq_true rfl)) dX3_lesserAll_17 ⟨Nat.le_of_ble_eq_true rfl, Nat.le_of_ble_eq_true rfl⟩) hS (fun q _ h => hFc q h) hFc (fun z_ u_ t H locs ht hvm hw hB hz1 hk1 hS => ?_)
        subst z_
        obtain ⟨hP1, hD1⟩ := hB
        rw [ht] at hP1
        have hJ := vb_join (ws' := (cwM cI b tW)) hP hD [1] [0, 2, 3, 4, 5, 6, 7, 8, 9] [0, 9, 1, 2, 3, 4, 5, 6, 7, 8] rfl rfl (by decide) (by decide) hk1 hFc hP1 hD1 rfl (by decide) rfl
        clear hP hD hPc hDc hFc hP1 hD1 hk1 hz1 ht hvm hG
        obtain ⟨hP, hD⟩ := hJ
        refine lv_aload_n hx hb dX3_lesserAll_20 rfl (lv_at hl 0 rfl) ?_
        refine va_get (D := (dC, dI)) (ci := 3) (v := .ref (b 1)) (C := RX3) (T := TX3) (N := 15) hx hb hts inw_X3_lesserAll_X3 hown hK hP 0 rfl rfl 0 (by decide) (hts (.fieldLink RX3 9 "DeniedOfEachOtherModel" "s" "[I") (List.mem_of_getElem? (i := 1) rfl)) (fun _ h9 => h9) rfl dX3_lesserAll_21 ?_
        refine lv_iload_n hx hb dX3_lesserAll_24 rfl (lv_at hl 2 rfl) ?_
        refine lv_iconst (v := nI 2) hx hb dX3_lesserAll_25 (by decide) ?_
        have hPc := hP.sub (ws' := (cwA cI (b 1) tW.1)) [1] rfl
        have hDc := hD.sub (ws' := (cwA cI (b 1) tW.1)) [1] (by decide) rfl
        have hFc := va_free (wc := (cwA cI (b 1) tW.1)) hD hS hA [1] rfl
        refine bd hF (fun r26 hG hF => ?_)
        refine va_calli (va_runS (As := [.ref (b 1), .int x2, .int (nI 2)]) (rest := [.int r17, .int x1]) ⟨hx, hb, hml, hown, hts⟩ (c_X3_saying l dC dI cI sf H.size N (b 1) tW.1 x2 (nI 2) r26 hG) (va_cwS 3 hts gX3_lesserAll_X3_saying rfl rfl rfl (by decide +kernel) ⟨Nat.le_of_ble_eq_true rfl, Nat.le_of_ble_eq_true rfl⟩) ⟨fun a U g mk q => ⟨q.1, q.2.call⟩, fun U hU hW => ⟨rfl, PB.of hU hW hPc hK hDc hNN hSF hS hFc⟩⟩ rfl rfl hl.1 rfl (lv_room (Nat.le_of_ble_eq_true rfl)) dX3_lesserAll_26 ⟨Nat.le_of_ble_eq_true rfl, Nat.le_of_ble_eq_true rfl⟩) hS (fun q _ h => hFc q h) hFc (fun z_ u_ t H locs ht hvm hw hB hz1 hk1 hS => ?_)
        subst z_
        obtain ⟨hP1, hD1⟩ := hB
        rw [ht] at hP1
        have hJ := vb_join (ws' := (cwM cI b tW)) hP hD [1] [0, 2, 3, 4, 5, 6, 7, 8, 9] [0, 9, 1, 2, 3, 4, 5, 6, 7, 8] rfl rfl (by decide) (by decide) hk1 hFc hP1 hD1 rfl (by decide) rfl
        clear hP hD hPc hDc hFc hP1 hD1 hk1 hz1 ht hvm hG
        obtain ⟨hP, hD⟩ := hJ
        have hPc := hP.sub (ws' := ([] : va_W)) [] rfl
        have hDc := hD.sub (ws' := ([] : va_W)) [] (by decide) rfl
        have hFc := va_free (wc := ([] : va_W)) hD hS hA [] rfl
        refine bd hF (fun r29 hG hF => ?_)
        refine va_calli (va_runS (As := [.int r17, .int r26]) (rest := [.int x1]) ⟨hx, hb, hml, hown, hts⟩ (c_X3_least l dC dI cI sf H.size N  r17 r26 r29 hG) (va_cwS 2 hts gX3_lesserAll_X3_least rfl rfl rfl (by decide +kernel) ⟨Nat.le_of_ble_eq_true rfl, Nat.le_of_ble_eq_true rfl⟩) ⟨fun a U g mk q => ⟨q.1, q.2.call⟩, fun U hU hW => ⟨rfl, PB.of hU hW hPc hK hDc hNN hSF hS hFc⟩⟩ rfl rfl hl.1 rfl (lv_room (Nat.le_of_ble_eq_true rfl)) dX3_lesserAll_29 ⟨Nat.le_of_ble_eq_true rfl, Nat.le_of_ble_eq_true rfl⟩) hS (fun q _ h => hFc q h) hFc (fun z_ u_ t H locs ht hvm hw hB hz1 hk1 hS => ?_)
        subst z_
        obtain ⟨hP1, hD1⟩ := hB
        rw [ht] at hP1
        have hJ := vb_join (ws' := (cwM cI b tW)) hP hD [] [0, 1, 2, 3, 4, 5, 6, 7, 8, 9] [0, 1, 2, 3, 4, 5, 6, 7, 8, 9] rfl rfl (by decide) (by decide) hk1 hFc hP1 hD1 rfl (by decide) rfl
        clear hP hD hPc hDc hFc hP1 hD1 hk1 hz1 ht hvm hG
        obtain ⟨hP, hD⟩ := hJ
        refine lv_iadd hx hb dX3_lesserAll_32 ?_
        refine lv_istore_n (lv' := [(1, .int (x1 + r29)), (0, .ref (b 0)), (2, .int x2)]) hx hb dX3_lesserAll_33 rfl hl (by decide) rfl (fun ls hl => ?_)
        refine lv_iinc (v := x2 + (nI 1)) (lv' := [(2, .int (x2 + (nI 1))), (1, .int (x1 + r29)), (0, .ref (b 0))]) hx hb dX3_lesserAll_34 hl (k := 2) rfl (by rfl) (by decide) rfl (fun ls hl => ?_)
        refine lv_goto (tgt := 4) hx hb dX3_lesserAll_37 (by decide) ?_
        exact ih4 (x1 + r29) (x2 + (nI 1)) _ _ _ hF hP hD hS (lv_sub hl [2, 1, 0] rfl)
  refine lv_istore_n (lv' := [(2, .int (nI 0)), (1, .int (nI 0)), (0, .ref (b 0))]) hx hb dX3_lesserAll_3 rfl hl (by decide) rfl (fun ls hl => ?_)
  exact kJ4 N (nI 0) (nI 0) _ _ _ hF hP hD hS (lv_sub hl [2, 1, 0] rfl)
theorem inw_X3_gives_X3 : ∀ w ∈ u_ws RX3 TX3 15, w ∈ wsX3_gives := fun _ h => List.mem_cons_of_mem _ (List.mem_append_right _ h)
set_option maxHeartbeats 4000000 in
set_option maxRecDepth 100000 in
theorem c_X3_gives (l : Launch) (dC : Nat → ClassId) (dI : Nat → Nat → Nat) (cI : ClassId) (sf : SFP) (sz : Nat) (N : Nat) (b : Nat → Nat) (tW : MS) (r : Int32) (hF : F_X3_gives N tW = some r) : Met l yX3_gives wsX3_gives ({ frames := 4, cells := 0, slots := 0, locals := 88 }) (va_Pc [.ref (b 0)] (PB (dC, dI) cI (cwM cI b tW) sz sf)) (va_Qi (fun (z : Int32) (_ : Unit) => z = r) (fun _ t => QB (dC, dI) (cwM cI b tW) (va_A (cwM cI b tW) sz) t) (va_A (cwM cI b tW) sz)) 0 0 (va_A (cwM cI b tW) sz) := by
  refine Met.ofW (cc := cX3_gives) (maxL := 1) (ret := (some .int)) (by decide) rfl ?_
  intro p e s m args below meth c s₁ B hml hv
  obtain ⟨rfl, hsz, hP, hK, hD0, hNN, hSF⟩ := hv
  have hx := B.exec
  have hb := B.bytes
  have hr := B.returns
  have hts := atoms_spec (ws := wsX3_gives) B.pre
  have hown : s.vm.findClass RX3 = some m.cls := findClass_of_methodNamed B.named
  have hlocks := B.notSynchronized
  subst hsz
  have hD := hD0.self (sz := s.heap.size)
  generalize hAe : va_A (cwM cI b tW) s.heap.size = A at hD hSF ⊢
  have hA : ∀ q : Nat, s.heap.size ≤ q → A q := fun q h => by rw [← hAe]; exact Or.inr h
  clear hAe hD0
  have hS : va_S A s.heap s.heap [] := va_S.rf
  have hl := lv_entry ([.ref (b 0)]) (n := 1) (Nat.le_of_ble_eq_true rfl)
  rw [lg_entry_eq]
  generalize (lg_sl ([.ref (b 0)]) ++ List.replicate (1 - (lg_sl ([.ref (b 0)])).length) Slot.unset).toArray = ls at hl ⊢
  have hl : lv_has ls 1 [(0, .ref (b 0))] := hl
  rw [F_X3_gives] at hF
  refine lv_aload_n hx hb dX3_gives_0 rfl (lv_at hl 0 rfl) ?_
  have hPc := hP.sub (ws' := (cwM cI b tW)) [0, 1, 2, 3, 4, 5, 6, 7, 8, 9] rfl
  have hDc := hD.sub (ws' := (cwM cI b tW)) [0, 1, 2, 3, 4, 5, 6, 7, 8, 9] (by decide) rfl
  have hFc := va_free (wc := (cwM cI b tW)) hD hS hA [0, 1, 2, 3, 4, 5, 6, 7, 8, 9] rfl
  refine bd hF (fun r1 hG hF => ?_)
  refine va_calli (va_runV (As := []) (rest := []) ⟨hx, hb, hml, hown, hts⟩ (c_X3_lesserAll l dC dI cI sf s.heap.size N b tW r1 hG) (cwV 0 hts gX3_gives_X3_lesserAll rfl rfl rfl (by decide +kernel) ⟨Nat.le_of_ble_eq_true rfl, Nat.le_of_ble_eq_true rfl⟩) ⟨fun a U g mk q => ⟨q.1, q.2.call⟩, va_recv hK hP (ci := 3) (q0 := 0) rfl rfl, fun U hU hW => ⟨rfl, PB.of hU hW hPc hK hDc hNN hSF hS hFc⟩⟩ rfl rfl hl.1 rfl (lv_room (Nat.le_of_ble_eq_true rfl)) dX3_gives_1 ⟨Nat.le_of_ble_eq_true rfl, Nat.le_of_ble_eq_true rfl⟩) hS (fun q _ h => hFc q h) hFc (fun z_ u_ t H locs ht hvm hw hB hz1 hk1 hS => ?_)
  subst z_
  obtain ⟨hP1, hD1⟩ := hB
  rw [ht] at hP1
  have hJ := vb_join (ws' := (cwM cI b tW)) hP hD [0, 1, 2, 3, 4, 5, 6, 7, 8, 9] [] [0, 1, 2, 3, 4, 5, 6, 7, 8, 9] rfl rfl (by decide) (by decide) hk1 hFc hP1 hD1 rfl (by decide) rfl
  clear hP hD hPc hDc hFc hP1 hD1 hk1 hz1 ht hvm hG
  obtain ⟨hP, hD⟩ := hJ
  obtain rfl := Option.some.inj hF
  exact W.iret (v := r1) hx hb hr (fun t ht hW => ⟨⟨r1, (), rfl, rfl, QB.of ht hP hD⟩, hS.F ht⟩) hS.2.2 dX3_gives_4
theorem inw_X3_writtenBehind_X3 : ∀ w ∈ u_ws RX3 TX3 15, w ∈ wsX3_writtenBehind := fun _ h => List.mem_cons_of_mem _ (List.mem_append_right _ h)
set_option maxHeartbeats 4000000 in
set_option maxRecDepth 100000 in
theorem c_X3_writtenBehind (l : Launch) (dC : Nat → ClassId) (dI : Nat → Nat → Nat) (cI : ClassId) (sf : SFP) (sz : Nat) (N : Nat) (b : Nat → Nat) (tW : MS) (p1 : Int32) (r : (Int32 × MS)) (hF : F_X3_writtenBehind N tW p1 = some r) : Met l yX3_writtenBehind wsX3_writtenBehind ({ frames := 6, cells := 0, slots := 0, locals := 139 }) (va_Pc [.ref (b 0), .int p1] (PB (dC, dI) cI (cwM cI b tW) sz sf)) (va_Qi (fun (z : Int32) (_ : Unit) => z = r.1) (fun _ t => QB (dC, dI) (cwM cI b r.2) (va_A (cwM cI b tW) sz) t) (va_A (cwM cI b tW) sz)) 0 0 (va_A (cwM cI b tW) sz) := by
  refine Met.ofW (cc := cX3_writtenBehind) (maxL := 2) (ret := (some .int)) (by decide) rfl ?_
  intro p e s m args below meth c s₁ B hml hv
  obtain ⟨rfl, hsz, hP, hK, hD0, hNN, hSF⟩ := hv
  have hx := B.exec
  have hb := B.bytes
  have hr := B.returns
  have hts := atoms_spec (ws := wsX3_writtenBehind) B.pre
  have hown : s.vm.findClass RX3 = some m.cls := findClass_of_methodNamed B.named
  have hlocks := B.notSynchronized
  subst hsz
  have hD := hD0.self (sz := s.heap.size)
  generalize hAe : va_A (cwM cI b tW) s.heap.size = A at hD hSF ⊢
  have hA : ∀ q : Nat, s.heap.size ≤ q → A q := fun q h => by rw [← hAe]; exact Or.inr h
  clear hAe hD0
  have hS : va_S A s.heap s.heap [] := va_S.rf
  have hl := lv_entry ([.ref (b 0), .int p1]) (n := 2) (Nat.le_of_ble_eq_true rfl)
  rw [lg_entry_eq]
  generalize (lg_sl ([.ref (b 0), .int p1]) ++ List.replicate (2 - (lg_sl ([.ref (b 0), .int p1])).length) Slot.unset).toArray = ls at hl ⊢
  have hl : lv_has ls 2 [(0, .ref (b 0)), (1, .int p1)] := hl
  rw [F_X3_writtenBehind] at hF
  refine lv_aload_n hx hb dX3_writtenBehind_0 rfl (lv_at hl 0 rfl) ?_
  refine va_get (D := (dC, dI)) (ci := 3) (v := .ref (b 2)) (C := RX3) (T := TX3) (N := 15) hx hb hts inw_X3_writtenBehind_X3 hown hK hP 0 rfl rfl 1 (by decide) (hts (.fieldLink RX3 13 "DeniedOfEachOtherModel" "m" "[I") (List.mem_of_getElem? (i := 1) rfl)) (fun _ h9 => h9) rfl dX3_writtenBehind_1 ?_
  refine lv_iload_n hx hb dX3_writtenBehind_4 rfl (lv_at hl 1 rfl) ?_
  have hPc := hP.sub (ws' := (cwA cI (b 2) tW.2.1)) [2] rfl
  have hDc := hD.sub (ws' := (cwA cI (b 2) tW.2.1)) [2] (by decide) rfl
  have hFc := va_free (wc := (cwA cI (b 2) tW.2.1)) hD hS hA [2] rfl
  refine bd hF (fun r5 hG hF => ?_)
  refine va_callv (va_runS (As := [.ref (b 2), .int p1]) (rest := []) ⟨hx, hb, hml, hown, hts⟩ (c_X3_yearsOn l dC dI cI sf s.heap.size N (b 2) tW.2.1 p1 r5 hG) (va_cwS 2 hts gX3_writtenBehind_X3_yearsOn rfl rfl rfl (by decide +kernel) ⟨Nat.le_of_ble_eq_true rfl, Nat.le_of_ble_eq_true rfl⟩) ⟨fun a U g mk q => ⟨q.1, q.2.call⟩, fun U hU hW => ⟨rfl, PB.of hU hW hPc hK hDc hNN hSF hS hFc⟩⟩ rfl rfl hl.1 rfl (lv_room (Nat.le_of_ble_eq_true rfl)) dX3_writtenBehind_5 ⟨Nat.le_of_ble_eq_true rfl, Nat.le_of_ble_eq_true rfl⟩) hS (fun q _ h => hFc q h) hFc (fun u_ t H locs ht hvm hw hB hz1 hk1 hS => ?_)
  obtain ⟨hP1, hD1⟩ := hB
  rw [ht] at hP1
  have hJ := vb_join (ws' := (cwM cI b (tW.1, r5, tW.2.2.1, tW.2.2.2.1, tW.2.2.2.2.1, tW.2.2.2.2.2.1, tW.2.2.2.2.2.2.1, tW.2.2.2.2.2.2.2.1, tW.2.2.2.2.2.2.2.2.1, tW.2.2.2.2.2.2.2.2.2.1, tW.2.2.2.2.2.2.2.2.2.2.1, tW.2.2.2.2.2.2.2.2.2.2.2.1, tW.2.2.2.2.2.2.2.2.2.2.2.2.1, tW.2.2.2.2.2.2.2.2.2.2.2.2.2.1, tW.2.2.2.2.2.2.2.2.2.2.2.2.2.2))) hP hD [2] [0, 1, 3, 4, 5, 6, 7, 8, 9] [0, 1, 9, 2, 3, 4, 5, 6, 7, 8] rfl rfl (by decide) (by decide) hk1 hFc hP1 hD1 rfl (by decide) rfl
  clear hP hD hPc hDc hFc hP1 hD1 hk1 hz1 ht hvm hG
  obtain ⟨hP, hD⟩ := hJ
  refine lv_aload_n hx hb dX3_writtenBehind_8 rfl (lv_at hl 0 rfl) ?_
  refine va_get (D := (dC, dI)) (ci := 3) (v := .ref (b 2)) (C := RX3) (T := TX3) (N := 15) hx hb hts inw_X3_writtenBehind_X3 hown hK hP 0 rfl rfl 1 (by decide) (hts (.fieldLink RX3 13 "DeniedOfEachOtherModel" "m" "[I") (List.mem_of_getElem? (i := 1) rfl)) (fun _ h9 => h9) rfl dX3_writtenBehind_9 ?_
  have hPc := hP.sub (ws' := (cwA cI (b 2) r5)) [2] rfl
  have hDc := hD.sub (ws' := (cwA cI (b 2) r5)) [2] (by decide) rfl
  have hFc := va_free (wc := (cwA cI (b 2) r5)) hD hS hA [2] rfl
  refine bd hF (fun r12 hG hF => ?_)
  refine va_calli (va_runS (As := [.ref (b 2)]) (rest := []) ⟨hx, hb, hml, hown, hts⟩ (c_X3_writtenIn l dC dI cI sf H.size N (b 2) r5 r12 hG) (va_cwS 1 hts gX3_writtenBehind_X3_writtenIn rfl rfl rfl (by decide +kernel) ⟨Nat.le_of_ble_eq_true rfl, Nat.le_of_ble_eq_true rfl⟩) ⟨fun a U g mk q => ⟨q.1, q.2.call⟩, fun U hU hW => ⟨rfl, PB.of hU hW hPc hK hDc hNN hSF hS hFc⟩⟩ rfl rfl hl.1 rfl (lv_room (Nat.le_of_ble_eq_true rfl)) dX3_writtenBehind_12 ⟨Nat.le_of_ble_eq_true rfl, Nat.le_of_ble_eq_true rfl⟩) hS (fun q _ h => hFc q h) hFc (fun z_ u_ t H locs ht hvm hw hB hz1 hk1 hS => ?_)
  subst z_
  obtain ⟨hP1, hD1⟩ := hB
  rw [ht] at hP1
  have hJ := vb_join (ws' := (cwM cI b (tW.1, r5, tW.2.2.1, tW.2.2.2.1, tW.2.2.2.2.1, tW.2.2.2.2.2.1, tW.2.2.2.2.2.2.1, tW.2.2.2.2.2.2.2.1, tW.2.2.2.2.2.2.2.2.1, tW.2.2.2.2.2.2.2.2.2.1, tW.2.2.2.2.2.2.2.2.2.2.1, tW.2.2.2.2.2.2.2.2.2.2.2.1, tW.2.2.2.2.2.2.2.2.2.2.2.2.1, tW.2.2.2.2.2.2.2.2.2.2.2.2.2.1, tW.2.2.2.2.2.2.2.2.2.2.2.2.2.2))) hP hD [2] [0, 1, 3, 4, 5, 6, 7, 8, 9] [0, 1, 9, 2, 3, 4, 5, 6, 7, 8] rfl rfl (by decide) (by decide) hk1 hFc hP1 hD1 rfl (by decide) rfl
  clear hP hD hPc hDc hFc hP1 hD1 hk1 hz1 ht hvm hG
  obtain ⟨hP, hD⟩ := hJ
  have hPc := hP.sub (ws' := ([] : va_W)) [] rfl
  have hDc := hD.sub (ws' := ([] : va_W)) [] (by decide) rfl
  have hFc := va_free (wc := ([] : va_W)) hD hS hA [] rfl
  refine bd hF (fun r15 hG hF => ?_)
  refine va_calli (va_runS (As := [.int r12]) (rest := []) ⟨hx, hb, hml, hown, hts⟩ (c_X3_bits l dC dI cI sf H.size N  r12 r15 hG) (va_cwS 1 hts gX3_writtenBehind_X3_bits rfl rfl rfl (by decide +kernel) ⟨Nat.le_of_ble_eq_true rfl, Nat.le_of_ble_eq_true rfl⟩) ⟨fun a U g mk q => ⟨q.1, q.2.call⟩, fun U hU hW => ⟨rfl, PB.of hU hW hPc hK hDc hNN hSF hS hFc⟩⟩ rfl rfl hl.1 rfl (lv_room (Nat.le_of_ble_eq_true rfl)) dX3_writtenBehind_15 ⟨Nat.le_of_ble_eq_true rfl, Nat.le_of_ble_eq_true rfl⟩) hS (fun q _ h => hFc q h) hFc (fun z_ u_ t H locs ht hvm hw hB hz1 hk1 hS => ?_)
  subst z_
  obtain ⟨hP1, hD1⟩ := hB
  rw [ht] at hP1
  have hJ := vb_join (ws' := (cwM cI b (tW.1, r5, tW.2.2.1, tW.2.2.2.1, tW.2.2.2.2.1, tW.2.2.2.2.2.1, tW.2.2.2.2.2.2.1, tW.2.2.2.2.2.2.2.1, tW.2.2.2.2.2.2.2.2.1, tW.2.2.2.2.2.2.2.2.2.1, tW.2.2.2.2.2.2.2.2.2.2.1, tW.2.2.2.2.2.2.2.2.2.2.2.1, tW.2.2.2.2.2.2.2.2.2.2.2.2.1, tW.2.2.2.2.2.2.2.2.2.2.2.2.2.1, tW.2.2.2.2.2.2.2.2.2.2.2.2.2.2))) hP hD [] [0, 1, 2, 3, 4, 5, 6, 7, 8, 9] [0, 1, 2, 3, 4, 5, 6, 7, 8, 9] rfl rfl (by decide) (by decide) hk1 hFc hP1 hD1 rfl (by decide) rfl
  clear hP hD hPc hDc hFc hP1 hD1 hk1 hz1 ht hvm hG
  obtain ⟨hP, hD⟩ := hJ
  obtain rfl := Option.some.inj hF
  exact W.iret (v := r15) hx hb hr (fun t ht hW => ⟨⟨r15, (), rfl, rfl, QB.of ht hP hD⟩, hS.F ht⟩) hS.2.2 dX3_writtenBehind_18
theorem inw_X3_heir_X3 : ∀ w ∈ u_ws RX3 TX3 15, w ∈ wsX3_heir := fun _ h => List.mem_cons_of_mem _ (List.mem_append_right _ h)
set_option maxHeartbeats 4000000 in
set_option maxRecDepth 100000 in
theorem c_X3_heir (l : Launch) (dC : Nat → ClassId) (dI : Nat → Nat → Nat) (cI : ClassId) (sf : SFP) (sz : Nat) (N : Nat) (b : Nat → Nat) (tW : MS) (p1 : Int32) (r : (Int32 × MS)) (hF : F_X3_heir N tW p1 = some r) : Met l yX3_heir wsX3_heir ({ frames := 7, cells := 0, slots := 0, locals := 160 }) (va_Pc [.ref (b 0), .int p1] (PB (dC, dI) cI (cwM cI b tW) sz sf)) (va_Qi (fun (z : Int32) (_ : Unit) => z = r.1) (fun _ t => QB (dC, dI) (cwM cI b r.2) (va_A (cwM cI b tW) sz) t) (va_A (cwM cI b tW) sz)) 0 0 (va_A (cwM cI b tW) sz) := by
  refine Met.ofW (cc := cX3_heir) (maxL := 7) (ret := (some .int)) (by decide) rfl ?_
  intro p e s m args below meth c s₁ B hml hv
  obtain ⟨rfl, hsz, hP, hK, hD0, hNN, hSF⟩ := hv
  have hx := B.exec
  have hb := B.bytes
  have hr := B.returns
  have hts := atoms_spec (ws := wsX3_heir) B.pre
  have hown : s.vm.findClass RX3 = some m.cls := findClass_of_methodNamed B.named
  have hlocks := B.notSynchronized
  subst hsz
  have hD := hD0.self (sz := s.heap.size)
  generalize hAe : va_A (cwM cI b tW) s.heap.size = A at hD hSF ⊢
  have hA : ∀ q : Nat, s.heap.size ≤ q → A q := fun q h => by rw [← hAe]; exact Or.inr h
  clear hAe hD0
  have hS : va_S A s.heap s.heap [] := va_S.rf
  have hl := lv_entry ([.ref (b 0), .int p1]) (n := 7) (Nat.le_of_ble_eq_true rfl)
  rw [lg_entry_eq]
  generalize (lg_sl ([.ref (b 0), .int p1]) ++ List.replicate (7 - (lg_sl ([.ref (b 0), .int p1])).length) Slot.unset).toArray = ls at hl ⊢
  have hl : lv_has ls 7 [(0, .ref (b 0)), (1, .int p1)] := hl
  rw [F_X3_heir] at hF
  refine lv_iload_n hx hb dX3_heir_0 rfl (lv_at hl 1 rfl) ?_
  refine lv_bipush (v := nI 60) hx hb dX3_heir_1 (by decide) ?_
  have hPc := hP.sub (ws' := ([] : va_W)) [] rfl
  have hDc := hD.sub (ws' := ([] : va_W)) [] (by decide) rfl
  have hFc := va_free (wc := ([] : va_W)) hD hS hA [] rfl
  refine bd hF (fun r3 hG hF => ?_)
  refine va_calli (va_runS (As := [.int p1, .int (nI 60)]) (rest := []) ⟨hx, hb, hml, hown, hts⟩ (c_X3_wrongBy l dC dI cI sf s.heap.size N  p1 (nI 60) r3 hG) (va_cwS 2 hts gX3_heir_X3_wrongBy rfl rfl rfl (by decide +kernel) ⟨Nat.le_of_ble_eq_true rfl, Nat.le_of_ble_eq_true rfl⟩) ⟨fun a U g mk q => ⟨q.1, q.2.call⟩, fun U hU hW => ⟨rfl, PB.of hU hW hPc hK hDc hNN hSF hS hFc⟩⟩ rfl rfl hl.1 rfl (lv_room (Nat.le_of_ble_eq_true rfl)) dX3_heir_3 ⟨Nat.le_of_ble_eq_true rfl, Nat.le_of_ble_eq_true rfl⟩) hS (fun q _ h => hFc q h) hFc (fun z_ u_ t H locs ht hvm hw hB hz1 hk1 hS => ?_)
  subst z_
  obtain ⟨hP1, hD1⟩ := hB
  rw [ht] at hP1
  have hJ := vb_join (ws' := (cwM cI b tW)) hP hD [] [0, 1, 2, 3, 4, 5, 6, 7, 8, 9] [0, 1, 2, 3, 4, 5, 6, 7, 8, 9] rfl rfl (by decide) (by decide) hk1 hFc hP1 hD1 rfl (by decide) rfl
  clear hP hD hPc hDc hFc hP1 hD1 hk1 hz1 ht hvm hG
  obtain ⟨hP, hD⟩ := hJ
  refine lv_istore_n (lv' := [(2, .int r3), (0, .ref (b 0)), (1, .int p1)]) hx hb dX3_heir_6 rfl hl (by decide) rfl (fun ls hl => ?_)
  refine lv_iload_n hx hb dX3_heir_7 rfl (lv_at hl 0 rfl) ?_
  refine lv_if_eq (tgt := 17) hx hb dX3_heir_8 (by decide) (fun hc => ?_) (fun hc => ?_)
  · have hF := ift hc hF
    refine lv_aload_n hx hb dX3_heir_17 rfl (lv_at hl 1 rfl) ?_
    refine va_get (D := (dC, dI)) (ci := 3) (v := .ref (b 1)) (C := RX3) (T := TX3) (N := 15) hx hb hts inw_X3_heir_X3 hown hK hP 0 rfl rfl 0 (by decide) (hts (.fieldLink RX3 9 "DeniedOfEachOtherModel" "s" "[I") (List.mem_of_getElem? (i := 1) rfl)) (fun _ h9 => h9) rfl dX3_heir_18 ?_
    refine lv_aload_n hx hb dX3_heir_21 rfl (lv_at hl 1 rfl) ?_
    refine va_get (D := (dC, dI)) (ci := 3) (v := .ref (b 2)) (C := RX3) (T := TX3) (N := 15) hx hb hts inw_X3_heir_X3 hown hK hP 0 rfl rfl 1 (by decide) (hts (.fieldLink RX3 13 "DeniedOfEachOtherModel" "m" "[I") (List.mem_of_getElem? (i := 2) rfl)) (fun _ h9 => h9) rfl dX3_heir_22 ?_
    have hPc := hP.sub (ws' := (cwA cI (b 1) tW.1 ++ cwA cI (b 2) tW.2.1)) [1, 2] rfl
    have hDc := hD.sub (ws' := (cwA cI (b 1) tW.1 ++ cwA cI (b 2) tW.2.1)) [1, 2] (by decide) rfl
    have hFc := va_free (wc := (cwA cI (b 1) tW.1 ++ cwA cI (b 2) tW.2.1)) hD hS hA [1, 2] rfl
    refine bd hF (fun r25 hG hF => ?_)
    refine va_callv (va_runS (As := [.ref (b 1), .ref (b 2)]) (rest := []) ⟨hx, hb, hml, hown, hts⟩ (c_X3_copies l dC dI cI sf H.size N (b 1) (b 2) tW.1 tW.2.1 r25 hG) (va_cwS 2 hts gX3_heir_X3_copies rfl rfl rfl (by decide +kernel) ⟨Nat.le_of_ble_eq_true rfl, Nat.le_of_ble_eq_true rfl⟩) ⟨fun a U g mk q => ⟨q.1, q.2.call⟩, fun U hU hW => ⟨rfl, PB.of hU hW hPc hK hDc hNN hSF hS hFc⟩⟩ rfl rfl hl.1 rfl (lv_room (Nat.le_of_ble_eq_true rfl)) dX3_heir_25 ⟨Nat.le_of_ble_eq_true rfl, Nat.le_of_ble_eq_true rfl⟩) hS (fun q _ h => hFc q h) hFc (fun u_ t H locs ht hvm hw hB hz1 hk1 hS => ?_)
    obtain ⟨hP1, hD1⟩ := hB
    rw [ht] at hP1
    have hJ := vb_join (ws' := (cwM cI b (tW.1, r25, tW.2.2.1, tW.2.2.2.1, tW.2.2.2.2.1, tW.2.2.2.2.2.1, tW.2.2.2.2.2.2.1, tW.2.2.2.2.2.2.2.1, tW.2.2.2.2.2.2.2.2.1, tW.2.2.2.2.2.2.2.2.2.1, tW.2.2.2.2.2.2.2.2.2.2.1, tW.2.2.2.2.2.2.2.2.2.2.2.1, tW.2.2.2.2.2.2.2.2.2.2.2.2.1, tW.2.2.2.2.2.2.2.2.2.2.2.2.2.1, tW.2.2.2.2.2.2.2.2.2.2.2.2.2.2))) hP hD [1, 2] [0, 3, 4, 5, 6, 7, 8, 9] [0, 8, 9, 1, 2, 3, 4, 5, 6, 7] rfl rfl (by decide) (by decide) hk1 hFc hP1 hD1 rfl (by decide) rfl
    clear hP hD hPc hDc hFc hP1 hD1 hk1 hz1 ht hvm hG
    obtain ⟨hP, hD⟩ := hJ
    refine lv_aload_n hx hb dX3_heir_28 rfl (lv_at hl 1 rfl) ?_
    refine lv_iload_n hx hb dX3_heir_29 rfl (lv_at hl 2 rfl) ?_
    have hPc := hP.sub (ws' := (cwM cI b (tW.1, r25, tW.2.2.1, tW.2.2.2.1, tW.2.2.2.2.1, tW.2.2.2.2.2.1, tW.2.2.2.2.2.2.1, tW.2.2.2.2.2.2.2.1, tW.2.2.2.2.2.2.2.2.1, tW.2.2.2.2.2.2.2.2.2.1, tW.2.2.2.2.2.2.2.2.2.2.1, tW.2.2.2.2.2.2.2.2.2.2.2.1, tW.2.2.2.2.2.2.2.2.2.2.2.2.1, tW.2.2.2.2.2.2.2.2.2.2.2.2.2.1, tW.2.2.2.2.2.2.2.2.2.2.2.2.2.2))) [0, 1, 2, 3, 4, 5, 6, 7, 8, 9] rfl
    have hDc := hD.sub (ws' := (cwM cI b (tW.1, r25, tW.2.2.1, tW.2.2.2.1, tW.2.2.2.2.1, tW.2.2.2.2.2.1, tW.2.2.2.2.2.2.1, tW.2.2.2.2.2.2.2.1, tW.2.2.2.2.2.2.2.2.1, tW.2.2.2.2.2.2.2.2.2.1, tW.2.2.2.2.2.2.2.2.2.2.1, tW.2.2.2.2.2.2.2.2.2.2.2.1, tW.2.2.2.2.2.2.2.2.2.2.2.2.1, tW.2.2.2.2.2.2.2.2.2.2.2.2.2.1, tW.2.2.2.2.2.2.2.2.2.2.2.2.2.2))) [0, 1, 2, 3, 4, 5, 6, 7, 8, 9] (by decide) rfl
    have hFc := va_free (wc := (cwM cI b (tW.1, r25, tW.2.2.1, tW.2.2.2.1, tW.2.2.2.2.1, tW.2.2.2.2.2.1, tW.2.2.2.2.2.2.1, tW.2.2.2.2.2.2.2.1, tW.2.2.2.2.2.2.2.2.1, tW.2.2.2.2.2.2.2.2.2.1, tW.2.2.2.2.2.2.2.2.2.2.1, tW.2.2.2.2.2.2.2.2.2.2.2.1, tW.2.2.2.2.2.2.2.2.2.2.2.2.1, tW.2.2.2.2.2.2.2.2.2.2.2.2.2.1, tW.2.2.2.2.2.2.2.2.2.2.2.2.2.2))) hD hS hA [0, 1, 2, 3, 4, 5, 6, 7, 8, 9] rfl
    refine bd hF (fun r30 hG hF => ?_)
    refine va_calli (va_runV (As := [.int p1]) (rest := []) ⟨hx, hb, hml, hown, hts⟩ (c_X3_writtenBehind l dC dI cI sf H.size N b (tW.1, r25, tW.2.2.1, tW.2.2.2.1, tW.2.2.2.2.1, tW.2.2.2.2.2.1, tW.2.2.2.2.2.2.1, tW.2.2.2.2.2.2.2.1, tW.2.2.2.2.2.2.2.2.1, tW.2.2.2.2.2.2.2.2.2.1, tW.2.2.2.2.2.2.2.2.2.2.1, tW.2.2.2.2.2.2.2.2.2.2.2.1, tW.2.2.2.2.2.2.2.2.2.2.2.2.1, tW.2.2.2.2.2.2.2.2.2.2.2.2.2.1, tW.2.2.2.2.2.2.2.2.2.2.2.2.2.2) p1 r30 hG) (cwV 1 hts gX3_heir_X3_writtenBehind rfl rfl rfl (by decide +kernel) ⟨Nat.le_of_ble_eq_true rfl, Nat.le_of_ble_eq_true rfl⟩) ⟨fun a U g mk q => ⟨q.1, q.2.call⟩, va_recv hK hP (ci := 3) (q0 := 0) rfl rfl, fun U hU hW => ⟨rfl, PB.of hU hW hPc hK hDc hNN hSF hS hFc⟩⟩ rfl rfl hl.1 rfl (lv_room (Nat.le_of_ble_eq_true rfl)) dX3_heir_30 ⟨Nat.le_of_ble_eq_true rfl, Nat.le_of_ble_eq_true rfl⟩) hS (fun q _ h => hFc q h) hFc (fun z_ u_ t H locs ht hvm hw hB hz1 hk1 hS => ?_)
    subst z_
    obtain ⟨hP1, hD1⟩ := hB
    rw [ht] at hP1
    have hJ := vb_join (ws' := (cwM cI b r30.2)) hP hD [0, 1, 2, 3, 4, 5, 6, 7, 8, 9] [] [0, 1, 2, 3, 4, 5, 6, 7, 8, 9] rfl rfl (by decide) (by decide) hk1 hFc hP1 hD1 rfl (by decide) rfl
    clear hP hD hPc hDc hFc hP1 hD1 hk1 hz1 ht hvm hG
    obtain ⟨hP, hD⟩ := hJ
    refine lv_istore_n (lv' := [(3, .int r30.1), (2, .int r3), (0, .ref (b 0)), (1, .int p1)]) hx hb dX3_heir_33 rfl hl (by decide) rfl (fun ls hl => ?_)
    refine lv_bipush (v := (-9)) hx hb dX3_heir_34 (by decide) ?_
    refine lv_istore (lv' := [(4, .int (-9)), (3, .int r30.1), (2, .int r3), (0, .ref (b 0)), (1, .int p1)]) hx hb dX3_heir_36 hl (by decide) rfl (fun ls hl => ?_)
    refine lv_iconst (v := nI 0) hx hb dX3_heir_38 (by decide) ?_
    refine vW_have (fun R av Q => ∀ (n41 : Nat) (tW : MS) (x1 : Int32) (x3 : Int32) (x4 : Int32) (x5 : Int32) (H : Heap) (locs : List Loc) (ls : Array Slot), F_X3_heir_41 N n41 tW x1 x3 x4 x5 = some r → va_P (dC, dI) vwCl (cwM cI b tW) H → va_D A (cwM cI b tW) → va_S A s.heap H locs → lv_has ls 7 [(0, .ref (b 0)), (1, .int x1), (3, .int x3), (4, .int x4), (5, .int x5)] → W p l e R s m av below meth c H locs 0 0 Q (F0 m 41 ls [])) ?_ (fun kJ41 => ?_)
    · intro n41
      induction n41 with
      | zero => intro tW x1 x3 x4 x5 H locs ls hF; exact nn hF
      | succ n41 ih41 =>
        intro tW x1 x3 x4 x5 H locs ls hF hP hD hS hl
        rw [F_X3_heir_41] at hF
        refine lv_iload hx hb dX3_heir_41 (lv_at hl 4 rfl) ?_
        refine lv_aload_n hx hb dX3_heir_43 rfl (lv_at hl 0 rfl) ?_
        refine va_get (D := (dC, dI)) (ci := 3) (v := .ref (b 1)) (C := RX3) (T := TX3) (N := 15) hx hb hts inw_X3_heir_X3 hown hK hP 0 rfl rfl 0 (by decide) (hts (.fieldLink RX3 9 "DeniedOfEachOtherModel" "s" "[I") (List.mem_of_getElem? (i := 1) rfl)) (fun _ h9 => h9) rfl dX3_heir_44 ?_
        refine lv_iconst (v := nI 0) hx hb dX3_heir_47 (by decide) ?_
        refine va_iald (D := (dC, dI)) hx hb hK hP 1 0 rfl rfl (vp_in_nI (n := 0) (N := 74) (by decide) (by decide)) dX3_heir_48 ?_
        refine lv_icmp_ge (tgt := 119) hx hb dX3_heir_49 (by decide) (fun hc => ?_) (fun hc => ?_)
        · have hF := ift hc hF
          refine lv_iload hx hb dX3_heir_119 (lv_at hl 3 rfl) ?_
          obtain rfl := Option.some.inj hF
          exact W.iret (v := x4) hx hb hr (fun t ht hW => ⟨⟨x4, (), rfl, rfl, QB.of ht hP hD⟩, hS.F ht⟩) hS.2.2 dX3_heir_121
        · have hF := iff_ hc hF
          refine lv_aload_n hx hb dX3_heir_52 rfl (lv_at hl 0 rfl) ?_
          refine va_get (D := (dC, dI)) (ci := 3) (v := .ref (b 1)) (C := RX3) (T := TX3) (N := 15) hx hb hts inw_X3_heir_X3 hown hK hP 0 rfl rfl 0 (by decide) (hts (.fieldLink RX3 9 "DeniedOfEachOtherModel" "s" "[I") (List.mem_of_getElem? (i := 1) rfl)) (fun _ h9 => h9) rfl dX3_heir_53 ?_
          refine lv_iload hx hb dX3_heir_56 (lv_at hl 4 rfl) ?_
          have hPc := hP.sub (ws' := (cwA cI (b 1) tW.1)) [1] rfl
          have hDc := hD.sub (ws' := (cwA cI (b 1) tW.1)) [1] (by decide) rfl
          have hFc := va_free (wc := (cwA cI (b 1) tW.1)) hD hS hA [1] rfl
          refine bd hF (fun r58 hG hF => ?_)
          refine va_calli (va_runS (As := [.ref (b 1), .int x5]) (rest := []) ⟨hx, hb, hml, hown, hts⟩ (c_X3_isAlive l dC dI cI sf H.size N (b 1) tW.1 x5 r58 hG) (va_cwS 2 hts gX3_heir_X3_isAlive rfl rfl rfl (by decide +kernel) ⟨Nat.le_of_ble_eq_true rfl, Nat.le_of_ble_eq_true rfl⟩) ⟨fun a U g mk q => ⟨q.1, q.2.call⟩, fun U hU hW => ⟨rfl, PB.of hU hW hPc hK hDc hNN hSF hS hFc⟩⟩ rfl rfl hl.1 rfl (lv_room (Nat.le_of_ble_eq_true rfl)) dX3_heir_58 ⟨Nat.le_of_ble_eq_true rfl, Nat.le_of_ble_eq_true rfl⟩) hS (fun q _ h => hFc q h) hFc (fun z_ u_ t H locs ht hvm hw hB hz1 hk1 hS => ?_)
          subst z_
          obtain ⟨hP1, hD1⟩ := hB
          rw [ht] at hP1
          have hJ := vb_join (ws' := (cwM cI b tW)) hP hD [1] [0, 2, 3, 4, 5, 6, 7, 8, 9] [0, 9, 1, 2, 3, 4, 5, 6, 7, 8] rfl rfl (by decide) (by decide) hk1 hFc hP1 hD1 rfl (by decide) rfl
          clear hP hD hPc hDc hFc hP1 hD1 hk1 hz1 ht hvm hG
          obtain ⟨hP, hD⟩ := hJ
          refine vW_have (fun R av Q => ∀ (tW : MS) (x1 : Int32) (x3 : Int32) (x4 : Int32) (x5 : Int32) (H : Heap) (locs : List Loc) (ls : Array Slot), F_X3_heir_113 N (fun ctW cx1 cx3 cx4 cx5 => F_X3_heir_41 N n41 ctW cx1 cx3 cx4 cx5) tW x1 x3 x4 x5 = some r → va_P (dC, dI) vwCl (cwM cI b tW) H → va_D A (cwM cI b tW) → va_S A s.heap H locs → lv_has ls 7 [(0, .ref (b 0)), (1, .int x1), (3, .int x3), (4, .int x4), (5, .int x5)] → W p l e R s m av below meth c H locs 0 0 Q (F0 m 113 ls [])) ?_ (fun kJ113 => ?_)
          · 
            intro tW x1 x3 x4 x5 H locs ls hF hP hD hS hl
            rw [F_X3_heir_113] at hF
            refine lv_iinc (v := x5 + (nI 1)) (lv' := [(5, .int (x5 + (nI 1))), (0, .ref (b 0)), (1, .int x1), (3, .int x3), (4, .int x4)]) hx hb dX3_heir_113 hl (k := 4) rfl (by rfl) (by decide) rfl (fun ls hl => ?_)
            refine lv_goto (tgt := 41) hx hb dX3_heir_116 (by decide) ?_
            exact ih41 tW x1 x3 x4 (x5 + (nI 1)) _ _ _ hF hP hD hS (lv_sub hl [1, 2, 3, 4, 0] rfl)
          refine lv_if_ne (tgt := 67) hx hb dX3_heir_61 (by decide) (fun hc => ?_) (fun hc => ?_)
          · have hF := ift hc hF
            refine lv_aload_n hx hb dX3_heir_67 rfl (lv_at hl 0 rfl) ?_
            refine va_get (D := (dC, dI)) (ci := 3) (v := .ref (b 1)) (C := RX3) (T := TX3) (N := 15) hx hb hts inw_X3_heir_X3 hown hK hP 0 rfl rfl 0 (by decide) (hts (.fieldLink RX3 9 "DeniedOfEachOtherModel" "s" "[I") (List.mem_of_getElem? (i := 1) rfl)) (fun _ h9 => h9) rfl dX3_heir_68 ?_
            refine lv_aload_n hx hb dX3_heir_71 rfl (lv_at hl 0 rfl) ?_
            refine va_get (D := (dC, dI)) (ci := 3) (v := .ref (b 2)) (C := RX3) (T := TX3) (N := 15) hx hb hts inw_X3_heir_X3 hown hK hP 0 rfl rfl 1 (by decide) (hts (.fieldLink RX3 13 "DeniedOfEachOtherModel" "m" "[I") (List.mem_of_getElem? (i := 2) rfl)) (fun _ h9 => h9) rfl dX3_heir_72 ?_
            have hPc := hP.sub (ws' := (cwA cI (b 1) tW.1 ++ cwA cI (b 2) tW.2.1)) [1, 2] rfl
            have hDc := hD.sub (ws' := (cwA cI (b 1) tW.1 ++ cwA cI (b 2) tW.2.1)) [1, 2] (by decide) rfl
            have hFc := va_free (wc := (cwA cI (b 1) tW.1 ++ cwA cI (b 2) tW.2.1)) hD hS hA [1, 2] rfl
            refine bd hF (fun r75 hG hF => ?_)
            refine va_callv (va_runS (As := [.ref (b 1), .ref (b 2)]) (rest := []) ⟨hx, hb, hml, hown, hts⟩ (c_X3_copies l dC dI cI sf H.size N (b 1) (b 2) tW.1 tW.2.1 r75 hG) (va_cwS 2 hts gX3_heir_X3_copies rfl rfl rfl (by decide +kernel) ⟨Nat.le_of_ble_eq_true rfl, Nat.le_of_ble_eq_true rfl⟩) ⟨fun a U g mk q => ⟨q.1, q.2.call⟩, fun U hU hW => ⟨rfl, PB.of hU hW hPc hK hDc hNN hSF hS hFc⟩⟩ rfl rfl hl.1 rfl (lv_room (Nat.le_of_ble_eq_true rfl)) dX3_heir_75 ⟨Nat.le_of_ble_eq_true rfl, Nat.le_of_ble_eq_true rfl⟩) hS (fun q _ h => hFc q h) hFc (fun u_ t H locs ht hvm hw hB hz1 hk1 hS => ?_)
            obtain ⟨hP1, hD1⟩ := hB
            rw [ht] at hP1
            have hJ := vb_join (ws' := (cwM cI b (tW.1, r75, tW.2.2.1, tW.2.2.2.1, tW.2.2.2.2.1, tW.2.2.2.2.2.1, tW.2.2.2.2.2.2.1, tW.2.2.2.2.2.2.2.1, tW.2.2.2.2.2.2.2.2.1, tW.2.2.2.2.2.2.2.2.2.1, tW.2.2.2.2.2.2.2.2.2.2.1, tW.2.2.2.2.2.2.2.2.2.2.2.1, tW.2.2.2.2.2.2.2.2.2.2.2.2.1, tW.2.2.2.2.2.2.2.2.2.2.2.2.2.1, tW.2.2.2.2.2.2.2.2.2.2.2.2.2.2))) hP hD [1, 2] [0, 3, 4, 5, 6, 7, 8, 9] [0, 8, 9, 1, 2, 3, 4, 5, 6, 7] rfl rfl (by decide) (by decide) hk1 hFc hP1 hD1 rfl (by decide) rfl
            clear hP hD hPc hDc hFc hP1 hD1 hk1 hz1 ht hvm hG
            obtain ⟨hP, hD⟩ := hJ
            refine lv_aload_n hx hb dX3_heir_78 rfl (lv_at hl 0 rfl) ?_
            refine va_get (D := (dC, dI)) (ci := 3) (v := .ref (b 2)) (C := RX3) (T := TX3) (N := 15) hx hb hts inw_X3_heir_X3 hown hK hP 0 rfl rfl 1 (by decide) (hts (.fieldLink RX3 13 "DeniedOfEachOtherModel" "m" "[I") (List.mem_of_getElem? (i := 2) rfl)) (fun _ h9 => h9) rfl dX3_heir_79 ?_
            refine lv_iload hx hb dX3_heir_82 (lv_at hl 4 rfl) ?_
            refine lv_iconst (v := nI 0) hx hb dX3_heir_84 (by decide) ?_
            have hPc := hP.sub (ws' := ([] : va_W)) [] rfl
            have hDc := hD.sub (ws' := ([] : va_W)) [] (by decide) rfl
            have hFc := va_free (wc := ([] : va_W)) hD hS hA [] rfl
            refine bd hF (fun r85 hG hF => ?_)
            refine va_calli (va_runS (As := [.int x5, .int (nI 0)]) (rest := [.ref (b 2)]) ⟨hx, hb, hml, hown, hts⟩ (c_X3_of l dC dI cI sf H.size N  x5 (nI 0) r85 hG) (va_cwS 2 hts gX3_heir_X3_of rfl rfl rfl (by decide +kernel) ⟨Nat.le_of_ble_eq_true rfl, Nat.le_of_ble_eq_true rfl⟩) ⟨fun a U g mk q => ⟨q.1, q.2.call⟩, fun U hU hW => ⟨rfl, PB.of hU hW hPc hK hDc hNN hSF hS hFc⟩⟩ rfl rfl hl.1 rfl (lv_room (Nat.le_of_ble_eq_true rfl)) dX3_heir_85 ⟨Nat.le_of_ble_eq_true rfl, Nat.le_of_ble_eq_true rfl⟩) hS (fun q _ h => hFc q h) hFc (fun z_ u_ t H locs ht hvm hw hB hz1 hk1 hS => ?_)
            subst z_
            obtain ⟨hP1, hD1⟩ := hB
            rw [ht] at hP1
            have hJ := vb_join (ws' := (cwM cI b (tW.1, r75, tW.2.2.1, tW.2.2.2.1, tW.2.2.2.2.1, tW.2.2.2.2.2.1, tW.2.2.2.2.2.2.1, tW.2.2.2.2.2.2.2.1, tW.2.2.2.2.2.2.2.2.1, tW.2.2.2.2.2.2.2.2.2.1, tW.2.2.2.2.2.2.2.2.2.2.1, tW.2.2.2.2.2.2.2.2.2.2.2.1, tW.2.2.2.2.2.2.2.2.2.2.2.2.1, tW.2.2.2.2.2.2.2.2.2.2.2.2.2.1, tW.2.2.2.2.2.2.2.2.2.2.2.2.2.2))) hP hD [] [0, 1, 2, 3, 4, 5, 6, 7, 8, 9] [0, 1, 2, 3, 4, 5, 6, 7, 8, 9] rfl rfl (by decide) (by decide) hk1 hFc hP1 hD1 rfl (by decide) rfl
            clear hP hD hPc hDc hFc hP1 hD1 hk1 hz1 ht hvm hG
            obtain ⟨hP, hD⟩ := hJ
            refine lv_iconst (v := nI 2) hx hb dX3_heir_88 (by decide) ?_
            refine cki hF (fun hi hF => ?_)
            refine va_iast (D := (dC, dI)) hx hb hK hP hD hS 2 0 rfl rfl hi dX3_heir_89 (fun H locs hP hD hS => ?_)
            have hP : va_P (dC, dI) vwCl (cwM cI b (tW.1, (upd r75 r85.toNatClampNeg (nI 2)), tW.2.2.1, tW.2.2.2.1, tW.2.2.2.2.1, tW.2.2.2.2.2.1, tW.2.2.2.2.2.2.1, tW.2.2.2.2.2.2.2.1, tW.2.2.2.2.2.2.2.2.1, tW.2.2.2.2.2.2.2.2.2.1, tW.2.2.2.2.2.2.2.2.2.2.1, tW.2.2.2.2.2.2.2.2.2.2.2.1, tW.2.2.2.2.2.2.2.2.2.2.2.2.1, tW.2.2.2.2.2.2.2.2.2.2.2.2.2.1, tW.2.2.2.2.2.2.2.2.2.2.2.2.2.2)) H := hP
            have hD : va_D A (cwM cI b (tW.1, (upd r75 r85.toNatClampNeg (nI 2)), tW.2.2.1, tW.2.2.2.1, tW.2.2.2.2.1, tW.2.2.2.2.2.1, tW.2.2.2.2.2.2.1, tW.2.2.2.2.2.2.2.1, tW.2.2.2.2.2.2.2.2.1, tW.2.2.2.2.2.2.2.2.2.1, tW.2.2.2.2.2.2.2.2.2.2.1, tW.2.2.2.2.2.2.2.2.2.2.2.1, tW.2.2.2.2.2.2.2.2.2.2.2.2.1, tW.2.2.2.2.2.2.2.2.2.2.2.2.2.1, tW.2.2.2.2.2.2.2.2.2.2.2.2.2.2)) := hD
            refine lv_aload_n hx hb dX3_heir_90 rfl (lv_at hl 0 rfl) ?_
            refine lv_iload_n hx hb dX3_heir_91 rfl (lv_at hl 1 rfl) ?_
            have hPc := hP.sub (ws' := (cwM cI b (tW.1, (upd r75 r85.toNatClampNeg (nI 2)), tW.2.2.1, tW.2.2.2.1, tW.2.2.2.2.1, tW.2.2.2.2.2.1, tW.2.2.2.2.2.2.1, tW.2.2.2.2.2.2.2.1, tW.2.2.2.2.2.2.2.2.1, tW.2.2.2.2.2.2.2.2.2.1, tW.2.2.2.2.2.2.2.2.2.2.1, tW.2.2.2.2.2.2.2.2.2.2.2.1, tW.2.2.2.2.2.2.2.2.2.2.2.2.1, tW.2.2.2.2.2.2.2.2.2.2.2.2.2.1, tW.2.2.2.2.2.2.2.2.2.2.2.2.2.2))) [0, 1, 2, 3, 4, 5, 6, 7, 8, 9] rfl
            have hDc := hD.sub (ws' := (cwM cI b (tW.1, (upd r75 r85.toNatClampNeg (nI 2)), tW.2.2.1, tW.2.2.2.1, tW.2.2.2.2.1, tW.2.2.2.2.2.1, tW.2.2.2.2.2.2.1, tW.2.2.2.2.2.2.2.1, tW.2.2.2.2.2.2.2.2.1, tW.2.2.2.2.2.2.2.2.2.1, tW.2.2.2.2.2.2.2.2.2.2.1, tW.2.2.2.2.2.2.2.2.2.2.2.1, tW.2.2.2.2.2.2.2.2.2.2.2.2.1, tW.2.2.2.2.2.2.2.2.2.2.2.2.2.1, tW.2.2.2.2.2.2.2.2.2.2.2.2.2.2))) [0, 1, 2, 3, 4, 5, 6, 7, 8, 9] (by decide) rfl
            have hFc := va_free (wc := (cwM cI b (tW.1, (upd r75 r85.toNatClampNeg (nI 2)), tW.2.2.1, tW.2.2.2.1, tW.2.2.2.2.1, tW.2.2.2.2.2.1, tW.2.2.2.2.2.2.1, tW.2.2.2.2.2.2.2.1, tW.2.2.2.2.2.2.2.2.1, tW.2.2.2.2.2.2.2.2.2.1, tW.2.2.2.2.2.2.2.2.2.2.1, tW.2.2.2.2.2.2.2.2.2.2.2.1, tW.2.2.2.2.2.2.2.2.2.2.2.2.1, tW.2.2.2.2.2.2.2.2.2.2.2.2.2.1, tW.2.2.2.2.2.2.2.2.2.2.2.2.2.2))) hD hS hA [0, 1, 2, 3, 4, 5, 6, 7, 8, 9] rfl
            refine bd hF (fun r92 hG hF => ?_)
            refine va_calli (va_runV (As := [.int x1]) (rest := []) ⟨hx, hb, hml, hown, hts⟩ (c_X3_writtenBehind l dC dI cI sf H.size N b (tW.1, (upd r75 r85.toNatClampNeg (nI 2)), tW.2.2.1, tW.2.2.2.1, tW.2.2.2.2.1, tW.2.2.2.2.2.1, tW.2.2.2.2.2.2.1, tW.2.2.2.2.2.2.2.1, tW.2.2.2.2.2.2.2.2.1, tW.2.2.2.2.2.2.2.2.2.1, tW.2.2.2.2.2.2.2.2.2.2.1, tW.2.2.2.2.2.2.2.2.2.2.2.1, tW.2.2.2.2.2.2.2.2.2.2.2.2.1, tW.2.2.2.2.2.2.2.2.2.2.2.2.2.1, tW.2.2.2.2.2.2.2.2.2.2.2.2.2.2) x1 r92 hG) (cwV 1 hts gX3_heir_X3_writtenBehind rfl rfl rfl (by decide +kernel) ⟨Nat.le_of_ble_eq_true rfl, Nat.le_of_ble_eq_true rfl⟩) ⟨fun a U g mk q => ⟨q.1, q.2.call⟩, va_recv hK hP (ci := 3) (q0 := 0) rfl rfl, fun U hU hW => ⟨rfl, PB.of hU hW hPc hK hDc hNN hSF hS hFc⟩⟩ rfl rfl hl.1 rfl (lv_room (Nat.le_of_ble_eq_true rfl)) dX3_heir_92 ⟨Nat.le_of_ble_eq_true rfl, Nat.le_of_ble_eq_true rfl⟩) hS (fun q _ h => hFc q h) hFc (fun z_ u_ t H locs ht hvm hw hB hz1 hk1 hS => ?_)
            subst z_
            obtain ⟨hP1, hD1⟩ := hB
            rw [ht] at hP1
            have hJ := vb_join (ws' := (cwM cI b r92.2)) hP hD [0, 1, 2, 3, 4, 5, 6, 7, 8, 9] [] [0, 1, 2, 3, 4, 5, 6, 7, 8, 9] rfl rfl (by decide) (by decide) hk1 hFc hP1 hD1 rfl (by decide) rfl
            clear hP hD hPc hDc hFc hP1 hD1 hk1 hz1 ht hvm hG
            obtain ⟨hP, hD⟩ := hJ
            refine lv_istore (lv' := [(6, .int r92.1), (0, .ref (b 0)), (1, .int x1), (3, .int x3), (4, .int x4), (5, .int x5)]) hx hb dX3_heir_95 hl (by decide) rfl (fun ls hl => ?_)
            refine lv_iload hx hb dX3_heir_97 (lv_at hl 0 rfl) ?_
            refine lv_iload_n hx hb dX3_heir_99 rfl (lv_at hl 3 rfl) ?_
            refine lv_icmp_gt (tgt := 106) hx hb dX3_heir_100 (by decide) (fun hc => ?_) (fun hc => ?_)
            · have hF := ift hc hF
              refine lv_iload hx hb dX3_heir_106 (lv_at hl 5 rfl) ?_
              refine lv_istore (lv' := [(4, .int x5), (6, .int r92.1), (0, .ref (b 0)), (1, .int x1), (3, .int x3), (5, .int x5)]) hx hb dX3_heir_108 hl (by decide) rfl (fun ls hl => ?_)
              refine lv_iload hx hb dX3_heir_110 (lv_at hl 1 rfl) ?_
              refine lv_istore_n (lv' := [(3, .int r92.1), (4, .int x5), (6, .int r92.1), (0, .ref (b 0)), (1, .int x1), (5, .int x5)]) hx hb dX3_heir_112 rfl hl (by decide) rfl (fun ls hl => ?_)
              exact kJ113 r92.2 x1 r92.1 x5 x5 _ _ _ hF hP hD hS (lv_sub hl [3, 4, 0, 1, 5] rfl)
            · have hF := iff_ hc hF
              refine lv_goto (tgt := 113) hx hb dX3_heir_103 (by decide) ?_
              exact kJ113 r92.2 x1 x3 x4 x5 _ _ _ hF hP hD hS (lv_sub hl [1, 2, 3, 4, 5] rfl)
          · have hF := iff_ (fun h => h hc) hF
            refine lv_goto (tgt := 113) hx hb dX3_heir_64 (by decide) ?_
            exact kJ113 tW x1 x3 x4 x5 _ _ _ hF hP hD hS (lv_sub hl [0, 1, 2, 3, 4] rfl)
    refine lv_istore (lv' := [(5, .int (nI 0)), (4, .int (-9)), (3, .int r30.1), (2, .int r3), (0, .ref (b 0)), (1, .int p1)]) hx hb dX3_heir_39 hl (by decide) rfl (fun ls hl => ?_)
    exact kJ41 N r30.2 p1 r30.1 (-9) (nI 0) _ _ _ hF hP hD hS (lv_sub hl [4, 5, 2, 1, 0] rfl)
  · have hF := iff_ hc hF
    refine lv_aload_n hx hb dX3_heir_11 rfl (lv_at hl 1 rfl) ?_
    refine lv_iload_n hx hb dX3_heir_12 rfl (lv_at hl 0 rfl) ?_
    have hPc := hP.sub (ws' := (cwM cI b tW)) [0, 1, 2, 3, 4, 5, 6, 7, 8, 9] rfl
    have hDc := hD.sub (ws' := (cwM cI b tW)) [0, 1, 2, 3, 4, 5, 6, 7, 8, 9] (by decide) rfl
    have hFc := va_free (wc := (cwM cI b tW)) hD hS hA [0, 1, 2, 3, 4, 5, 6, 7, 8, 9] rfl
    refine bd hF (fun r13 hG hF => ?_)
    refine va_calli (va_runV (As := [.int r3]) (rest := []) ⟨hx, hb, hml, hown, hts⟩ (c_X3_no l dC dI cI sf H.size N b tW r3 r13 hG) (cwV 1 hts gX3_heir_X3_no rfl rfl rfl (by decide +kernel) ⟨Nat.le_of_ble_eq_true rfl, Nat.le_of_ble_eq_true rfl⟩) ⟨fun a U g mk q => ⟨q.1, q.2.call⟩, va_recv hK hP (ci := 3) (q0 := 0) rfl rfl, fun U hU hW => ⟨rfl, PB.of hU hW hPc hK hDc hNN hSF hS hFc⟩⟩ rfl rfl hl.1 rfl (lv_room (Nat.le_of_ble_eq_true rfl)) dX3_heir_13 ⟨Nat.le_of_ble_eq_true rfl, Nat.le_of_ble_eq_true rfl⟩) hS (fun q _ h => hFc q h) hFc (fun z_ u_ t H locs ht hvm hw hB hz1 hk1 hS => ?_)
    subst z_
    obtain ⟨hP1, hD1⟩ := hB
    rw [ht] at hP1
    have hJ := vb_join (ws' := (cwM cI b r13.2)) hP hD [0, 1, 2, 3, 4, 5, 6, 7, 8, 9] [] [0, 1, 2, 3, 4, 5, 6, 7, 8, 9] rfl rfl (by decide) (by decide) hk1 hFc hP1 hD1 rfl (by decide) rfl
    clear hP hD hPc hDc hFc hP1 hD1 hk1 hz1 ht hvm hG
    obtain ⟨hP, hD⟩ := hJ
    obtain rfl := Option.some.inj hF
    exact W.iret (v := r13.1) hx hb hr (fun t ht hW => ⟨⟨r13.1, (), rfl, rfl, QB.of ht hP hD⟩, hS.F ht⟩) hS.2.2 dX3_heir_16
theorem inw_X3_here_X3 : ∀ w ∈ u_ws RX3 TX3 15, w ∈ wsX3_here := fun _ h => List.mem_cons_of_mem _ (List.mem_append_right _ h)
set_option maxHeartbeats 4000000 in
set_option maxRecDepth 100000 in
theorem c_X3_here (l : Launch) (dC : Nat → ClassId) (dI : Nat → Nat → Nat) (cI : ClassId) (sf : SFP) (sz : Nat) (N : Nat) (b : Nat → Nat) (tW : MS) (r : Int32) (hF : F_X3_here N tW = some r) : Met l yX3_here wsX3_here ({ frames := 0, cells := 0, slots := 0, locals := 0 }) (va_Pc [.ref (b 0)] (PB (dC, dI) cI (cwM cI b tW) sz sf)) (va_Qi (fun (z : Int32) (_ : Unit) => z = r) (fun _ t => QB (dC, dI) (cwM cI b tW) (va_A (cwM cI b tW) sz) t) (va_A (cwM cI b tW) sz)) 0 0 (va_A (cwM cI b tW) sz) := by
  refine Met.ofW (cc := cX3_here) (maxL := 1) (ret := (some .int)) (by decide) rfl ?_
  intro p e s m args below meth c s₁ B hml hv
  obtain ⟨rfl, hsz, hP, hK, hD0, hNN, hSF⟩ := hv
  have hx := B.exec
  have hb := B.bytes
  have hr := B.returns
  have hts := atoms_spec (ws := wsX3_here) B.pre
  have hown : s.vm.findClass RX3 = some m.cls := findClass_of_methodNamed B.named
  have hlocks := B.notSynchronized
  subst hsz
  have hD := hD0.self (sz := s.heap.size)
  generalize hAe : va_A (cwM cI b tW) s.heap.size = A at hD hSF ⊢
  have hA : ∀ q : Nat, s.heap.size ≤ q → A q := fun q h => by rw [← hAe]; exact Or.inr h
  clear hAe hD0
  have hS : va_S A s.heap s.heap [] := va_S.rf
  have hl := lv_entry ([.ref (b 0)]) (n := 1) (Nat.le_of_ble_eq_true rfl)
  rw [lg_entry_eq]
  generalize (lg_sl ([.ref (b 0)]) ++ List.replicate (1 - (lg_sl ([.ref (b 0)])).length) Slot.unset).toArray = ls at hl ⊢
  have hl : lv_has ls 1 [(0, .ref (b 0))] := hl
  rw [F_X3_here] at hF
  refine lv_aload_n hx hb dX3_here_0 rfl (lv_at hl 0 rfl) ?_
  refine va_get (D := (dC, dI)) (ci := 3) (v := .int tW.2.2.2.2.2.2.2.2.2.2.1) (C := RX3) (T := TX3) (N := 15) hx hb hts inw_X3_here_X3 hown hK hP 0 rfl rfl 10 (by decide) (hts (.fieldLink RX3 94 "DeniedOfEachOtherModel" "place" "I") (List.mem_of_getElem? (i := 1) rfl)) (fun _ h9 => h9) rfl dX3_here_1 ?_
  refine lv_aload_n hx hb dX3_here_4 rfl (lv_at hl 0 rfl) ?_
  refine va_get (D := (dC, dI)) (ci := 3) (v := .int tW.2.2.2.2.2.2.2.2.1) (C := RX3) (T := TX3) (N := 15) hx hb hts inw_X3_here_X3 hown hK hP 0 rfl rfl 8 (by decide) (hts (.fieldLink RX3 90 "DeniedOfEachOtherModel" "letterMany" "I") (List.mem_of_getElem? (i := 2) rfl)) (fun _ h9 => h9) rfl dX3_here_5 ?_
  refine lv_icmp_ge (tgt := 23) hx hb dX3_here_8 (by decide) (fun hc => ?_) (fun hc => ?_)
  · have hF := ift hc hF
    refine lv_iconst (v := (-1)) hx hb dX3_here_23 (by decide) ?_
    obtain rfl := Option.some.inj hF
    exact W.iret (v := (-1)) hx hb hr (fun t ht hW => ⟨⟨(-1), (), rfl, rfl, QB.of ht hP hD⟩, hS.F ht⟩) hS.2.2 dX3_here_24
  · have hF := iff_ hc hF
    refine lv_aload_n hx hb dX3_here_11 rfl (lv_at hl 0 rfl) ?_
    refine va_get (D := (dC, dI)) (ci := 3) (v := .ref (b 5)) (C := RX3) (T := TX3) (N := 15) hx hb hts inw_X3_here_X3 hown hK hP 0 rfl rfl 5 (by decide) (hts (.fieldLink RX3 22 "DeniedOfEachOtherModel" "letters" "[I") (List.mem_of_getElem? (i := 3) rfl)) (fun _ h9 => h9) rfl dX3_here_12 ?_
    refine lv_aload_n hx hb dX3_here_15 rfl (lv_at hl 0 rfl) ?_
    refine va_get (D := (dC, dI)) (ci := 3) (v := .int tW.2.2.2.2.2.2.2.2.2.2.1) (C := RX3) (T := TX3) (N := 15) hx hb hts inw_X3_here_X3 hown hK hP 0 rfl rfl 10 (by decide) (hts (.fieldLink RX3 94 "DeniedOfEachOtherModel" "place" "I") (List.mem_of_getElem? (i := 1) rfl)) (fun _ h9 => h9) rfl dX3_here_16 ?_
    refine cki hF (fun hi hF => ?_)
    refine va_iald (D := (dC, dI)) hx hb hK hP 5 0 rfl rfl hi dX3_here_19 ?_
    refine lv_goto (tgt := 24) hx hb dX3_here_20 (by decide) ?_
    obtain rfl := Option.some.inj hF
    exact W.iret (v := (tW.2.2.2.2.2.1 tW.2.2.2.2.2.2.2.2.2.2.1.toNatClampNeg)) hx hb hr (fun t ht hW => ⟨⟨(tW.2.2.2.2.2.1 tW.2.2.2.2.2.2.2.2.2.2.1.toNatClampNeg), (), rfl, rfl, QB.of ht hP hD⟩, hS.F ht⟩) hS.2.2 dX3_here_24
theorem inw_X3_image_X3 : ∀ w ∈ u_ws RX3 TX3 15, w ∈ wsX3_image := fun _ h => List.mem_cons_of_mem _ (List.mem_append_right _ h)
set_option maxHeartbeats 4000000 in
set_option maxRecDepth 100000 in
theorem c_X3_image (l : Launch) (dC : Nat → ClassId) (dI : Nat → Nat → Nat) (cI : ClassId) (sf : SFP) (sz : Nat) (N : Nat) (b : Nat → Nat) (tW : MS) (r : (Int32 × MS)) (hF : F_X3_image N tW = some r) : Met l yX3_image wsX3_image ({ frames := 1, cells := 0, slots := 0, locals := 22 }) (va_Pc [.ref (b 0)] (PB (dC, dI) cI (cwM cI b tW) sz sf)) (va_Qi (fun (z : Int32) (_ : Unit) => z = r.1) (fun _ t => QB (dC, dI) (cwM cI b r.2) (va_A (cwM cI b tW) sz) t) (va_A (cwM cI b tW) sz)) 0 0 (va_A (cwM cI b tW) sz) := by
  refine Met.ofW (cc := cX3_image) (maxL := 1) (ret := (some .int)) (by decide) rfl ?_
  intro p e s m args below meth c s₁ B hml hv
  obtain ⟨rfl, hsz, hP, hK, hD0, hNN, hSF⟩ := hv
  have hx := B.exec
  have hb := B.bytes
  have hr := B.returns
  have hts := atoms_spec (ws := wsX3_image) B.pre
  have hown : s.vm.findClass RX3 = some m.cls := findClass_of_methodNamed B.named
  have hlocks := B.notSynchronized
  subst hsz
  have hD := hD0.self (sz := s.heap.size)
  generalize hAe : va_A (cwM cI b tW) s.heap.size = A at hD hSF ⊢
  have hA : ∀ q : Nat, s.heap.size ≤ q → A q := fun q h => by rw [← hAe]; exact Or.inr h
  clear hAe hD0
  have hS : va_S A s.heap s.heap [] := va_S.rf
  have hl := lv_entry ([.ref (b 0)]) (n := 1) (Nat.le_of_ble_eq_true rfl)
  rw [lg_entry_eq]
  generalize (lg_sl ([.ref (b 0)]) ++ List.replicate (1 - (lg_sl ([.ref (b 0)])).length) Slot.unset).toArray = ls at hl ⊢
  have hl : lv_has ls 1 [(0, .ref (b 0))] := hl
  rw [F_X3_image] at hF
  refine lv_aload_n hx hb dX3_image_0 rfl (lv_at hl 0 rfl) ?_
  refine va_get (D := (dC, dI)) (ci := 3) (v := .ref (b 1)) (C := RX3) (T := TX3) (N := 15) hx hb hts inw_X3_image_X3 hown hK hP 0 rfl rfl 0 (by decide) (hts (.fieldLink RX3 9 "DeniedOfEachOtherModel" "s" "[I") (List.mem_of_getElem? (i := 1) rfl)) (fun _ h9 => h9) rfl dX3_image_1 ?_
  refine lv_aload_n hx hb dX3_image_4 rfl (lv_at hl 0 rfl) ?_
  refine va_get (D := (dC, dI)) (ci := 3) (v := .ref (b 3)) (C := RX3) (T := TX3) (N := 15) hx hb hts inw_X3_image_X3 hown hK hP 0 rfl rfl 2 (by decide) (hts (.fieldLink RX3 16 "DeniedOfEachOtherModel" "image" "[I") (List.mem_of_getElem? (i := 2) rfl)) (fun _ h9 => h9) rfl dX3_image_5 ?_
  have hPc := hP.sub (ws' := (cwA cI (b 1) tW.1 ++ cwA cI (b 3) tW.2.2.1)) [1, 3] rfl
  have hDc := hD.sub (ws' := (cwA cI (b 1) tW.1 ++ cwA cI (b 3) tW.2.2.1)) [1, 3] (by decide) rfl
  have hFc := va_free (wc := (cwA cI (b 1) tW.1 ++ cwA cI (b 3) tW.2.2.1)) hD hS hA [1, 3] rfl
  refine bd hF (fun r8 hG hF => ?_)
  refine va_callv (va_runS (As := [.ref (b 1), .ref (b 3)]) (rest := []) ⟨hx, hb, hml, hown, hts⟩ (c_X3_copies l dC dI cI sf s.heap.size N (b 1) (b 3) tW.1 tW.2.2.1 r8 hG) (va_cwS 2 hts gX3_image_X3_copies rfl rfl rfl (by decide +kernel) ⟨Nat.le_of_ble_eq_true rfl, Nat.le_of_ble_eq_true rfl⟩) ⟨fun a U g mk q => ⟨q.1, q.2.call⟩, fun U hU hW => ⟨rfl, PB.of hU hW hPc hK hDc hNN hSF hS hFc⟩⟩ rfl rfl hl.1 rfl (lv_room (Nat.le_of_ble_eq_true rfl)) dX3_image_8 ⟨Nat.le_of_ble_eq_true rfl, Nat.le_of_ble_eq_true rfl⟩) hS (fun q _ h => hFc q h) hFc (fun u_ t H locs ht hvm hw hB hz1 hk1 hS => ?_)
  obtain ⟨hP1, hD1⟩ := hB
  rw [ht] at hP1
  have hJ := vb_join (ws' := (cwM cI b (tW.1, tW.2.1, r8, tW.2.2.2.1, tW.2.2.2.2.1, tW.2.2.2.2.2.1, tW.2.2.2.2.2.2.1, tW.2.2.2.2.2.2.2.1, tW.2.2.2.2.2.2.2.2.1, tW.2.2.2.2.2.2.2.2.2.1, tW.2.2.2.2.2.2.2.2.2.2.1, tW.2.2.2.2.2.2.2.2.2.2.2.1, tW.2.2.2.2.2.2.2.2.2.2.2.2.1, tW.2.2.2.2.2.2.2.2.2.2.2.2.2.1, tW.2.2.2.2.2.2.2.2.2.2.2.2.2.2))) hP hD [1, 3] [0, 2, 4, 5, 6, 7, 8, 9] [0, 8, 1, 9, 2, 3, 4, 5, 6, 7] rfl rfl (by decide) (by decide) hk1 hFc hP1 hD1 rfl (by decide) rfl
  clear hP hD hPc hDc hFc hP1 hD1 hk1 hz1 ht hvm hG
  obtain ⟨hP, hD⟩ := hJ
  refine lv_aload_n hx hb dX3_image_11 rfl (lv_at hl 0 rfl) ?_
  refine lv_iconst (v := nI 1) hx hb dX3_image_12 (by decide) ?_
  refine va_put (D := (dC, dI)) (ci := 3) (v := .int (nI 1)) (ty := .boolean) (C := RX3) (T := TX3) (N := 15) hx hb hts inw_X3_image_X3 tyX3 tyX3_ok nmX3 hown hK hP hD hS 0 rfl rfl 4 (by decide) (hts (.fieldLink RX3 220 "DeniedOfEachOtherModel" "hasImage" "Z") (List.mem_of_getElem? (i := 3) rfl)) (fun _ h9 => h9) rfl (by decide +kernel) (by decide +kernel) (by decide +kernel) (Nat.le_of_ble_eq_true rfl) dX3_image_13 (fun H locs hP hD hS => ?_)
  have hP : va_P (dC, dI) vwCl (cwM cI b (tW.1, tW.2.1, r8, tW.2.2.2.1, (nI 1), tW.2.2.2.2.2.1, tW.2.2.2.2.2.2.1, tW.2.2.2.2.2.2.2.1, tW.2.2.2.2.2.2.2.2.1, tW.2.2.2.2.2.2.2.2.2.1, tW.2.2.2.2.2.2.2.2.2.2.1, tW.2.2.2.2.2.2.2.2.2.2.2.1, tW.2.2.2.2.2.2.2.2.2.2.2.2.1, tW.2.2.2.2.2.2.2.2.2.2.2.2.2.1, tW.2.2.2.2.2.2.2.2.2.2.2.2.2.2)) H := hP
  have hD : va_D A (cwM cI b (tW.1, tW.2.1, r8, tW.2.2.2.1, (nI 1), tW.2.2.2.2.2.1, tW.2.2.2.2.2.2.1, tW.2.2.2.2.2.2.2.1, tW.2.2.2.2.2.2.2.2.1, tW.2.2.2.2.2.2.2.2.2.1, tW.2.2.2.2.2.2.2.2.2.2.1, tW.2.2.2.2.2.2.2.2.2.2.2.1, tW.2.2.2.2.2.2.2.2.2.2.2.2.1, tW.2.2.2.2.2.2.2.2.2.2.2.2.2.1, tW.2.2.2.2.2.2.2.2.2.2.2.2.2.2)) := hD
  refine lv_aload_n hx hb dX3_image_16 rfl (lv_at hl 0 rfl) ?_
  refine va_get (D := (dC, dI)) (ci := 3) (v := .ref (b 1)) (C := RX3) (T := TX3) (N := 15) hx hb hts inw_X3_image_X3 hown hK hP 0 rfl rfl 0 (by decide) (hts (.fieldLink RX3 9 "DeniedOfEachOtherModel" "s" "[I") (List.mem_of_getElem? (i := 1) rfl)) (fun _ h9 => h9) rfl dX3_image_17 ?_
  refine lv_iconst (v := nI 1) hx hb dX3_image_20 (by decide) ?_
  refine va_iald (D := (dC, dI)) hx hb hK hP 1 0 rfl rfl (vp_in_nI (n := 1) (N := 74) (by decide) (by decide)) dX3_image_21 ?_
  obtain rfl := Option.some.inj hF
  exact W.iret (v := (tW.1 (nI 1).toNatClampNeg)) hx hb hr (fun t ht hW => ⟨⟨(tW.1 (nI 1).toNatClampNeg), (), rfl, rfl, QB.of ht hP hD⟩, hS.F ht⟩) hS.2.2 dX3_image_22
theorem inw_X3_isDigit_X3 : ∀ w ∈ u_ws RX3 TX3 15, w ∈ wsX3_isDigit := fun _ h => List.mem_cons_of_mem _ (List.mem_append_right _ h)
set_option maxHeartbeats 4000000 in
set_option maxRecDepth 100000 in
theorem c_X3_isDigit (l : Launch) (dC : Nat → ClassId) (dI : Nat → Nat → Nat) (cI : ClassId) (sf : SFP) (sz : Nat) (N : Nat) (b : Nat → Nat) (tW : MS) (r : Int32) (hF : F_X3_isDigit N tW = some r) : Met l yX3_isDigit wsX3_isDigit ({ frames := 1, cells := 0, slots := 0, locals := 22 }) (va_Pc [.ref (b 0)] (PB (dC, dI) cI (cwM cI b tW) sz sf)) (va_Qi (fun (z : Int32) (_ : Unit) => z = r) (fun _ t => QB (dC, dI) (cwM cI b tW) (va_A (cwM cI b tW) sz) t) (va_A (cwM cI b tW) sz)) 0 0 (va_A (cwM cI b tW) sz) := by
  refine Met.ofW (cc := cX3_isDigit) (maxL := 1) (ret := (some .boolean)) (by decide) rfl ?_
  intro p e s m args below meth c s₁ B hml hv
  obtain ⟨rfl, hsz, hP, hK, hD0, hNN, hSF⟩ := hv
  have hx := B.exec
  have hb := B.bytes
  have hr := B.returns
  have hts := atoms_spec (ws := wsX3_isDigit) B.pre
  have hown : s.vm.findClass RX3 = some m.cls := findClass_of_methodNamed B.named
  have hlocks := B.notSynchronized
  subst hsz
  have hD := hD0.self (sz := s.heap.size)
  generalize hAe : va_A (cwM cI b tW) s.heap.size = A at hD hSF ⊢
  have hA : ∀ q : Nat, s.heap.size ≤ q → A q := fun q h => by rw [← hAe]; exact Or.inr h
  clear hAe hD0
  have hS : va_S A s.heap s.heap [] := va_S.rf
  have hl := lv_entry ([.ref (b 0)]) (n := 1) (Nat.le_of_ble_eq_true rfl)
  rw [lg_entry_eq]
  generalize (lg_sl ([.ref (b 0)]) ++ List.replicate (1 - (lg_sl ([.ref (b 0)])).length) Slot.unset).toArray = ls at hl ⊢
  have hl : lv_has ls 1 [(0, .ref (b 0))] := hl
  rw [F_X3_isDigit] at hF
  refine lv_aload_n hx hb dX3_isDigit_0 rfl (lv_at hl 0 rfl) ?_
  have hPc := hP.sub (ws' := (cwM cI b tW)) [0, 1, 2, 3, 4, 5, 6, 7, 8, 9] rfl
  have hDc := hD.sub (ws' := (cwM cI b tW)) [0, 1, 2, 3, 4, 5, 6, 7, 8, 9] (by decide) rfl
  have hFc := va_free (wc := (cwM cI b tW)) hD hS hA [0, 1, 2, 3, 4, 5, 6, 7, 8, 9] rfl
  refine bd hF (fun r1 hG hF => ?_)
  refine va_calli (va_runV (As := []) (rest := []) ⟨hx, hb, hml, hown, hts⟩ (c_X3_here l dC dI cI sf s.heap.size N b tW r1 hG) (cwV 0 hts gX3_isDigit_X3_here rfl rfl rfl (by decide +kernel) ⟨Nat.le_of_ble_eq_true rfl, Nat.le_of_ble_eq_true rfl⟩) ⟨fun a U g mk q => ⟨q.1, q.2.call⟩, va_recv hK hP (ci := 3) (q0 := 0) rfl rfl, fun U hU hW => ⟨rfl, PB.of hU hW hPc hK hDc hNN hSF hS hFc⟩⟩ rfl rfl hl.1 rfl (lv_room (Nat.le_of_ble_eq_true rfl)) dX3_isDigit_1 ⟨Nat.le_of_ble_eq_true rfl, Nat.le_of_ble_eq_true rfl⟩) hS (fun q _ h => hFc q h) hFc (fun z_ u_ t H locs ht hvm hw hB hz1 hk1 hS => ?_)
  subst z_
  obtain ⟨hP1, hD1⟩ := hB
  rw [ht] at hP1
  have hJ := vb_join (ws' := (cwM cI b tW)) hP hD [0, 1, 2, 3, 4, 5, 6, 7, 8, 9] [] [0, 1, 2, 3, 4, 5, 6, 7, 8, 9] rfl rfl (by decide) (by decide) hk1 hFc hP1 hD1 rfl (by decide) rfl
  clear hP hD hPc hDc hFc hP1 hD1 hk1 hz1 ht hvm hG
  obtain ⟨hP, hD⟩ := hJ
  refine lv_bipush (v := nI 48) hx hb dX3_isDigit_4 (by decide) ?_
  refine lv_bipush (v := nI 57) hx hb dX3_isDigit_6 (by decide) ?_
  have hPc := hP.sub (ws' := ([] : va_W)) [] rfl
  have hDc := hD.sub (ws' := ([] : va_W)) [] (by decide) rfl
  have hFc := va_free (wc := ([] : va_W)) hD hS hA [] rfl
  refine bd hF (fun r8 hG hF => ?_)
  refine va_calli (va_runS (As := [.int r1, .int (nI 48), .int (nI 57)]) (rest := []) ⟨hx, hb, hml, hown, hts⟩ (c_X3_isIn l dC dI cI sf H.size N  r1 (nI 48) (nI 57) r8 hG) (va_cwS 3 hts gX3_isDigit_X3_isIn rfl rfl rfl (by decide +kernel) ⟨Nat.le_of_ble_eq_true rfl, Nat.le_of_ble_eq_true rfl⟩) ⟨fun a U g mk q => ⟨q.1, q.2.call⟩, fun U hU hW => ⟨rfl, PB.of hU hW hPc hK hDc hNN hSF hS hFc⟩⟩ rfl rfl hl.1 rfl (lv_room (Nat.le_of_ble_eq_true rfl)) dX3_isDigit_8 ⟨Nat.le_of_ble_eq_true rfl, Nat.le_of_ble_eq_true rfl⟩) hS (fun q _ h => hFc q h) hFc (fun z_ u_ t H locs ht hvm hw hB hz1 hk1 hS => ?_)
  subst z_
  obtain ⟨hP1, hD1⟩ := hB
  rw [ht] at hP1
  have hJ := vb_join (ws' := (cwM cI b tW)) hP hD [] [0, 1, 2, 3, 4, 5, 6, 7, 8, 9] [0, 1, 2, 3, 4, 5, 6, 7, 8, 9] rfl rfl (by decide) (by decide) hk1 hFc hP1 hD1 rfl (by decide) rfl
  clear hP hD hPc hDc hFc hP1 hD1 hk1 hz1 ht hvm hG
  obtain ⟨hP, hD⟩ := hJ
  refine ckb hF (fun hB hF => ?_)
  obtain rfl := Option.some.inj hF
  exact W.zret (v := r8) (ty := .boolean) hx hb hr hB.1 (fun t ht hW => ⟨⟨r8, (), rfl, rfl, QB.of ht hP hD⟩, hS.F ht⟩) hS.2.2 dX3_isDigit_11
theorem inw_X3_isLiving_X3 : ∀ w ∈ u_ws RX3 TX3 15, w ∈ wsX3_isLiving := fun _ h => List.mem_cons_of_mem _ (List.mem_append_right _ h)
set_option maxHeartbeats 4000000 in
set_option maxRecDepth 100000 in
theorem c_X3_isLiving (l : Launch) (dC : Nat → ClassId) (dI : Nat → Nat → Nat) (cI : ClassId) (sf : SFP) (sz : Nat) (N : Nat) (b : Nat → Nat) (tW : MS) (p1 : Int32) (r : Int32) (hF : F_X3_isLiving N tW p1 = some r) : Met l yX3_isLiving wsX3_isLiving ({ frames := 2, cells := 0, slots := 0, locals := 43 }) (va_Pc [.ref (b 0), .int p1] (PB (dC, dI) cI (cwM cI b tW) sz sf)) (va_Qi (fun (z : Int32) (_ : Unit) => z = r) (fun _ t => QB (dC, dI) (cwM cI b tW) (va_A (cwM cI b tW) sz) t) (va_A (cwM cI b tW) sz)) 0 0 (va_A (cwM cI b tW) sz) := by
  refine Met.ofW (cc := cX3_isLiving) (maxL := 2) (ret := (some .boolean)) (by decide) rfl ?_
  intro p e s m args below meth c s₁ B hml hv
  obtain ⟨rfl, hsz, hP, hK, hD0, hNN, hSF⟩ := hv
  have hx := B.exec
  have hb := B.bytes
  have hr := B.returns
  have hts := atoms_spec (ws := wsX3_isLiving) B.pre
  have hown : s.vm.findClass RX3 = some m.cls := findClass_of_methodNamed B.named
  have hlocks := B.notSynchronized
  subst hsz
  have hD := hD0.self (sz := s.heap.size)
  generalize hAe : va_A (cwM cI b tW) s.heap.size = A at hD hSF ⊢
  have hA : ∀ q : Nat, s.heap.size ≤ q → A q := fun q h => by rw [← hAe]; exact Or.inr h
  clear hAe hD0
  have hS : va_S A s.heap s.heap [] := va_S.rf
  have hl := lv_entry ([.ref (b 0), .int p1]) (n := 2) (Nat.le_of_ble_eq_true rfl)
  rw [lg_entry_eq]
  generalize (lg_sl ([.ref (b 0), .int p1]) ++ List.replicate (2 - (lg_sl ([.ref (b 0), .int p1])).length) Slot.unset).toArray = ls at hl ⊢
  have hl : lv_has ls 2 [(0, .ref (b 0)), (1, .int p1)] := hl
  rw [F_X3_isLiving] at hF
  refine lv_aload_n hx hb dX3_isLiving_0 rfl (lv_at hl 0 rfl) ?_
  refine lv_iload_n hx hb dX3_isLiving_1 rfl (lv_at hl 1 rfl) ?_
  have hPc := hP.sub (ws' := (cwM cI b tW)) [0, 1, 2, 3, 4, 5, 6, 7, 8, 9] rfl
  have hDc := hD.sub (ws' := (cwM cI b tW)) [0, 1, 2, 3, 4, 5, 6, 7, 8, 9] (by decide) rfl
  have hFc := va_free (wc := (cwM cI b tW)) hD hS hA [0, 1, 2, 3, 4, 5, 6, 7, 8, 9] rfl
  refine bd hF (fun r2 hG hF => ?_)
  refine va_calli (va_runV (As := [.int p1]) (rest := []) ⟨hx, hb, hml, hown, hts⟩ (c_X3_isCitizen l dC dI cI sf s.heap.size N b tW p1 r2 hG) (cwV 1 hts gX3_isLiving_X3_isCitizen rfl rfl rfl (by decide +kernel) ⟨Nat.le_of_ble_eq_true rfl, Nat.le_of_ble_eq_true rfl⟩) ⟨fun a U g mk q => ⟨q.1, q.2.call⟩, va_recv hK hP (ci := 3) (q0 := 0) rfl rfl, fun U hU hW => ⟨rfl, PB.of hU hW hPc hK hDc hNN hSF hS hFc⟩⟩ rfl rfl hl.1 rfl (lv_room (Nat.le_of_ble_eq_true rfl)) dX3_isLiving_2 ⟨Nat.le_of_ble_eq_true rfl, Nat.le_of_ble_eq_true rfl⟩) hS (fun q _ h => hFc q h) hFc (fun z_ u_ t H locs ht hvm hw hB hz1 hk1 hS => ?_)
  subst z_
  obtain ⟨hP1, hD1⟩ := hB
  rw [ht] at hP1
  have hJ := vb_join (ws' := (cwM cI b tW)) hP hD [0, 1, 2, 3, 4, 5, 6, 7, 8, 9] [] [0, 1, 2, 3, 4, 5, 6, 7, 8, 9] rfl rfl (by decide) (by decide) hk1 hFc hP1 hD1 rfl (by decide) rfl
  clear hP hD hPc hDc hFc hP1 hD1 hk1 hz1 ht hvm hG
  obtain ⟨hP, hD⟩ := hJ
  refine lv_if_eq (tgt := 23) hx hb dX3_isLiving_5 (by decide) (fun hc => ?_) (fun hc => ?_)
  · have hF := ift hc hF
    refine lv_iconst (v := nI 0) hx hb dX3_isLiving_23 (by decide) ?_
    obtain rfl := Option.some.inj hF
    exact W.zret (v := (nI 0)) (ty := .boolean) hx hb hr (by decide +kernel) (fun t ht hW => ⟨⟨(nI 0), (), rfl, rfl, QB.of ht hP hD⟩, hS.F ht⟩) hS.2.2 dX3_isLiving_24
  · have hF := iff_ hc hF
    refine lv_aload_n hx hb dX3_isLiving_8 rfl (lv_at hl 0 rfl) ?_
    refine va_get (D := (dC, dI)) (ci := 3) (v := .ref (b 1)) (C := RX3) (T := TX3) (N := 15) hx hb hts inw_X3_isLiving_X3 hown hK hP 0 rfl rfl 0 (by decide) (hts (.fieldLink RX3 9 "DeniedOfEachOtherModel" "s" "[I") (List.mem_of_getElem? (i := 1) rfl)) (fun _ h9 => h9) rfl dX3_isLiving_9 ?_
    refine lv_iload_n hx hb dX3_isLiving_12 rfl (lv_at hl 1 rfl) ?_
    have hPc := hP.sub (ws' := (cwA cI (b 1) tW.1)) [1] rfl
    have hDc := hD.sub (ws' := (cwA cI (b 1) tW.1)) [1] (by decide) rfl
    have hFc := va_free (wc := (cwA cI (b 1) tW.1)) hD hS hA [1] rfl
    refine bd hF (fun r13 hG hF => ?_)
    refine va_calli (va_runS (As := [.ref (b 1), .int p1]) (rest := []) ⟨hx, hb, hml, hown, hts⟩ (c_X3_isAlive l dC dI cI sf H.size N (b 1) tW.1 p1 r13 hG) (va_cwS 2 hts gX3_isLiving_X3_isAlive rfl rfl rfl (by decide +kernel) ⟨Nat.le_of_ble_eq_true rfl, Nat.le_of_ble_eq_true rfl⟩) ⟨fun a U g mk q => ⟨q.1, q.2.call⟩, fun U hU hW => ⟨rfl, PB.of hU hW hPc hK hDc hNN hSF hS hFc⟩⟩ rfl rfl hl.1 rfl (lv_room (Nat.le_of_ble_eq_true rfl)) dX3_isLiving_13 ⟨Nat.le_of_ble_eq_true rfl, Nat.le_of_ble_eq_true rfl⟩) hS (fun q _ h => hFc q h) hFc (fun z_ u_ t H locs ht hvm hw hB hz1 hk1 hS => ?_)
    subst z_
    obtain ⟨hP1, hD1⟩ := hB
    rw [ht] at hP1
    have hJ := vb_join (ws' := (cwM cI b tW)) hP hD [1] [0, 2, 3, 4, 5, 6, 7, 8, 9] [0, 9, 1, 2, 3, 4, 5, 6, 7, 8] rfl rfl (by decide) (by decide) hk1 hFc hP1 hD1 rfl (by decide) rfl
    clear hP hD hPc hDc hFc hP1 hD1 hk1 hz1 ht hvm hG
    obtain ⟨hP, hD⟩ := hJ
    refine lv_if_eq (tgt := 23) hx hb dX3_isLiving_16 (by decide) (fun hc => ?_) (fun hc => ?_)
    · have hF := ift hc hF
      refine lv_iconst (v := nI 0) hx hb dX3_isLiving_23 (by decide) ?_
      obtain rfl := Option.some.inj hF
      exact W.zret (v := (nI 0)) (ty := .boolean) hx hb hr (by decide +kernel) (fun t ht hW => ⟨⟨(nI 0), (), rfl, rfl, QB.of ht hP hD⟩, hS.F ht⟩) hS.2.2 dX3_isLiving_24
    · have hF := iff_ hc hF
      refine lv_iconst (v := nI 1) hx hb dX3_isLiving_19 (by decide) ?_
      refine lv_goto (tgt := 24) hx hb dX3_isLiving_20 (by decide) ?_
      obtain rfl := Option.some.inj hF
      exact W.zret (v := (nI 1)) (ty := .boolean) hx hb hr (by decide +kernel) (fun t ht hW => ⟨⟨(nI 1), (), rfl, rfl, QB.of ht hP hD⟩, hS.F ht⟩) hS.2.2 dX3_isLiving_24
set_option maxHeartbeats 4000000 in
set_option maxRecDepth 100000 in
theorem c_X3_isTopic (l : Launch) (dC : Nat → ClassId) (dI : Nat → Nat → Nat) (cI : ClassId) (sf : SFP) (sz : Nat) (N : Nat) (p0 : Int32) (r : Int32) (hF : F_X3_isTopic N p0 = some r) : Met l yX3_isTopic wsX3_isTopic ({ frames := 1, cells := 0, slots := 0, locals := 22 }) (va_Pc [.int p0] (PB (dC, dI) cI ([] : va_W) sz sf)) (va_Qi (fun (z : Int32) (_ : Unit) => z = r) (fun _ t => QB (dC, dI) ([] : va_W) (va_A ([] : va_W) sz) t) (va_A ([] : va_W) sz)) 0 0 (va_A ([] : va_W) sz) := by
  refine Met.ofW (cc := cX3_isTopic) (maxL := 1) (ret := (some .boolean)) (by decide) rfl ?_
  intro p e s m args below meth c s₁ B hml hv
  obtain ⟨rfl, hsz, hP, hK, hD0, hNN, hSF⟩ := hv
  have hx := B.exec
  have hb := B.bytes
  have hr := B.returns
  have hts := atoms_spec (ws := wsX3_isTopic) B.pre
  have hown : s.vm.findClass RX3 = some m.cls := findClass_of_methodNamed B.named
  have hlocks := B.notSynchronized
  subst hsz
  have hD := hD0.self (sz := s.heap.size)
  generalize hAe : va_A ([] : va_W) s.heap.size = A at hD hSF ⊢
  have hA : ∀ q : Nat, s.heap.size ≤ q → A q := fun q h => by rw [← hAe]; exact Or.inr h
  clear hAe hD0
  have hS : va_S A s.heap s.heap [] := va_S.rf
  have hl := lv_entry ([.int p0]) (n := 1) (Nat.le_of_ble_eq_true rfl)
  rw [lg_entry_eq]
  generalize (lg_sl ([.int p0]) ++ List.replicate (1 - (lg_sl ([.int p0])).length) Slot.unset).toArray = ls at hl ⊢
  have hl : lv_has ls 1 [(0, .int p0)] := hl
  rw [F_X3_isTopic] at hF
  refine lv_iload_n hx hb dX3_isTopic_0 rfl (lv_at hl 0 rfl) ?_
  refine lv_iconst (v := nI 0) hx hb dX3_isTopic_1 (by decide) ?_
  refine lv_bipush (v := nI 7) hx hb dX3_isTopic_2 (by decide) ?_
  have hPc := hP.sub (ws' := ([] : va_W)) [] rfl
  have hDc := hD.sub (ws' := ([] : va_W)) [] (by decide) rfl
  have hFc := va_free (wc := ([] : va_W)) hD hS hA [] rfl
  refine bd hF (fun r4 hG hF => ?_)
  refine va_calli (va_runS (As := [.int p0, .int (nI 0), .int (nI 7)]) (rest := []) ⟨hx, hb, hml, hown, hts⟩ (c_X3_isIn l dC dI cI sf s.heap.size N  p0 (nI 0) (nI 7) r4 hG) (va_cwS 3 hts gX3_isTopic_X3_isIn rfl rfl rfl (by decide +kernel) ⟨Nat.le_of_ble_eq_true rfl, Nat.le_of_ble_eq_true rfl⟩) ⟨fun a U g mk q => ⟨q.1, q.2.call⟩, fun U hU hW => ⟨rfl, PB.of hU hW hPc hK hDc hNN hSF hS hFc⟩⟩ rfl rfl hl.1 rfl (lv_room (Nat.le_of_ble_eq_true rfl)) dX3_isTopic_4 ⟨Nat.le_of_ble_eq_true rfl, Nat.le_of_ble_eq_true rfl⟩) hS (fun q _ h => hFc q h) hFc (fun z_ u_ t H locs ht hvm hw hB hz1 hk1 hS => ?_)
  subst z_
  obtain ⟨hP1, hD1⟩ := hB
  rw [ht] at hP1
  have hJ := vb_join (ws' := ([] : va_W)) hP hD [] [] [] rfl rfl (by decide) (by decide) hk1 hFc hP1 hD1 rfl (by decide) rfl
  clear hP hD hPc hDc hFc hP1 hD1 hk1 hz1 ht hvm hG
  obtain ⟨hP, hD⟩ := hJ
  refine ckb hF (fun hB hF => ?_)
  obtain rfl := Option.some.inj hF
  exact W.zret (v := r4) (ty := .boolean) hx hb hr hB.1 (fun t ht hW => ⟨⟨r4, (), rfl, rfl, QB.of ht hP hD⟩, hS.F ht⟩) hS.2.2 dX3_isTopic_7
theorem inw_X3_saysAll_X3 : ∀ w ∈ u_ws RX3 TX3 15, w ∈ wsX3_saysAll := fun _ h => List.mem_cons_of_mem _ (List.mem_append_right _ h)
set_option maxHeartbeats 4000000 in
set_option maxRecDepth 100000 in
theorem c_X3_saysAll (l : Launch) (dC : Nat → ClassId) (dI : Nat → Nat → Nat) (cI : ClassId) (sf : SFP) (sz : Nat) (N : Nat) (b : Nat → Nat) (tW : MS) (p1 : Int32) (r : (Int32 × MS)) (hF : F_X3_saysAll N tW p1 = some r) : Met l yX3_saysAll wsX3_saysAll ({ frames := 3, cells := 0, slots := 0, locals := 64 }) (va_Pc [.ref (b 0), .int p1] (PB (dC, dI) cI (cwM cI b tW) sz sf)) (va_Qi (fun (z : Int32) (_ : Unit) => z = r.1) (fun _ t => QB (dC, dI) (cwM cI b r.2) (va_A (cwM cI b tW) sz) t) (va_A (cwM cI b tW) sz)) 0 0 (va_A (cwM cI b tW) sz) := by
  refine Met.ofW (cc := cX3_saysAll) (maxL := 3) (ret := (some .boolean)) (by decide) rfl ?_
  intro p e s m args below meth c s₁ B hml hv
  obtain ⟨rfl, hsz, hP, hK, hD0, hNN, hSF⟩ := hv
  have hx := B.exec
  have hb := B.bytes
  have hr := B.returns
  have hts := atoms_spec (ws := wsX3_saysAll) B.pre
  have hown : s.vm.findClass RX3 = some m.cls := findClass_of_methodNamed B.named
  have hlocks := B.notSynchronized
  subst hsz
  have hD := hD0.self (sz := s.heap.size)
  generalize hAe : va_A (cwM cI b tW) s.heap.size = A at hD hSF ⊢
  have hA : ∀ q : Nat, s.heap.size ≤ q → A q := fun q h => by rw [← hAe]; exact Or.inr h
  clear hAe hD0
  have hS : va_S A s.heap s.heap [] := va_S.rf
  have hl := lv_entry ([.ref (b 0), .int p1]) (n := 3) (Nat.le_of_ble_eq_true rfl)
  rw [lg_entry_eq]
  generalize (lg_sl ([.ref (b 0), .int p1]) ++ List.replicate (3 - (lg_sl ([.ref (b 0), .int p1])).length) Slot.unset).toArray = ls at hl ⊢
  have hl : lv_has ls 3 [(0, .ref (b 0)), (1, .int p1)] := hl
  rw [F_X3_saysAll] at hF
  refine lv_aload_n hx hb dX3_saysAll_0 rfl (lv_at hl 0 rfl) ?_
  refine lv_iload_n hx hb dX3_saysAll_1 rfl (lv_at hl 1 rfl) ?_
  have hPc := hP.sub (ws' := (cwM cI b tW)) [0, 1, 2, 3, 4, 5, 6, 7, 8, 9] rfl
  have hDc := hD.sub (ws' := (cwM cI b tW)) [0, 1, 2, 3, 4, 5, 6, 7, 8, 9] (by decide) rfl
  have hFc := va_free (wc := (cwM cI b tW)) hD hS hA [0, 1, 2, 3, 4, 5, 6, 7, 8, 9] rfl
  refine bd hF (fun r2 hG hF => ?_)
  refine va_calli (va_runV (As := [.int p1]) (rest := []) ⟨hx, hb, hml, hown, hts⟩ (c_X3_isLiving l dC dI cI sf s.heap.size N b tW p1 r2 hG) (cwV 1 hts gX3_saysAll_X3_isLiving rfl rfl rfl (by decide +kernel) ⟨Nat.le_of_ble_eq_true rfl, Nat.le_of_ble_eq_true rfl⟩) ⟨fun a U g mk q => ⟨q.1, q.2.call⟩, va_recv hK hP (ci := 3) (q0 := 0) rfl rfl, fun U hU hW => ⟨rfl, PB.of hU hW hPc hK hDc hNN hSF hS hFc⟩⟩ rfl rfl hl.1 rfl (lv_room (Nat.le_of_ble_eq_true rfl)) dX3_saysAll_2 ⟨Nat.le_of_ble_eq_true rfl, Nat.le_of_ble_eq_true rfl⟩) hS (fun q _ h => hFc q h) hFc (fun z_ u_ t H locs ht hvm hw hB hz1 hk1 hS => ?_)
  subst z_
  obtain ⟨hP1, hD1⟩ := hB
  rw [ht] at hP1
  have hJ := vb_join (ws' := (cwM cI b tW)) hP hD [0, 1, 2, 3, 4, 5, 6, 7, 8, 9] [] [0, 1, 2, 3, 4, 5, 6, 7, 8, 9] rfl rfl (by decide) (by decide) hk1 hFc hP1 hD1 rfl (by decide) rfl
  clear hP hD hPc hDc hFc hP1 hD1 hk1 hz1 ht hvm hG
  obtain ⟨hP, hD⟩ := hJ
  refine lv_if_ne (tgt := 10) hx hb dX3_saysAll_5 (by decide) (fun hc => ?_) (fun hc => ?_)
  · have hF := ift hc hF
    refine lv_iconst (v := nI 0) hx hb dX3_saysAll_10 (by decide) ?_
    refine vW_have (fun R av Q => ∀ (n12 : Nat) (tW : MS) (x1 : Int32) (x2 : Int32) (H : Heap) (locs : List Loc) (ls : Array Slot), F_X3_saysAll_12 N n12 tW x1 x2 = some r → va_P (dC, dI) vwCl (cwM cI b tW) H → va_D A (cwM cI b tW) → va_S A s.heap H locs → lv_has ls 3 [(0, .ref (b 0)), (1, .int x1), (2, .int x2)] → W p l e R s m av below meth c H locs 0 0 Q (F0 m 12 ls [])) ?_ (fun kJ12 => ?_)
    · intro n12
      induction n12 with
      | zero => intro tW x1 x2 H locs ls hF; exact nn hF
      | succ n12 ih12 =>
        intro tW x1 x2 H locs ls hF hP hD hS hl
        rw [F_X3_saysAll_12] at hF
        refine lv_iload_n hx hb dX3_saysAll_12 rfl (lv_at hl 2 rfl) ?_
        refine lv_aload_n hx hb dX3_saysAll_13 rfl (lv_at hl 0 rfl) ?_
        refine va_get (D := (dC, dI)) (ci := 3) (v := .int tW.2.2.2.2.2.2.2.2.2.2.2.1) (C := RX3) (T := TX3) (N := 15) hx hb hts inw_X3_saysAll_X3 hown hK hP 0 rfl rfl 11 (by decide) (hts (.fieldLink RX3 108 "DeniedOfEachOtherModel" "many" "I") (List.mem_of_getElem? (i := 1) rfl)) (fun _ h9 => h9) rfl dX3_saysAll_14 ?_
        refine vW_have (fun R av Q => ∀ (tW : MS) (x1 : Int32) (H : Heap) (locs : List Loc) (ls : Array Slot), F_X3_saysAll_38 N tW x1 = some r → va_P (dC, dI) vwCl (cwM cI b tW) H → va_D A (cwM cI b tW) → va_S A s.heap H locs → lv_has ls 3 [(0, .ref (b 0)), (1, .int x1)] → W p l e R s m av below meth c H locs 0 0 Q (F0 m 38 ls [])) ?_ (fun kJ38 => ?_)
        · 
          intro tW x1 H locs ls hF hP hD hS hl
          rw [F_X3_saysAll_38] at hF
          refine lv_iconst (v := nI 0) hx hb dX3_saysAll_38 (by decide) ?_
          refine vW_have (fun R av Q => ∀ (n40 : Nat) (tW : MS) (x1 : Int32) (x2 : Int32) (H : Heap) (locs : List Loc) (ls : Array Slot), F_X3_saysAll_40 N n40 tW x1 x2 = some r → va_P (dC, dI) vwCl (cwM cI b tW) H → va_D A (cwM cI b tW) → va_S A s.heap H locs → lv_has ls 3 [(0, .ref (b 0)), (1, .int x1), (2, .int x2)] → W p l e R s m av below meth c H locs 0 0 Q (F0 m 40 ls [])) ?_ (fun kJ40 => ?_)
          · intro n40
            induction n40 with
            | zero => intro tW x1 x2 H locs ls hF; exact nn hF
            | succ n40 ih40 =>
              intro tW x1 x2 H locs ls hF hP hD hS hl
              rw [F_X3_saysAll_40] at hF
              refine lv_iload_n hx hb dX3_saysAll_40 rfl (lv_at hl 2 rfl) ?_
              refine lv_aload_n hx hb dX3_saysAll_41 rfl (lv_at hl 0 rfl) ?_
              refine va_get (D := (dC, dI)) (ci := 3) (v := .int tW.2.2.2.2.2.2.2.2.2.2.2.1) (C := RX3) (T := TX3) (N := 15) hx hb hts inw_X3_saysAll_X3 hown hK hP 0 rfl rfl 11 (by decide) (hts (.fieldLink RX3 108 "DeniedOfEachOtherModel" "many" "I") (List.mem_of_getElem? (i := 1) rfl)) (fun _ h9 => h9) rfl dX3_saysAll_42 ?_
              refine lv_icmp_ge (tgt := 72) hx hb dX3_saysAll_45 (by decide) (fun hc => ?_) (fun hc => ?_)
              · have hF := ift hc hF
                refine lv_iconst (v := nI 1) hx hb dX3_saysAll_72 (by decide) ?_
                obtain rfl := Option.some.inj hF
                exact W.zret (v := (nI 1)) (ty := .boolean) hx hb hr (by decide +kernel) (fun t ht hW => ⟨⟨(nI 1), (), rfl, rfl, QB.of ht hP hD⟩, hS.F ht⟩) hS.2.2 dX3_saysAll_73
              · have hF := iff_ hc hF
                refine lv_aload_n hx hb dX3_saysAll_48 rfl (lv_at hl 0 rfl) ?_
                refine va_get (D := (dC, dI)) (ci := 3) (v := .ref (b 1)) (C := RX3) (T := TX3) (N := 15) hx hb hts inw_X3_saysAll_X3 hown hK hP 0 rfl rfl 0 (by decide) (hts (.fieldLink RX3 9 "DeniedOfEachOtherModel" "s" "[I") (List.mem_of_getElem? (i := 3) rfl)) (fun _ h9 => h9) rfl dX3_saysAll_49 ?_
                refine lv_iload_n hx hb dX3_saysAll_52 rfl (lv_at hl 1 rfl) ?_
                refine lv_iconst (v := nI 4) hx hb dX3_saysAll_53 (by decide) ?_
                refine lv_iload_n hx hb dX3_saysAll_54 rfl (lv_at hl 2 rfl) ?_
                refine lv_iadd hx hb dX3_saysAll_55 ?_
                have hPc := hP.sub (ws' := ([] : va_W)) [] rfl
                have hDc := hD.sub (ws' := ([] : va_W)) [] (by decide) rfl
                have hFc := va_free (wc := ([] : va_W)) hD hS hA [] rfl
                refine bd hF (fun r56 hG hF => ?_)
                refine va_calli (va_runS (As := [.int x1, .int ((nI 4) + x2)]) (rest := [.ref (b 1)]) ⟨hx, hb, hml, hown, hts⟩ (c_X3_of l dC dI cI sf H.size N  x1 ((nI 4) + x2) r56 hG) (va_cwS 2 hts gX3_saysAll_X3_of rfl rfl rfl (by decide +kernel) ⟨Nat.le_of_ble_eq_true rfl, Nat.le_of_ble_eq_true rfl⟩) ⟨fun a U g mk q => ⟨q.1, q.2.call⟩, fun U hU hW => ⟨rfl, PB.of hU hW hPc hK hDc hNN hSF hS hFc⟩⟩ rfl rfl hl.1 rfl (lv_room (Nat.le_of_ble_eq_true rfl)) dX3_saysAll_56 ⟨Nat.le_of_ble_eq_true rfl, Nat.le_of_ble_eq_true rfl⟩) hS (fun q _ h => hFc q h) hFc (fun z_ u_ t H locs ht hvm hw hB hz1 hk1 hS => ?_)
                subst z_
                obtain ⟨hP1, hD1⟩ := hB
                rw [ht] at hP1
                have hJ := vb_join (ws' := (cwM cI b tW)) hP hD [] [0, 1, 2, 3, 4, 5, 6, 7, 8, 9] [0, 1, 2, 3, 4, 5, 6, 7, 8, 9] rfl rfl (by decide) (by decide) hk1 hFc hP1 hD1 rfl (by decide) rfl
                clear hP hD hPc hDc hFc hP1 hD1 hk1 hz1 ht hvm hG
                obtain ⟨hP, hD⟩ := hJ
                refine lv_aload_n hx hb dX3_saysAll_59 rfl (lv_at hl 0 rfl) ?_
                refine va_get (D := (dC, dI)) (ci := 3) (v := .ref (b 9)) (C := RX3) (T := TX3) (N := 15) hx hb hts inw_X3_saysAll_X3 hown hK hP 0 rfl rfl 13 (by decide) (hts (.fieldLink RX3 34 "DeniedOfEachOtherModel" "told" "[I") (List.mem_of_getElem? (i := 2) rfl)) (fun _ h9 => h9) rfl dX3_saysAll_60 ?_
                refine lv_iload_n hx hb dX3_saysAll_63 rfl (lv_at hl 2 rfl) ?_
                refine cki hF (fun hi hF => ?_)
                refine va_iald (D := (dC, dI)) hx hb hK hP 9 0 rfl rfl hi dX3_saysAll_64 ?_
                refine cki hF (fun hi hF => ?_)
                refine va_iast (D := (dC, dI)) hx hb hK hP hD hS 1 0 rfl rfl hi dX3_saysAll_65 (fun H locs hP hD hS => ?_)
                have hP : va_P (dC, dI) vwCl (cwM cI b ((upd tW.1 r56.toNatClampNeg (tW.2.2.2.2.2.2.2.2.2.2.2.2.2.1 x2.toNatClampNeg)), tW.2.1, tW.2.2.1, tW.2.2.2.1, tW.2.2.2.2.1, tW.2.2.2.2.2.1, tW.2.2.2.2.2.2.1, tW.2.2.2.2.2.2.2.1, tW.2.2.2.2.2.2.2.2.1, tW.2.2.2.2.2.2.2.2.2.1, tW.2.2.2.2.2.2.2.2.2.2.1, tW.2.2.2.2.2.2.2.2.2.2.2.1, tW.2.2.2.2.2.2.2.2.2.2.2.2.1, tW.2.2.2.2.2.2.2.2.2.2.2.2.2.1, tW.2.2.2.2.2.2.2.2.2.2.2.2.2.2)) H := hP
                have hD : va_D A (cwM cI b ((upd tW.1 r56.toNatClampNeg (tW.2.2.2.2.2.2.2.2.2.2.2.2.2.1 x2.toNatClampNeg)), tW.2.1, tW.2.2.1, tW.2.2.2.1, tW.2.2.2.2.1, tW.2.2.2.2.2.1, tW.2.2.2.2.2.2.1, tW.2.2.2.2.2.2.2.1, tW.2.2.2.2.2.2.2.2.1, tW.2.2.2.2.2.2.2.2.2.1, tW.2.2.2.2.2.2.2.2.2.2.1, tW.2.2.2.2.2.2.2.2.2.2.2.1, tW.2.2.2.2.2.2.2.2.2.2.2.2.1, tW.2.2.2.2.2.2.2.2.2.2.2.2.2.1, tW.2.2.2.2.2.2.2.2.2.2.2.2.2.2)) := hD
                refine lv_iinc (v := x2 + (nI 1)) (lv' := [(2, .int (x2 + (nI 1))), (0, .ref (b 0)), (1, .int x1)]) hx hb dX3_saysAll_66 hl (k := 2) rfl (by rfl) (by decide) rfl (fun ls hl => ?_)
                refine lv_goto (tgt := 40) hx hb dX3_saysAll_69 (by decide) ?_
                exact ih40 ((upd tW.1 r56.toNatClampNeg (tW.2.2.2.2.2.2.2.2.2.2.2.2.2.1 x2.toNatClampNeg)), tW.2.1, tW.2.2.1, tW.2.2.2.1, tW.2.2.2.2.1, tW.2.2.2.2.2.1, tW.2.2.2.2.2.2.1, tW.2.2.2.2.2.2.2.1, tW.2.2.2.2.2.2.2.2.1, tW.2.2.2.2.2.2.2.2.2.1, tW.2.2.2.2.2.2.2.2.2.2.1, tW.2.2.2.2.2.2.2.2.2.2.2.1, tW.2.2.2.2.2.2.2.2.2.2.2.2.1, tW.2.2.2.2.2.2.2.2.2.2.2.2.2.1, tW.2.2.2.2.2.2.2.2.2.2.2.2.2.2) x1 (x2 + (nI 1)) _ _ _ hF hP hD hS (lv_sub hl [1, 2, 0] rfl)
          refine lv_istore_n (lv' := [(2, .int (nI 0)), (0, .ref (b 0)), (1, .int x1)]) hx hb dX3_saysAll_39 rfl hl (by decide) rfl (fun ls hl => ?_)
          exact kJ40 N tW x1 (nI 0) _ _ _ hF hP hD hS (lv_sub hl [1, 2, 0] rfl)
        refine lv_icmp_ge (tgt := 38) hx hb dX3_saysAll_17 (by decide) (fun hc => ?_) (fun hc => ?_)
        · have hF := ift hc hF
          exact kJ38 tW x1 _ _ _ hF hP hD hS (lv_sub hl [0, 1] rfl)
        · have hF := iff_ hc hF
          refine lv_aload_n hx hb dX3_saysAll_20 rfl (lv_at hl 0 rfl) ?_
          refine va_get (D := (dC, dI)) (ci := 3) (v := .ref (b 9)) (C := RX3) (T := TX3) (N := 15) hx hb hts inw_X3_saysAll_X3 hown hK hP 0 rfl rfl 13 (by decide) (hts (.fieldLink RX3 34 "DeniedOfEachOtherModel" "told" "[I") (List.mem_of_getElem? (i := 2) rfl)) (fun _ h9 => h9) rfl dX3_saysAll_21 ?_
          refine lv_iload_n hx hb dX3_saysAll_24 rfl (lv_at hl 2 rfl) ?_
          refine cki hF (fun hi hF => ?_)
          refine va_iald (D := (dC, dI)) hx hb hK hP 9 0 rfl rfl hi dX3_saysAll_25 ?_
          refine lv_iconst (v := nI 2) hx hb dX3_saysAll_26 (by decide) ?_
          refine lv_icmp_le (tgt := 32) hx hb dX3_saysAll_27 (by decide) (fun hc => ?_) (fun hc => ?_)
          · have hF := ift hc hF
            refine lv_iinc (v := x2 + (nI 1)) (lv' := [(2, .int (x2 + (nI 1))), (0, .ref (b 0)), (1, .int x1)]) hx hb dX3_saysAll_32 hl (k := 2) rfl (by rfl) (by decide) rfl (fun ls hl => ?_)
            refine lv_goto (tgt := 12) hx hb dX3_saysAll_35 (by decide) ?_
            exact ih12 tW x1 (x2 + (nI 1)) _ _ _ hF hP hD hS (lv_sub hl [1, 2, 0] rfl)
          · have hF := iff_ hc hF
            refine lv_iconst (v := nI 0) hx hb dX3_saysAll_30 (by decide) ?_
            obtain rfl := Option.some.inj hF
            exact W.zret (v := (nI 0)) (ty := .boolean) hx hb hr (by decide +kernel) (fun t ht hW => ⟨⟨(nI 0), (), rfl, rfl, QB.of ht hP hD⟩, hS.F ht⟩) hS.2.2 dX3_saysAll_31
    refine lv_istore_n (lv' := [(2, .int (nI 0)), (0, .ref (b 0)), (1, .int p1)]) hx hb dX3_saysAll_11 rfl hl (by decide) rfl (fun ls hl => ?_)
    exact kJ12 N tW p1 (nI 0) _ _ _ hF hP hD hS (lv_sub hl [1, 2, 0] rfl)
  · have hF := iff_ (fun h => h hc) hF
    refine lv_iconst (v := nI 0) hx hb dX3_saysAll_8 (by decide) ?_
    obtain rfl := Option.some.inj hF
    exact W.zret (v := (nI 0)) (ty := .boolean) hx hb hr (by decide +kernel) (fun t ht hW => ⟨⟨(nI 0), (), rfl, rfl, QB.of ht hP hD⟩, hS.F ht⟩) hS.2.2 dX3_saysAll_9
