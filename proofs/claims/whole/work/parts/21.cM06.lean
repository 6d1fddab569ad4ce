theorem inw_X3_leastLiars_X3 : ∀ w ∈ u_ws RX3 TX3 15, w ∈ wsX3_leastLiars := fun _ h => List.mem_cons_of_mem _ (List.mem_append_right _ h)
set_option maxHeartbeats 4000000 in
set_option maxRecDepth 100000 in
theorem c_X3_leastLiars (l : Launch) (dC : Nat → ClassId) (dI : Nat → Nat → Nat) (cI : ClassId) (sf : SFP) (sz : Nat) (N : Nat) (b : Nat → Nat) (tW : MS) (r : (Int32 × MS)) (hF : F_X3_leastLiars N tW = some r) : Met l yX3_leastLiars wsX3_leastLiars ({ frames := 5, cells := 0, slots := 0, locals := 109 }) (va_Pc [.ref (b 0)] (PB (dC, dI) cI (cwM cI b tW) sz sf)) (va_Qi (fun (z : Int32) (_ : Unit) => z = r.1) (fun _ t => QB (dC, dI) (cwM cI b r.2) (va_A (cwM cI b tW) sz) t) (va_A (cwM cI b tW) sz)) 0 0 (va_A (cwM cI b tW) sz) := by
  refine Met.ofW (cc := cX3_leastLiars) (maxL := 5) (ret := (some .int)) (by decide) rfl ?_
  intro p e s m args below meth c s₁ B hml hv
  obtain ⟨rfl, hsz, hP, hK, hD0, hNN, hSF⟩ := hv
  have hx := B.exec
  have hb := B.bytes
  have hr := B.returns
  have hts := atoms_spec (ws := wsX3_leastLiars) B.pre
  have hown : s.vm.findClass RX3 = some m.cls := findClass_of_methodNamed B.named
  have hlocks := B.notSynchronized
  subst hsz
  have hD := hD0.self (sz := s.heap.size)
  generalize hAe : va_A (cwM cI b tW) s.heap.size = A at hD hSF ⊢
  have hA : ∀ q : Nat, s.heap.size ≤ q → A q := fun q h => by rw [← hAe]; exact Or.inr h
  clear hAe hD0
  have hS : va_S A s.heap s.heap [] := va_S.rf
  have hl := lv_entry ([.ref (b 0)]) (n := 5) (Nat.le_of_ble_eq_true rfl)
  rw [lg_entry_eq]
  generalize (lg_sl ([.ref (b 0)]) ++ List.replicate (5 - (lg_sl ([.ref (b 0)])).length) Slot.unset).toArray = ls at hl ⊢
  have hl : lv_has ls 5 [(0, .ref (b 0))] := hl
  rw [F_X3_leastLiars] at hF
  refine lv_aload_n hx hb dX3_leastLiars_0 rfl (lv_at hl 0 rfl) ?_
  refine va_get (D := (dC, dI)) (ci := 3) (v := .ref (b 1)) (C := RX3) (T := TX3) (N := 15) hx hb hts inw_X3_leastLiars_X3 hown hK hP 0 rfl rfl 0 (by decide) (hts (.fieldLink RX3 9 "DeniedOfEachOtherModel" "s" "[I") (List.mem_of_getElem? (i := 1) rfl)) (fun _ h9 => h9) rfl dX3_leastLiars_1 ?_
  have hPc := hP.sub (ws' := (cwA cI (b 1) tW.1)) [1] rfl
  have hDc := hD.sub (ws' := (cwA cI (b 1) tW.1)) [1] (by decide) rfl
  have hFc := va_free (wc := (cwA cI (b 1) tW.1)) hD hS hA [1] rfl
  refine bd hF (fun r4 hG hF => ?_)
  refine va_calli (va_runS (As := [.ref (b 1)]) (rest := []) ⟨hx, hb, hml, hown, hts⟩ (c_X3_livingIn l dC dI cI sf s.heap.size N (b 1) tW.1 r4 hG) (va_cwS 1 hts gX3_leastLiars_X3_livingIn rfl rfl rfl (by decide +kernel) ⟨Nat.le_of_ble_eq_true rfl, Nat.le_of_ble_eq_true rfl⟩) ⟨fun a U g mk q => ⟨q.1, q.2.call⟩, fun U hU hW => ⟨rfl, PB.of hU hW hPc hK hDc hNN hSF hS hFc⟩⟩ rfl rfl hl.1 rfl (lv_room (Nat.le_of_ble_eq_true rfl)) dX3_leastLiars_4 ⟨Nat.le_of_ble_eq_true rfl, Nat.le_of_ble_eq_true rfl⟩) hS (fun q _ h => hFc q h) hFc (fun z_ u_ t H locs ht hvm hw hB hz1 hk1 hS => ?_)
  subst z_
  obtain ⟨hP1, hD1⟩ := hB
  rw [ht] at hP1
  have hJ := vb_join (ws' := (cwM cI b tW)) hP hD [1] [0, 2, 3, 4, 5, 6, 7, 8, 9] [0, 9, 1, 2, 3, 4, 5, 6, 7, 8] rfl rfl (by decide) (by decide) hk1 hFc hP1 hD1 rfl (by decide) rfl
  clear hP hD hPc hDc hFc hP1 hD1 hk1 hz1 ht hvm hG
  obtain ⟨hP, hD⟩ := hJ
  refine lv_istore_n (lv' := [(1, .int r4), (0, .ref (b 0))]) hx hb dX3_leastLiars_7 rfl hl (by decide) rfl (fun ls hl => ?_)
  refine lv_iload_n hx hb dX3_leastLiars_8 rfl (lv_at hl 0 rfl) ?_
  refine lv_istore_n (lv' := [(2, .int r4), (1, .int r4), (0, .ref (b 0))]) hx hb dX3_leastLiars_9 rfl hl (by decide) rfl (fun ls hl => ?_)
  refine lv_iconst (v := nI 0) hx hb dX3_leastLiars_10 (by decide) ?_
  refine vW_have (fun R av Q => ∀ (n12 : Nat) (tW : MS) (x1 : Int32) (x2 : Int32) (x3 : Int32) (H : Heap) (locs : List Loc) (ls : Array Slot), F_X3_leastLiars_12 N n12 tW x1 x2 x3 = some r → va_P (dC, dI) vwCl (cwM cI b tW) H → va_D A (cwM cI b tW) → va_S A s.heap H locs → lv_has ls 5 [(0, .ref (b 0)), (1, .int x1), (2, .int x2), (3, .int x3)] → W p l e R s m av below meth c H locs 0 0 Q (F0 m 12 ls [])) ?_ (fun kJ12 => ?_)
  · intro n12
    induction n12 with
    | zero => intro tW x1 x2 x3 H locs ls hF; exact nn hF
    | succ n12 ih12 =>
      intro tW x1 x2 x3 H locs ls hF hP hD hS hl
      rw [F_X3_leastLiars_12] at hF
      refine lv_iload_n hx hb dX3_leastLiars_12 rfl (lv_at hl 3 rfl) ?_
      refine lv_iload_n hx hb dX3_leastLiars_13 rfl (lv_at hl 1 rfl) ?_
      refine lv_icmp_ge (tgt := 109) hx hb dX3_leastLiars_14 (by decide) (fun hc => ?_) (fun hc => ?_)
      · have hF := ift hc hF
        refine lv_iload_n hx hb dX3_leastLiars_109 rfl (lv_at hl 2 rfl) ?_
        obtain rfl := Option.some.inj hF
        exact W.iret (v := x2) hx hb hr (fun t ht hW => ⟨⟨x2, (), rfl, rfl, QB.of ht hP hD⟩, hS.F ht⟩) hS.2.2 dX3_leastLiars_110
      · have hF := iff_ hc hF
        refine lv_iload_n hx hb dX3_leastLiars_17 rfl (lv_at hl 3 rfl) ?_
        refine lv_iload_n hx hb dX3_leastLiars_18 rfl (lv_at hl 1 rfl) ?_
        refine lv_iconst (v := (-1)) hx hb dX3_leastLiars_19 (by decide) ?_
        refine lv_ixor hx hb dX3_leastLiars_20 ?_
        refine lv_iand hx hb dX3_leastLiars_21 ?_
        refine vW_have (fun R av Q => ∀ (tW : MS) (x1 : Int32) (x2 : Int32) (x3 : Int32) (H : Heap) (locs : List Loc) (ls : Array Slot), F_X3_leastLiars_103 N (fun ctW cx1 cx2 cx3 => F_X3_leastLiars_12 N n12 ctW cx1 cx2 cx3) tW x1 x2 x3 = some r → va_P (dC, dI) vwCl (cwM cI b tW) H → va_D A (cwM cI b tW) → va_S A s.heap H locs → lv_has ls 5 [(0, .ref (b 0)), (1, .int x1), (2, .int x2), (3, .int x3)] → W p l e R s m av below meth c H locs 0 0 Q (F0 m 103 ls [])) ?_ (fun kJ103 => ?_)
        · 
          intro tW x1 x2 x3 H locs ls hF hP hD hS hl
          rw [F_X3_leastLiars_103] at hF
          refine lv_iinc (v := x3 + (nI 1)) (lv' := [(3, .int (x3 + (nI 1))), (0, .ref (b 0)), (1, .int x1), (2, .int x2)]) hx hb dX3_leastLiars_103 hl (k := 3) rfl (by rfl) (by decide) rfl (fun ls hl => ?_)
          refine lv_goto (tgt := 12) hx hb dX3_leastLiars_106 (by decide) ?_
          exact ih12 tW x1 x2 (x3 + (nI 1)) _ _ _ hF hP hD hS (lv_sub hl [1, 2, 3, 0] rfl)
        refine lv_if_ne (tgt := 103) hx hb dX3_leastLiars_22 (by decide) (fun hc => ?_) (fun hc => ?_)
        · have hF := ift hc hF
          exact kJ103 tW x1 x2 x3 _ _ _ hF hP hD hS (lv_sub hl [0, 1, 2, 3] rfl)
        · have hF := iff_ (fun h => h hc) hF
          refine lv_iload_n hx hb dX3_leastLiars_25 rfl (lv_at hl 3 rfl) ?_
          have hPc := hP.sub (ws' := ([] : va_W)) [] rfl
          have hDc := hD.sub (ws' := ([] : va_W)) [] (by decide) rfl
          have hFc := va_free (wc := ([] : va_W)) hD hS hA [] rfl
          refine bd hF (fun r26 hG hF => ?_)
          refine va_calli (va_runS (As := [.int x3]) (rest := []) ⟨hx, hb, hml, hown, hts⟩ (c_X3_bits l dC dI cI sf H.size N  x3 r26 hG) (va_cwS 1 hts gX3_leastLiars_X3_bits rfl rfl rfl (by decide +kernel) ⟨Nat.le_of_ble_eq_true rfl, Nat.le_of_ble_eq_true rfl⟩) ⟨fun a U g mk q => ⟨q.1, q.2.call⟩, fun U hU hW => ⟨rfl, PB.of hU hW hPc hK hDc hNN hSF hS hFc⟩⟩ rfl rfl hl.1 rfl (lv_room (Nat.le_of_ble_eq_true rfl)) dX3_leastLiars_26 ⟨Nat.le_of_ble_eq_true rfl, Nat.le_of_ble_eq_true rfl⟩) hS (fun q _ h => hFc q h) hFc (fun z_ u_ t H locs ht hvm hw hB hz1 hk1 hS => ?_)
          subst z_
          obtain ⟨hP1, hD1⟩ := hB
          rw [ht] at hP1
          have hJ := vb_join (ws' := (cwM cI b tW)) hP hD [] [0, 1, 2, 3, 4, 5, 6, 7, 8, 9] [0, 1, 2, 3, 4, 5, 6, 7, 8, 9] rfl rfl (by decide) (by decide) hk1 hFc hP1 hD1 rfl (by decide) rfl
          clear hP hD hPc hDc hFc hP1 hD1 hk1 hz1 ht hvm hG
          obtain ⟨hP, hD⟩ := hJ
          refine lv_iload_n hx hb dX3_leastLiars_29 rfl (lv_at hl 2 rfl) ?_
          have hPc := hP.sub (ws' := ([] : va_W)) [] rfl
          have hDc := hD.sub (ws' := ([] : va_W)) [] (by decide) rfl
          have hFc := va_free (wc := ([] : va_W)) hD hS hA [] rfl
          refine bd hF (fun r30 hG hF => ?_)
          refine va_calli (va_runS (As := [.int x2]) (rest := [.int r26]) ⟨hx, hb, hml, hown, hts⟩ (c_X3_bits l dC dI cI sf H.size N  x2 r30 hG) (va_cwS 1 hts gX3_leastLiars_X3_bits rfl rfl rfl (by decide +kernel) ⟨Nat.le_of_ble_eq_true rfl, Nat.le_of_ble_eq_true rfl⟩) ⟨fun a U g mk q => ⟨q.1, q.2.call⟩, fun U hU hW => ⟨rfl, PB.of hU hW hPc hK hDc hNN hSF hS hFc⟩⟩ rfl rfl hl.1 rfl (lv_room (Nat.le_of_ble_eq_true rfl)) dX3_leastLiars_30 ⟨Nat.le_of_ble_eq_true rfl, Nat.le_of_ble_eq_true rfl⟩) hS (fun q _ h => hFc q h) hFc (fun z_ u_ t H locs ht hvm hw hB hz1 hk1 hS => ?_)
          subst z_
          obtain ⟨hP1, hD1⟩ := hB
          rw [ht] at hP1
          have hJ := vb_join (ws' := (cwM cI b tW)) hP hD [] [0, 1, 2, 3, 4, 5, 6, 7, 8, 9] [0, 1, 2, 3, 4, 5, 6, 7, 8, 9] rfl rfl (by decide) (by decide) hk1 hFc hP1 hD1 rfl (by decide) rfl
          clear hP hD hPc hDc hFc hP1 hD1 hk1 hz1 ht hvm hG
          obtain ⟨hP, hD⟩ := hJ
          refine lv_icmp_lt (tgt := 39) hx hb dX3_leastLiars_33 (by decide) (fun hc => ?_) (fun hc => ?_)
          · have hF := ift hc hF
            refine lv_aload_n hx hb dX3_leastLiars_39 rfl (lv_at hl 0 rfl) ?_
            refine va_get (D := (dC, dI)) (ci := 3) (v := .ref (b 1)) (C := RX3) (T := TX3) (N := 15) hx hb hts inw_X3_leastLiars_X3 hown hK hP 0 rfl rfl 0 (by decide) (hts (.fieldLink RX3 9 "DeniedOfEachOtherModel" "s" "[I") (List.mem_of_getElem? (i := 1) rfl)) (fun _ h9 => h9) rfl dX3_leastLiars_40 ?_
            refine lv_aload_n hx hb dX3_leastLiars_43 rfl (lv_at hl 0 rfl) ?_
            refine va_get (D := (dC, dI)) (ci := 3) (v := .ref (b 2)) (C := RX3) (T := TX3) (N := 15) hx hb hts inw_X3_leastLiars_X3 hown hK hP 0 rfl rfl 1 (by decide) (hts (.fieldLink RX3 13 "DeniedOfEachOtherModel" "m" "[I") (List.mem_of_getElem? (i := 2) rfl)) (fun _ h9 => h9) rfl dX3_leastLiars_44 ?_
            have hPc := hP.sub (ws' := (cwA cI (b 1) tW.1 ++ cwA cI (b 2) tW.2.1)) [1, 2] rfl
            have hDc := hD.sub (ws' := (cwA cI (b 1) tW.1 ++ cwA cI (b 2) tW.2.1)) [1, 2] (by decide) rfl
            have hFc := va_free (wc := (cwA cI (b 1) tW.1 ++ cwA cI (b 2) tW.2.1)) hD hS hA [1, 2] rfl
            refine bd hF (fun r47 hG hF => ?_)
            refine va_callv (va_runS (As := [.ref (b 1), .ref (b 2)]) (rest := []) ⟨hx, hb, hml, hown, hts⟩ (c_X3_copies l dC dI cI sf H.size N (b 1) (b 2) tW.1 tW.2.1 r47 hG) (va_cwS 2 hts gX3_leastLiars_X3_copies rfl rfl rfl (by decide +kernel) ⟨Nat.le_of_ble_eq_true rfl, Nat.le_of_ble_eq_true rfl⟩) ⟨fun a U g mk q => ⟨q.1, q.2.call⟩, fun U hU hW => ⟨rfl, PB.of hU hW hPc hK hDc hNN hSF hS hFc⟩⟩ rfl rfl hl.1 rfl (lv_room (Nat.le_of_ble_eq_true rfl)) dX3_leastLiars_47 ⟨Nat.le_of_ble_eq_true rfl, Nat.le_of_ble_eq_true rfl⟩) hS (fun q _ h => hFc q h) hFc (fun u_ t H locs ht hvm hw hB hz1 hk1 hS => ?_)
            obtain ⟨hP1, hD1⟩ := hB
            rw [ht] at hP1
            have hJ := vb_join (ws' := (cwM cI b (tW.1, r47, tW.2.2.1, tW.2.2.2.1, tW.2.2.2.2.1, tW.2.2.2.2.2.1, tW.2.2.2.2.2.2.1, tW.2.2.2.2.2.2.2.1, tW.2.2.2.2.2.2.2.2.1, tW.2.2.2.2.2.2.2.2.2.1, tW.2.2.2.2.2.2.2.2.2.2.1, tW.2.2.2.2.2.2.2.2.2.2.2.1, tW.2.2.2.2.2.2.2.2.2.2.2.2.1, tW.2.2.2.2.2.2.2.2.2.2.2.2.2.1, tW.2.2.2.2.2.2.2.2.2.2.2.2.2.2))) hP hD [1, 2] [0, 3, 4, 5, 6, 7, 8, 9] [0, 8, 9, 1, 2, 3, 4, 5, 6, 7] rfl rfl (by decide) (by decide) hk1 hFc hP1 hD1 rfl (by decide) rfl
            clear hP hD hPc hDc hFc hP1 hD1 hk1 hz1 ht hvm hG
            obtain ⟨hP, hD⟩ := hJ
            refine lv_iconst (v := nI 0) hx hb dX3_leastLiars_50 (by decide) ?_
            refine vW_have (fun R av Q => ∀ (n53 : Nat) (tW : MS) (x1 : Int32) (x2 : Int32) (x3 : Int32) (x4 : Int32) (H : Heap) (locs : List Loc) (ls : Array Slot), F_X3_leastLiars_53 N (fun ctW cx1 cx2 cx3 => F_X3_leastLiars_12 N n12 ctW cx1 cx2 cx3) n53 tW x1 x2 x3 x4 = some r → va_P (dC, dI) vwCl (cwM cI b tW) H → va_D A (cwM cI b tW) → va_S A s.heap H locs → lv_has ls 5 [(0, .ref (b 0)), (1, .int x1), (2, .int x2), (3, .int x3), (4, .int x4)] → W p l e R s m av below meth c H locs 0 0 Q (F0 m 53 ls [])) ?_ (fun kJ53 => ?_)
            · intro n53
              induction n53 with
              | zero => intro tW x1 x2 x3 x4 H locs ls hF; exact nn hF
              | succ n53 ih53 =>
                intro tW x1 x2 x3 x4 H locs ls hF hP hD hS hl
                rw [F_X3_leastLiars_53] at hF
                refine lv_iload hx hb dX3_leastLiars_53 (lv_at hl 4 rfl) ?_
                refine lv_aload_n hx hb dX3_leastLiars_55 rfl (lv_at hl 0 rfl) ?_
                refine va_get (D := (dC, dI)) (ci := 3) (v := .ref (b 1)) (C := RX3) (T := TX3) (N := 15) hx hb hts inw_X3_leastLiars_X3 hown hK hP 0 rfl rfl 0 (by decide) (hts (.fieldLink RX3 9 "DeniedOfEachOtherModel" "s" "[I") (List.mem_of_getElem? (i := 1) rfl)) (fun _ h9 => h9) rfl dX3_leastLiars_56 ?_
                refine lv_iconst (v := nI 0) hx hb dX3_leastLiars_59 (by decide) ?_
                refine va_iald (D := (dC, dI)) hx hb hK hP 1 0 rfl rfl (vp_in_nI (n := 0) (N := 74) (by decide) (by decide)) dX3_leastLiars_60 ?_
                refine vW_have (fun R av Q => ∀ (tW : MS) (x1 : Int32) (x2 : Int32) (x3 : Int32) (H : Heap) (locs : List Loc) (ls : Array Slot), F_X3_leastLiars_91 N (fun ctW cx1 cx2 cx3 => F_X3_leastLiars_12 N n12 ctW cx1 cx2 cx3) tW x1 x2 x3 = some r → va_P (dC, dI) vwCl (cwM cI b tW) H → va_D A (cwM cI b tW) → va_S A s.heap H locs → lv_has ls 5 [(0, .ref (b 0)), (1, .int x1), (2, .int x2), (3, .int x3)] → W p l e R s m av below meth c H locs 0 0 Q (F0 m 91 ls [])) ?_ (fun kJ91 => ?_)
                · 
                  intro tW x1 x2 x3 H locs ls hF hP hD hS hl
                  rw [F_X3_leastLiars_91] at hF
                  refine lv_aload_n hx hb dX3_leastLiars_91 rfl (lv_at hl 0 rfl) ?_
                  refine va_get (D := (dC, dI)) (ci := 3) (v := .ref (b 2)) (C := RX3) (T := TX3) (N := 15) hx hb hts inw_X3_leastLiars_X3 hown hK hP 0 rfl rfl 1 (by decide) (hts (.fieldLink RX3 13 "DeniedOfEachOtherModel" "m" "[I") (List.mem_of_getElem? (i := 2) rfl)) (fun _ h9 => h9) rfl dX3_leastLiars_92 ?_
                  have hPc := hP.sub (ws' := (cwA cI (b 2) tW.2.1)) [2] rfl
                  have hDc := hD.sub (ws' := (cwA cI (b 2) tW.2.1)) [2] (by decide) rfl
                  have hFc := va_free (wc := (cwA cI (b 2) tW.2.1)) hD hS hA [2] rfl
                  refine bd hF (fun r95 hG hF => ?_)
                  refine va_calli (va_runS (As := [.ref (b 2)]) (rest := []) ⟨hx, hb, hml, hown, hts⟩ (c_X3_writtenIn l dC dI cI sf H.size N (b 2) tW.2.1 r95 hG) (va_cwS 1 hts gX3_leastLiars_X3_writtenIn rfl rfl rfl (by decide +kernel) ⟨Nat.le_of_ble_eq_true rfl, Nat.le_of_ble_eq_true rfl⟩) ⟨fun a U g mk q => ⟨q.1, q.2.call⟩, fun U hU hW => ⟨rfl, PB.of hU hW hPc hK hDc hNN hSF hS hFc⟩⟩ rfl rfl hl.1 rfl (lv_room (Nat.le_of_ble_eq_true rfl)) dX3_leastLiars_95 ⟨Nat.le_of_ble_eq_true rfl, Nat.le_of_ble_eq_true rfl⟩) hS (fun q _ h => hFc q h) hFc (fun z_ u_ t H locs ht hvm hw hB hz1 hk1 hS => ?_)
                  subst z_
                  obtain ⟨hP1, hD1⟩ := hB
                  rw [ht] at hP1
                  have hJ := vb_join (ws' := (cwM cI b tW)) hP hD [2] [0, 1, 3, 4, 5, 6, 7, 8, 9] [0, 1, 9, 2, 3, 4, 5, 6, 7, 8] rfl rfl (by decide) (by decide) hk1 hFc hP1 hD1 rfl (by decide) rfl
                  clear hP hD hPc hDc hFc hP1 hD1 hk1 hz1 ht hvm hG
                  obtain ⟨hP, hD⟩ := hJ
                  refine lv_if_ne (tgt := 103) hx hb dX3_leastLiars_98 (by decide) (fun hc => ?_) (fun hc => ?_)
                  · have hF := ift hc hF
                    exact kJ103 tW x1 x2 x3 _ _ _ hF hP hD hS (lv_sub hl [0, 1, 2, 3] rfl)
                  · have hF := iff_ (fun h => h hc) hF
                    refine lv_iload_n hx hb dX3_leastLiars_101 rfl (lv_at hl 3 rfl) ?_
                    refine lv_istore_n (lv' := [(2, .int x3), (0, .ref (b 0)), (1, .int x1), (3, .int x3)]) hx hb dX3_leastLiars_102 rfl hl (by decide) rfl (fun ls hl => ?_)
                    exact kJ103 tW x1 x3 x3 _ _ _ hF hP hD hS (lv_sub hl [1, 2, 0, 3] rfl)
                refine lv_icmp_ge (tgt := 91) hx hb dX3_leastLiars_61 (by decide) (fun hc => ?_) (fun hc => ?_)
                · have hF := ift hc hF
                  exact kJ91 tW x1 x2 x3 _ _ _ hF hP hD hS (lv_sub hl [0, 1, 2, 3] rfl)
                · have hF := iff_ hc hF
                  refine lv_iload_n hx hb dX3_leastLiars_64 rfl (lv_at hl 3 rfl) ?_
                  refine lv_iload hx hb dX3_leastLiars_65 (lv_at hl 4 rfl) ?_
                  have hPc := hP.sub (ws' := ([] : va_W)) [] rfl
                  have hDc := hD.sub (ws' := ([] : va_W)) [] (by decide) rfl
                  have hFc := va_free (wc := ([] : va_W)) hD hS hA [] rfl
                  refine bd hF (fun r67 hG hF => ?_)
                  refine va_calli (va_runS (As := [.int x3, .int x4]) (rest := []) ⟨hx, hb, hml, hown, hts⟩ (c_X3_has l dC dI cI sf H.size N  x3 x4 r67 hG) (va_cwS 2 hts gX3_leastLiars_X3_has rfl rfl rfl (by decide +kernel) ⟨Nat.le_of_ble_eq_true rfl, Nat.le_of_ble_eq_true rfl⟩) ⟨fun a U g mk q => ⟨q.1, q.2.call⟩, fun U hU hW => ⟨rfl, PB.of hU hW hPc hK hDc hNN hSF hS hFc⟩⟩ rfl rfl hl.1 rfl (lv_room (Nat.le_of_ble_eq_true rfl)) dX3_leastLiars_67 ⟨Nat.le_of_ble_eq_true rfl, Nat.le_of_ble_eq_true rfl⟩) hS (fun q _ h => hFc q h) hFc (fun z_ u_ t H locs ht hvm hw hB hz1 hk1 hS => ?_)
                  subst z_
                  obtain ⟨hP1, hD1⟩ := hB
                  rw [ht] at hP1
                  have hJ := vb_join (ws' := (cwM cI b tW)) hP hD [] [0, 1, 2, 3, 4, 5, 6, 7, 8, 9] [0, 1, 2, 3, 4, 5, 6, 7, 8, 9] rfl rfl (by decide) (by decide) hk1 hFc hP1 hD1 rfl (by decide) rfl
                  clear hP hD hPc hDc hFc hP1 hD1 hk1 hz1 ht hvm hG
                  obtain ⟨hP, hD⟩ := hJ
                  refine vW_have (fun R av Q => ∀ (tW : MS) (x1 : Int32) (x2 : Int32) (x3 : Int32) (x4 : Int32) (H : Heap) (locs : List Loc) (ls : Array Slot), F_X3_leastLiars_85 N (fun ctW cx1 cx2 cx3 => F_X3_leastLiars_12 N n12 ctW cx1 cx2 cx3) (fun ctW cx1 cx2 cx3 cx4 => F_X3_leastLiars_53 N (fun ctW cx1 cx2 cx3 => F_X3_leastLiars_12 N n12 ctW cx1 cx2 cx3) n53 ctW cx1 cx2 cx3 cx4) tW x1 x2 x3 x4 = some r → va_P (dC, dI) vwCl (cwM cI b tW) H → va_D A (cwM cI b tW) → va_S A s.heap H locs → lv_has ls 5 [(0, .ref (b 0)), (1, .int x1), (2, .int x2), (3, .int x3), (4, .int x4)] → W p l e R s m av below meth c H locs 0 0 Q (F0 m 85 ls [])) ?_ (fun kJ85 => ?_)
                  · 
                    intro tW x1 x2 x3 x4 H locs ls hF hP hD hS hl
                    rw [F_X3_leastLiars_85] at hF
                    refine lv_iinc (v := x4 + (nI 1)) (lv' := [(4, .int (x4 + (nI 1))), (0, .ref (b 0)), (1, .int x1), (2, .int x2), (3, .int x3)]) hx hb dX3_leastLiars_85 hl (k := 4) rfl (by rfl) (by decide) rfl (fun ls hl => ?_)
                    refine lv_goto (tgt := 53) hx hb dX3_leastLiars_88 (by decide) ?_
                    exact ih53 tW x1 x2 x3 (x4 + (nI 1)) _ _ _ hF hP hD hS (lv_sub hl [1, 2, 3, 4, 0] rfl)
                  refine lv_if_eq (tgt := 85) hx hb dX3_leastLiars_70 (by decide) (fun hc => ?_) (fun hc => ?_)
                  · have hF := ift hc hF
                    exact kJ85 tW x1 x2 x3 x4 _ _ _ hF hP hD hS (lv_sub hl [0, 1, 2, 3, 4] rfl)
                  · have hF := iff_ hc hF
                    refine lv_aload_n hx hb dX3_leastLiars_73 rfl (lv_at hl 0 rfl) ?_
                    refine va_get (D := (dC, dI)) (ci := 3) (v := .ref (b 2)) (C := RX3) (T := TX3) (N := 15) hx hb hts inw_X3_leastLiars_X3 hown hK hP 0 rfl rfl 1 (by decide) (hts (.fieldLink RX3 13 "DeniedOfEachOtherModel" "m" "[I") (List.mem_of_getElem? (i := 2) rfl)) (fun _ h9 => h9) rfl dX3_leastLiars_74 ?_
                    refine lv_iload hx hb dX3_leastLiars_77 (lv_at hl 4 rfl) ?_
                    refine lv_iconst (v := nI 3) hx hb dX3_leastLiars_79 (by decide) ?_
                    have hPc := hP.sub (ws' := ([] : va_W)) [] rfl
                    have hDc := hD.sub (ws' := ([] : va_W)) [] (by decide) rfl
                    have hFc := va_free (wc := ([] : va_W)) hD hS hA [] rfl
                    refine bd hF (fun r80 hG hF => ?_)
                    refine va_calli (va_runS (As := [.int x4, .int (nI 3)]) (rest := [.ref (b 2)]) ⟨hx, hb, hml, hown, hts⟩ (c_X3_of l dC dI cI sf H.size N  x4 (nI 3) r80 hG) (va_cwS 2 hts gX3_leastLiars_X3_of rfl rfl rfl (by decide +kernel) ⟨Nat.le_of_ble_eq_true rfl, Nat.le_of_ble_eq_true rfl⟩) ⟨fun a U g mk q => ⟨q.1, q.2.call⟩, fun U hU hW => ⟨rfl, PB.of hU hW hPc hK hDc hNN hSF hS hFc⟩⟩ rfl rfl hl.1 rfl (lv_room (Nat.le_of_ble_eq_true rfl)) dX3_leastLiars_80 ⟨Nat.le_of_ble_eq_true rfl, Nat.le_of_ble_eq_true rfl⟩) hS (fun q _ h => hFc q h) hFc (fun z_ u_ t H locs ht hvm hw hB hz1 hk1 hS => ?_)
                    subst z_
                    obtain ⟨hP1, hD1⟩ := hB
                    rw [ht] at hP1
                    have hJ := vb_join (ws' := (cwM cI b tW)) hP hD [] [0, 1, 2, 3, 4, 5, 6, 7, 8, 9] [0, 1, 2, 3, 4, 5, 6, 7, 8, 9] rfl rfl (by decide) (by decide) hk1 hFc hP1 hD1 rfl (by decide) rfl
                    clear hP hD hPc hDc hFc hP1 hD1 hk1 hz1 ht hvm hG
                    obtain ⟨hP, hD⟩ := hJ
                    refine lv_iconst (v := nI 1) hx hb dX3_leastLiars_83 (by decide) ?_
                    refine cki hF (fun hi hF => ?_)
                    refine va_iast (D := (dC, dI)) hx hb hK hP hD hS 2 0 rfl rfl hi dX3_leastLiars_84 (fun H locs hP hD hS => ?_)
                    have hP : va_P (dC, dI) vwCl (cwM cI b (tW.1, (upd tW.2.1 r80.toNatClampNeg (nI 1)), tW.2.2.1, tW.2.2.2.1, tW.2.2.2.2.1, tW.2.2.2.2.2.1, tW.2.2.2.2.2.2.1, tW.2.2.2.2.2.2.2.1, tW.2.2.2.2.2.2.2.2.1, tW.2.2.2.2.2.2.2.2.2.1, tW.2.2.2.2.2.2.2.2.2.2.1, tW.2.2.2.2.2.2.2.2.2.2.2.1, tW.2.2.2.2.2.2.2.2.2.2.2.2.1, tW.2.2.2.2.2.2.2.2.2.2.2.2.2.1, tW.2.2.2.2.2.2.2.2.2.2.2.2.2.2)) H := hP
                    have hD : va_D A (cwM cI b (tW.1, (upd tW.2.1 r80.toNatClampNeg (nI 1)), tW.2.2.1, tW.2.2.2.1, tW.2.2.2.2.1, tW.2.2.2.2.2.1, tW.2.2.2.2.2.2.1, tW.2.2.2.2.2.2.2.1, tW.2.2.2.2.2.2.2.2.1, tW.2.2.2.2.2.2.2.2.2.1, tW.2.2.2.2.2.2.2.2.2.2.1, tW.2.2.2.2.2.2.2.2.2.2.2.1, tW.2.2.2.2.2.2.2.2.2.2.2.2.1, tW.2.2.2.2.2.2.2.2.2.2.2.2.2.1, tW.2.2.2.2.2.2.2.2.2.2.2.2.2.2)) := hD
                    exact kJ85 (tW.1, (upd tW.2.1 r80.toNatClampNeg (nI 1)), tW.2.2.1, tW.2.2.2.1, tW.2.2.2.2.1, tW.2.2.2.2.2.1, tW.2.2.2.2.2.2.1, tW.2.2.2.2.2.2.2.1, tW.2.2.2.2.2.2.2.2.1, tW.2.2.2.2.2.2.2.2.2.1, tW.2.2.2.2.2.2.2.2.2.2.1, tW.2.2.2.2.2.2.2.2.2.2.2.1, tW.2.2.2.2.2.2.2.2.2.2.2.2.1, tW.2.2.2.2.2.2.2.2.2.2.2.2.2.1, tW.2.2.2.2.2.2.2.2.2.2.2.2.2.2) x1 x2 x3 x4 _ _ _ hF hP hD hS (lv_sub hl [0, 1, 2, 3, 4] rfl)
            refine lv_istore (lv' := [(4, .int (nI 0)), (0, .ref (b 0)), (1, .int x1), (2, .int x2), (3, .int x3)]) hx hb dX3_leastLiars_51 hl (by decide) rfl (fun ls hl => ?_)
            exact kJ53 N (tW.1, r47, tW.2.2.1, tW.2.2.2.1, tW.2.2.2.2.1, tW.2.2.2.2.2.1, tW.2.2.2.2.2.2.1, tW.2.2.2.2.2.2.2.1, tW.2.2.2.2.2.2.2.2.1, tW.2.2.2.2.2.2.2.2.2.1, tW.2.2.2.2.2.2.2.2.2.2.1, tW.2.2.2.2.2.2.2.2.2.2.2.1, tW.2.2.2.2.2.2.2.2.2.2.2.2.1, tW.2.2.2.2.2.2.2.2.2.2.2.2.2.1, tW.2.2.2.2.2.2.2.2.2.2.2.2.2.2) x1 x2 x3 (nI 0) _ _ _ hF hP hD hS (lv_sub hl [1, 2, 3, 4, 0] rfl)
          · have hF := iff_ hc hF
            refine lv_goto (tgt := 103) hx hb dX3_leastLiars_36 (by decide) ?_
            exact kJ103 tW x1 x2 x3 _ _ _ hF hP hD hS (lv_sub hl [0, 1, 2, 3] rfl)
  refine lv_istore_n (lv' := [(3, .int (nI 0)), (2, .int r4), (1, .int r4), (0, .ref (b 0))]) hx hb dX3_leastLiars_11 rfl hl (by decide) rfl (fun ls hl => ?_)
  exact kJ12 N tW r4 r4 (nI 0) _ _ _ hF hP hD hS (lv_sub hl [3, 2, 1, 0] rfl)
theorem inw_X3_letter_X3 : ∀ w ∈ u_ws RX3 TX3 15, w ∈ wsX3_letter := fun _ h => List.mem_cons_of_mem _ (List.mem_append_right _ h)
set_option maxHeartbeats 4000000 in
set_option maxRecDepth 100000 in
theorem c_X3_letter (l : Launch) (dC : Nat → ClassId) (dI : Nat → Nat → Nat) (cI : ClassId) (sf : SFP) (sz : Nat) (N : Nat) (b : Nat → Nat) (tW : MS) (p1 : Int32) (r : (Int32 × MS)) (hF : F_X3_letter N tW p1 = some r) : Met l yX3_letter wsX3_letter ({ frames := 1, cells := 0, slots := 0, locals := 21 }) (va_Pc [.ref (b 0), .int p1] (PB (dC, dI) cI (cwM cI b tW) sz sf)) (va_Qi (fun (z : Int32) (_ : Unit) => z = r.1) (fun _ t => QB (dC, dI) (cwM cI b r.2) (va_A (cwM cI b tW) sz) t) (va_A (cwM cI b tW) sz)) 0 0 (va_A (cwM cI b tW) sz) := by
  refine Met.ofW (cc := cX3_letter) (maxL := 2) (ret := (some .int)) (by decide) rfl ?_
  intro p e s m args below meth c s₁ B hml hv
  obtain ⟨rfl, hsz, hP, hK, hD0, hNN, hSF⟩ := hv
  have hx := B.exec
  have hb := B.bytes
  have hr := B.returns
  have hts := atoms_spec (ws := wsX3_letter) B.pre
  have hown : s.vm.findClass RX3 = some m.cls := findClass_of_methodNamed B.named
  have hlocks := B.notSynchronized
  subst hsz
  have hD := hD0.self (sz := s.heap.size)
  generalize hAe : va_A (cwM cI b tW) s.heap.size = A at hD hSF ⊢
  have hA : ∀ q : Nat, s.heap.size ≤ q → A q := fun q h => by rw [← hAe]; exact Or.inr h
  clear hAe hD0
  have hS : va_S A s.heap s.heap [] := va_S.rf
  have hl := lv_entry ([.ref (b 0), .int p1]) (n := 2) (Nat.le_of_ble_eq_true rfl)
  rw [lg_entry_eq]
  generalize (lg_sl ([.ref (b 0), .int p1]) ++ List.replicate (2 - (lg_sl ([.ref (b 0), .int p1])).length) Slot.unset).toArray = ls at hl ⊢
  have hl : lv_has ls 2 [(0, .ref (b 0)), (1, .int p1)] := hl
  rw [F_X3_letter] at hF
  refine lv_iload_n hx hb dX3_letter_0 rfl (lv_at hl 1 rfl) ?_
  refine lv_if_ge (tgt := 11) hx hb dX3_letter_1 (by decide) (fun hc => ?_) (fun hc => ?_)
  · have hF := ift hc hF
    refine lv_iload_n hx hb dX3_letter_11 rfl (lv_at hl 1 rfl) ?_
    refine lv_sipush (v := nI 255) hx hb dX3_letter_12 (by decide) ?_
    refine vW_have (fun R av Q => ∀ (tW : MS) (H : Heap) (locs : List Loc) (ls : Array Slot), F_X3_letter_27 N tW = some r → va_P (dC, dI) vwCl (cwM cI b tW) H → va_D A (cwM cI b tW) → va_S A s.heap H locs → lv_has ls 2 [(0, .ref (b 0))] → W p l e R s m av below meth c H locs 0 0 Q (F0 m 27 ls [])) ?_ (fun kJ27 => ?_)
    · 
      intro tW H locs ls hF hP hD hS hl
      rw [F_X3_letter_27] at hF
      refine lv_aload_n hx hb dX3_letter_27 rfl (lv_at hl 0 rfl) ?_
      refine lv_bipush (v := (-6)) hx hb dX3_letter_28 (by decide) ?_
      have hPc := hP.sub (ws' := (cwM cI b tW)) [0, 1, 2, 3, 4, 5, 6, 7, 8, 9] rfl
      have hDc := hD.sub (ws' := (cwM cI b tW)) [0, 1, 2, 3, 4, 5, 6, 7, 8, 9] (by decide) rfl
      have hFc := va_free (wc := (cwM cI b tW)) hD hS hA [0, 1, 2, 3, 4, 5, 6, 7, 8, 9] rfl
      refine bd hF (fun r30 hG hF => ?_)
      refine va_calli (va_runV (As := [.int (-6)]) (rest := []) ⟨hx, hb, hml, hown, hts⟩ (c_X3_no l dC dI cI sf H.size N b tW (-6) r30 hG) (cwV 1 hts gX3_letter_X3_no rfl rfl rfl (by decide +kernel) ⟨Nat.le_of_ble_eq_true rfl, Nat.le_of_ble_eq_true rfl⟩) ⟨fun a U g mk q => ⟨q.1, q.2.call⟩, va_recv hK hP (ci := 3) (q0 := 0) rfl rfl, fun U hU hW => ⟨rfl, PB.of hU hW hPc hK hDc hNN hSF hS hFc⟩⟩ rfl rfl hl.1 rfl (lv_room (Nat.le_of_ble_eq_true rfl)) dX3_letter_30 ⟨Nat.le_of_ble_eq_true rfl, Nat.le_of_ble_eq_true rfl⟩) hS (fun q _ h => hFc q h) hFc (fun z_ u_ t H locs ht hvm hw hB hz1 hk1 hS => ?_)
      subst z_
      obtain ⟨hP1, hD1⟩ := hB
      rw [ht] at hP1
      have hJ := vb_join (ws' := (cwM cI b r30.2)) hP hD [0, 1, 2, 3, 4, 5, 6, 7, 8, 9] [] [0, 1, 2, 3, 4, 5, 6, 7, 8, 9] rfl rfl (by decide) (by decide) hk1 hFc hP1 hD1 rfl (by decide) rfl
      clear hP hD hPc hDc hFc hP1 hD1 hk1 hz1 ht hvm hG
      obtain ⟨hP, hD⟩ := hJ
      obtain rfl := Option.some.inj hF
      exact W.iret (v := r30.1) hx hb hr (fun t ht hW => ⟨⟨r30.1, (), rfl, rfl, QB.of ht hP hD⟩, hS.F ht⟩) hS.2.2 dX3_letter_33
    refine lv_icmp_gt (tgt := 27) hx hb dX3_letter_15 (by decide) (fun hc => ?_) (fun hc => ?_)
    · have hF := ift hc hF
      exact kJ27 tW _ _ _ hF hP hD hS (lv_sub hl [0] rfl)
    · have hF := iff_ hc hF
      refine lv_aload_n hx hb dX3_letter_18 rfl (lv_at hl 0 rfl) ?_
      refine va_get (D := (dC, dI)) (ci := 3) (v := .int tW.2.2.2.2.2.2.2.2.1) (C := RX3) (T := TX3) (N := 15) hx hb hts inw_X3_letter_X3 hown hK hP 0 rfl rfl 8 (by decide) (hts (.fieldLink RX3 90 "DeniedOfEachOtherModel" "letterMany" "I") (List.mem_of_getElem? (i := 1) rfl)) (fun _ h9 => h9) rfl dX3_letter_19 ?_
      refine lv_bipush (v := nI 96) hx hb dX3_letter_22 (by decide) ?_
      refine lv_icmp_ne (tgt := 34) hx hb dX3_letter_24 (by decide) (fun hc => ?_) (fun hc => ?_)
      · have hF := ift hc hF
        refine lv_aload_n hx hb dX3_letter_34 rfl (lv_at hl 0 rfl) ?_
        refine va_get (D := (dC, dI)) (ci := 3) (v := .ref (b 5)) (C := RX3) (T := TX3) (N := 15) hx hb hts inw_X3_letter_X3 hown hK hP 0 rfl rfl 5 (by decide) (hts (.fieldLink RX3 22 "DeniedOfEachOtherModel" "letters" "[I") (List.mem_of_getElem? (i := 2) rfl)) (fun _ h9 => h9) rfl dX3_letter_35 ?_
        refine lv_aload_n hx hb dX3_letter_38 rfl (lv_at hl 0 rfl) ?_
        refine va_get (D := (dC, dI)) (ci := 3) (v := .int tW.2.2.2.2.2.2.2.2.1) (C := RX3) (T := TX3) (N := 15) hx hb hts inw_X3_letter_X3 hown hK hP 0 rfl rfl 8 (by decide) (hts (.fieldLink RX3 90 "DeniedOfEachOtherModel" "letterMany" "I") (List.mem_of_getElem? (i := 1) rfl)) (fun _ h9 => h9) rfl dX3_letter_39 ?_
        refine lv_iload_n hx hb dX3_letter_42 rfl (lv_at hl 1 rfl) ?_
        refine cki hF (fun hi hF => ?_)
        refine va_iast (D := (dC, dI)) hx hb hK hP hD hS 5 0 rfl rfl hi dX3_letter_43 (fun H locs hP hD hS => ?_)
        have hP : va_P (dC, dI) vwCl (cwM cI b (tW.1, tW.2.1, tW.2.2.1, tW.2.2.2.1, tW.2.2.2.2.1, (upd tW.2.2.2.2.2.1 tW.2.2.2.2.2.2.2.2.1.toNatClampNeg p1), tW.2.2.2.2.2.2.1, tW.2.2.2.2.2.2.2.1, tW.2.2.2.2.2.2.2.2.1, tW.2.2.2.2.2.2.2.2.2.1, tW.2.2.2.2.2.2.2.2.2.2.1, tW.2.2.2.2.2.2.2.2.2.2.2.1, tW.2.2.2.2.2.2.2.2.2.2.2.2.1, tW.2.2.2.2.2.2.2.2.2.2.2.2.2.1, tW.2.2.2.2.2.2.2.2.2.2.2.2.2.2)) H := hP
        have hD : va_D A (cwM cI b (tW.1, tW.2.1, tW.2.2.1, tW.2.2.2.1, tW.2.2.2.2.1, (upd tW.2.2.2.2.2.1 tW.2.2.2.2.2.2.2.2.1.toNatClampNeg p1), tW.2.2.2.2.2.2.1, tW.2.2.2.2.2.2.2.1, tW.2.2.2.2.2.2.2.2.1, tW.2.2.2.2.2.2.2.2.2.1, tW.2.2.2.2.2.2.2.2.2.2.1, tW.2.2.2.2.2.2.2.2.2.2.2.1, tW.2.2.2.2.2.2.2.2.2.2.2.2.1, tW.2.2.2.2.2.2.2.2.2.2.2.2.2.1, tW.2.2.2.2.2.2.2.2.2.2.2.2.2.2)) := hD
        refine lv_aload_n hx hb dX3_letter_44 rfl (lv_at hl 0 rfl) ?_
        refine lv_dup hx hb dX3_letter_45 rfl ?_
        refine va_get (D := (dC, dI)) (ci := 3) (v := .int tW.2.2.2.2.2.2.2.2.1) (C := RX3) (T := TX3) (N := 15) hx hb hts inw_X3_letter_X3 hown hK hP 0 rfl rfl 8 (by decide) (hts (.fieldLink RX3 90 "DeniedOfEachOtherModel" "letterMany" "I") (List.mem_of_getElem? (i := 1) rfl)) (fun _ h9 => h9) rfl dX3_letter_46 ?_
        refine lv_iconst (v := nI 1) hx hb dX3_letter_49 (by decide) ?_
        refine lv_iadd hx hb dX3_letter_50 ?_
        refine va_put (D := (dC, dI)) (ci := 3) (v := .int (tW.2.2.2.2.2.2.2.2.1 + (nI 1))) (ty := .int) (C := RX3) (T := TX3) (N := 15) hx hb hts inw_X3_letter_X3 tyX3 tyX3_ok nmX3 hown hK hP hD hS 0 rfl rfl 8 (by decide) (hts (.fieldLink RX3 90 "DeniedOfEachOtherModel" "letterMany" "I") (List.mem_of_getElem? (i := 1) rfl)) (fun _ h9 => h9) rfl (by decide +kernel) rfl rfl (Nat.le_of_ble_eq_true rfl) dX3_letter_51 (fun H locs hP hD hS => ?_)
        have hP : va_P (dC, dI) vwCl (cwM cI b (tW.1, tW.2.1, tW.2.2.1, tW.2.2.2.1, tW.2.2.2.2.1, (upd tW.2.2.2.2.2.1 tW.2.2.2.2.2.2.2.2.1.toNatClampNeg p1), tW.2.2.2.2.2.2.1, tW.2.2.2.2.2.2.2.1, (tW.2.2.2.2.2.2.2.2.1 + (nI 1)), tW.2.2.2.2.2.2.2.2.2.1, tW.2.2.2.2.2.2.2.2.2.2.1, tW.2.2.2.2.2.2.2.2.2.2.2.1, tW.2.2.2.2.2.2.2.2.2.2.2.2.1, tW.2.2.2.2.2.2.2.2.2.2.2.2.2.1, tW.2.2.2.2.2.2.2.2.2.2.2.2.2.2)) H := hP
        have hD : va_D A (cwM cI b (tW.1, tW.2.1, tW.2.2.1, tW.2.2.2.1, tW.2.2.2.2.1, (upd tW.2.2.2.2.2.1 tW.2.2.2.2.2.2.2.2.1.toNatClampNeg p1), tW.2.2.2.2.2.2.1, tW.2.2.2.2.2.2.2.1, (tW.2.2.2.2.2.2.2.2.1 + (nI 1)), tW.2.2.2.2.2.2.2.2.2.1, tW.2.2.2.2.2.2.2.2.2.2.1, tW.2.2.2.2.2.2.2.2.2.2.2.1, tW.2.2.2.2.2.2.2.2.2.2.2.2.1, tW.2.2.2.2.2.2.2.2.2.2.2.2.2.1, tW.2.2.2.2.2.2.2.2.2.2.2.2.2.2)) := hD
        refine lv_aload_n hx hb dX3_letter_54 rfl (lv_at hl 0 rfl) ?_
        refine va_get (D := (dC, dI)) (ci := 3) (v := .int (tW.2.2.2.2.2.2.2.2.1 + (nI 1))) (C := RX3) (T := TX3) (N := 15) hx hb hts inw_X3_letter_X3 hown hK hP 0 rfl rfl 8 (by decide) (hts (.fieldLink RX3 90 "DeniedOfEachOtherModel" "letterMany" "I") (List.mem_of_getElem? (i := 1) rfl)) (fun _ h9 => h9) rfl dX3_letter_55 ?_
        obtain rfl := Option.some.inj hF
        exact W.iret (v := (tW.2.2.2.2.2.2.2.2.1 + (nI 1))) hx hb hr (fun t ht hW => ⟨⟨(tW.2.2.2.2.2.2.2.2.1 + (nI 1)), (), rfl, rfl, QB.of ht hP hD⟩, hS.F ht⟩) hS.2.2 dX3_letter_58
      · have hF := iff_ (fun h => h hc) hF
        exact kJ27 tW _ _ _ hF hP hD hS (lv_sub hl [0] rfl)
  · have hF := iff_ hc hF
    refine lv_aload_n hx hb dX3_letter_4 rfl (lv_at hl 0 rfl) ?_
    refine lv_bipush (v := (-4)) hx hb dX3_letter_5 (by decide) ?_
    have hPc := hP.sub (ws' := (cwM cI b tW)) [0, 1, 2, 3, 4, 5, 6, 7, 8, 9] rfl
    have hDc := hD.sub (ws' := (cwM cI b tW)) [0, 1, 2, 3, 4, 5, 6, 7, 8, 9] (by decide) rfl
    have hFc := va_free (wc := (cwM cI b tW)) hD hS hA [0, 1, 2, 3, 4, 5, 6, 7, 8, 9] rfl
    refine bd hF (fun r7 hG hF => ?_)
    refine va_calli (va_runV (As := [.int (-4)]) (rest := []) ⟨hx, hb, hml, hown, hts⟩ (c_X3_no l dC dI cI sf s.heap.size N b tW (-4) r7 hG) (cwV 1 hts gX3_letter_X3_no rfl rfl rfl (by decide +kernel) ⟨Nat.le_of_ble_eq_true rfl, Nat.le_of_ble_eq_true rfl⟩) ⟨fun a U g mk q => ⟨q.1, q.2.call⟩, va_recv hK hP (ci := 3) (q0 := 0) rfl rfl, fun U hU hW => ⟨rfl, PB.of hU hW hPc hK hDc hNN hSF hS hFc⟩⟩ rfl rfl hl.1 rfl (lv_room (Nat.le_of_ble_eq_true rfl)) dX3_letter_7 ⟨Nat.le_of_ble_eq_true rfl, Nat.le_of_ble_eq_true rfl⟩) hS (fun q _ h => hFc q h) hFc (fun z_ u_ t H locs ht hvm hw hB hz1 hk1 hS => ?_)
    subst z_
    obtain ⟨hP1, hD1⟩ := hB
    rw [ht] at hP1
    have hJ := vb_join (ws' := (cwM cI b r7.2)) hP hD [0, 1, 2, 3, 4, 5, 6, 7, 8, 9] [] [0, 1, 2, 3, 4, 5, 6, 7, 8, 9] rfl rfl (by decide) (by decide) hk1 hFc hP1 hD1 rfl (by decide) rfl
    clear hP hD hPc hDc hFc hP1 hD1 hk1 hz1 ht hvm hG
    obtain ⟨hP, hD⟩ := hJ
    obtain rfl := Option.some.inj hF
    exact W.iret (v := r7.1) hx hb hr (fun t ht hW => ⟨⟨r7.1, (), rfl, rfl, QB.of ht hP hD⟩, hS.F ht⟩) hS.2.2 dX3_letter_10
theorem inw_X3_lives_X3 : ∀ w ∈ u_ws RX3 TX3 15, w ∈ wsX3_lives := fun _ h => List.mem_cons_of_mem _ (List.mem_append_right _ h)
set_option maxHeartbeats 4000000 in
set_option maxRecDepth 100000 in
theorem c_X3_lives (l : Launch) (dC : Nat → ClassId) (dI : Nat → Nat → Nat) (cI : ClassId) (sf : SFP) (sz : Nat) (N : Nat) (b : Nat → Nat) (tW : MS) (p1 : Int32) (p2 : Int32) (r : (Int32 × MS)) (hF : F_X3_lives N tW p1 p2 = some r) : Met l yX3_lives wsX3_lives ({ frames := 7, cells := 0, slots := 0, locals := 160 }) (va_Pc [.ref (b 0), .int p1, .int p2] (PB (dC, dI) cI (cwM cI b tW) sz sf)) (va_Qi (fun (z : Int32) (_ : Unit) => z = r.1) (fun _ t => QB (dC, dI) (cwM cI b r.2) (va_A (cwM cI b tW) sz) t) (va_A (cwM cI b tW) sz)) 0 0 (va_A (cwM cI b tW) sz) := by
  refine Met.ofW (cc := cX3_lives) (maxL := 8) (ret := (some .int)) (by decide) rfl ?_
  intro p e s m args below meth c s₁ B hml hv
  obtain ⟨rfl, hsz, hP, hK, hD0, hNN, hSF⟩ := hv
  have hx := B.exec
  have hb := B.bytes
  have hr := B.returns
  have hts := atoms_spec (ws := wsX3_lives) B.pre
  have hown : s.vm.findClass RX3 = some m.cls := findClass_of_methodNamed B.named
  have hlocks := B.notSynchronized
  subst hsz
  have hD := hD0.self (sz := s.heap.size)
  generalize hAe : va_A (cwM cI b tW) s.heap.size = A at hD hSF ⊢
  have hA : ∀ q : Nat, s.heap.size ≤ q → A q := fun q h => by rw [← hAe]; exact Or.inr h
  clear hAe hD0
  have hS : va_S A s.heap s.heap [] := va_S.rf
  have hl := lv_entry ([.ref (b 0), .int p1, .int p2]) (n := 8) (Nat.le_of_ble_eq_true rfl)
  rw [lg_entry_eq]
  generalize (lg_sl ([.ref (b 0), .int p1, .int p2]) ++ List.replicate (8 - (lg_sl ([.ref (b 0), .int p1, .int p2])).length) Slot.unset).toArray = ls at hl ⊢
  have hl : lv_has ls 8 [(0, .ref (b 0)), (1, .int p1), (2, .int p2)] := hl
  rw [F_X3_lives] at hF
  refine lv_iload_n hx hb dX3_lives_0 rfl (lv_at hl 1 rfl) ?_
  refine lv_bipush (v := nI 60) hx hb dX3_lives_1 (by decide) ?_
  have hPc := hP.sub (ws' := ([] : va_W)) [] rfl
  have hDc := hD.sub (ws' := ([] : va_W)) [] (by decide) rfl
  have hFc := va_free (wc := ([] : va_W)) hD hS hA [] rfl
  refine bd hF (fun r3 hG hF => ?_)
  refine va_calli (va_runS (As := [.int p1, .int (nI 60)]) (rest := []) ⟨hx, hb, hml, hown, hts⟩ (c_X3_wrongBy l dC dI cI sf s.heap.size N  p1 (nI 60) r3 hG) (va_cwS 2 hts gX3_lives_X3_wrongBy rfl rfl rfl (by decide +kernel) ⟨Nat.le_of_ble_eq_true rfl, Nat.le_of_ble_eq_true rfl⟩) ⟨fun a U g mk q => ⟨q.1, q.2.call⟩, fun U hU hW => ⟨rfl, PB.of hU hW hPc hK hDc hNN hSF hS hFc⟩⟩ rfl rfl hl.1 rfl (lv_room (Nat.le_of_ble_eq_true rfl)) dX3_lives_3 ⟨Nat.le_of_ble_eq_true rfl, Nat.le_of_ble_eq_true rfl⟩) hS (fun q _ h => hFc q h) hFc (fun z_ u_ t H locs ht hvm hw hB hz1 hk1 hS => ?_)
  subst z_
  obtain ⟨hP1, hD1⟩ := hB
  rw [ht] at hP1
  have hJ := vb_join (ws' := (cwM cI b tW)) hP hD [] [0, 1, 2, 3, 4, 5, 6, 7, 8, 9] [0, 1, 2, 3, 4, 5, 6, 7, 8, 9] rfl rfl (by decide) (by decide) hk1 hFc hP1 hD1 rfl (by decide) rfl
  clear hP hD hPc hDc hFc hP1 hD1 hk1 hz1 ht hvm hG
  obtain ⟨hP, hD⟩ := hJ
  refine lv_istore_n (lv' := [(3, .int r3), (0, .ref (b 0)), (1, .int p1), (2, .int p2)]) hx hb dX3_lives_6 rfl hl (by decide) rfl (fun ls hl => ?_)
  refine lv_iload_n hx hb dX3_lives_7 rfl (lv_at hl 0 rfl) ?_
  refine vW_have (fun R av Q => ∀ (tW : MS) (x1 : Int32) (x2 : Int32) (x3 : Int32) (H : Heap) (locs : List Loc) (ls : Array Slot), F_X3_lives_23 N tW x1 x2 x3 = some r → va_P (dC, dI) vwCl (cwM cI b tW) H → va_D A (cwM cI b tW) → va_S A s.heap H locs → lv_has ls 8 [(0, .ref (b 0)), (1, .int x1), (2, .int x2), (3, .int x3)] → W p l e R s m av below meth c H locs 0 0 Q (F0 m 23 ls [])) ?_ (fun kJ23 => ?_)
  · 
    intro tW x1 x2 x3 H locs ls hF hP hD hS hl
    rw [F_X3_lives_23] at hF
    refine lv_iload_n hx hb dX3_lives_23 rfl (lv_at hl 3 rfl) ?_
    refine lv_if_eq (tgt := 33) hx hb dX3_lives_24 (by decide) (fun hc => ?_) (fun hc => ?_)
    · have hF := ift hc hF
      refine lv_bipush (v := (-9)) hx hb dX3_lives_33 (by decide) ?_
      refine lv_istore (lv' := [(4, .int (-9)), (0, .ref (b 0)), (1, .int x1), (2, .int x2), (3, .int x3)]) hx hb dX3_lives_35 hl (by decide) rfl (fun ls hl => ?_)
      refine lv_ldc (v := nI 1000000000) hx hb hown (hts (.constant RX3 163 (1000000000)) (List.mem_of_getElem? (i := 1) rfl)) dX3_lives_37 ?_
      refine lv_istore (lv' := [(5, .int (nI 1000000000)), (4, .int (-9)), (0, .ref (b 0)), (1, .int x1), (2, .int x2), (3, .int x3)]) hx hb dX3_lives_39 hl (by decide) rfl (fun ls hl => ?_)
      refine lv_iconst (v := nI 0) hx hb dX3_lives_41 (by decide) ?_
      refine vW_have (fun R av Q => ∀ (n44 : Nat) (tW : MS) (x1 : Int32) (x2 : Int32) (x4 : Int32) (x5 : Int32) (x6 : Int32) (H : Heap) (locs : List Loc) (ls : Array Slot), F_X3_lives_44 N n44 tW x1 x2 x4 x5 x6 = some r → va_P (dC, dI) vwCl (cwM cI b tW) H → va_D A (cwM cI b tW) → va_S A s.heap H locs → lv_has ls 8 [(0, .ref (b 0)), (1, .int x1), (2, .int x2), (4, .int x4), (5, .int x5), (6, .int x6)] → W p l e R s m av below meth c H locs 0 0 Q (F0 m 44 ls [])) ?_ (fun kJ44 => ?_)
      · intro n44
        induction n44 with
        | zero => intro tW x1 x2 x4 x5 x6 H locs ls hF; exact nn hF
        | succ n44 ih44 =>
          intro tW x1 x2 x4 x5 x6 H locs ls hF hP hD hS hl
          rw [F_X3_lives_44] at hF
          refine lv_iload hx hb dX3_lives_44 (lv_at hl 5 rfl) ?_
          refine lv_aload_n hx hb dX3_lives_46 rfl (lv_at hl 0 rfl) ?_
          refine va_get (D := (dC, dI)) (ci := 3) (v := .ref (b 1)) (C := RX3) (T := TX3) (N := 15) hx hb hts inw_X3_lives_X3 hown hK hP 0 rfl rfl 0 (by decide) (hts (.fieldLink RX3 9 "DeniedOfEachOtherModel" "s" "[I") (List.mem_of_getElem? (i := 2) rfl)) (fun _ h9 => h9) rfl dX3_lives_47 ?_
          refine lv_iconst (v := nI 0) hx hb dX3_lives_50 (by decide) ?_
          refine va_iald (D := (dC, dI)) hx hb hK hP 1 0 rfl rfl (vp_in_nI (n := 0) (N := 74) (by decide) (by decide)) dX3_lives_51 ?_
          refine vW_have (fun R av Q => ∀ (tW : MS) (x2 : Int32) (x4 : Int32) (x5 : Int32) (H : Heap) (locs : List Loc) (ls : Array Slot), F_X3_lives_124 N tW x2 x4 x5 = some r → va_P (dC, dI) vwCl (cwM cI b tW) H → va_D A (cwM cI b tW) → va_S A s.heap H locs → lv_has ls 8 [(2, .int x2), (4, .int x4), (5, .int x5)] → W p l e R s m av below meth c H locs 0 0 Q (F0 m 124 ls [])) ?_ (fun kJ124 => ?_)
          · 
            intro tW x2 x4 x5 H locs ls hF hP hD hS hl
            rw [F_X3_lives_124] at hF
            refine lv_iload hx hb dX3_lives_124 (lv_at hl 1 rfl) ?_
            refine lv_if_lt (tgt := 133) hx hb dX3_lives_126 (by decide) (fun hc => ?_) (fun hc => ?_)
            · have hF := ift hc hF
              refine lv_iload hx hb dX3_lives_133 (lv_at hl 1 rfl) ?_
              refine lv_goto (tgt := 140) hx hb dX3_lives_135 (by decide) ?_
              obtain rfl := Option.some.inj hF
              exact W.iret (v := x4) hx hb hr (fun t ht hW => ⟨⟨x4, (), rfl, rfl, QB.of ht hP hD⟩, hS.F ht⟩) hS.2.2 dX3_lives_140
            · have hF := iff_ hc hF
              refine lv_iload_n hx hb dX3_lives_129 rfl (lv_at hl 0 rfl) ?_
              refine lv_if_ne (tgt := 138) hx hb dX3_lives_130 (by decide) (fun hc => ?_) (fun hc => ?_)
              · have hF := ift hc hF
                refine lv_iload hx hb dX3_lives_138 (lv_at hl 2 rfl) ?_
                obtain rfl := Option.some.inj hF
                exact W.iret (v := x5) hx hb hr (fun t ht hW => ⟨⟨x5, (), rfl, rfl, QB.of ht hP hD⟩, hS.F ht⟩) hS.2.2 dX3_lives_140
              · have hF := iff_ (fun h => h hc) hF
                refine lv_iload hx hb dX3_lives_133 (lv_at hl 1 rfl) ?_
                refine lv_goto (tgt := 140) hx hb dX3_lives_135 (by decide) ?_
                obtain rfl := Option.some.inj hF
                exact W.iret (v := x4) hx hb hr (fun t ht hW => ⟨⟨x4, (), rfl, rfl, QB.of ht hP hD⟩, hS.F ht⟩) hS.2.2 dX3_lives_140
          refine lv_icmp_ge (tgt := 124) hx hb dX3_lives_52 (by decide) (fun hc => ?_) (fun hc => ?_)
          · have hF := ift hc hF
            exact kJ124 tW x2 x4 x5 _ _ _ hF hP hD hS (lv_sub hl [2, 3, 4] rfl)
          · have hF := iff_ hc hF
            refine lv_aload_n hx hb dX3_lives_55 rfl (lv_at hl 0 rfl) ?_
            refine va_get (D := (dC, dI)) (ci := 3) (v := .ref (b 1)) (C := RX3) (T := TX3) (N := 15) hx hb hts inw_X3_lives_X3 hown hK hP 0 rfl rfl 0 (by decide) (hts (.fieldLink RX3 9 "DeniedOfEachOtherModel" "s" "[I") (List.mem_of_getElem? (i := 2) rfl)) (fun _ h9 => h9) rfl dX3_lives_56 ?_
            refine lv_iload hx hb dX3_lives_59 (lv_at hl 5 rfl) ?_
            have hPc := hP.sub (ws' := (cwA cI (b 1) tW.1)) [1] rfl
            have hDc := hD.sub (ws' := (cwA cI (b 1) tW.1)) [1] (by decide) rfl
            have hFc := va_free (wc := (cwA cI (b 1) tW.1)) hD hS hA [1] rfl
            refine bd hF (fun r61 hG hF => ?_)
            refine va_calli (va_runS (As := [.ref (b 1), .int x6]) (rest := []) ⟨hx, hb, hml, hown, hts⟩ (c_X3_isAlive l dC dI cI sf H.size N (b 1) tW.1 x6 r61 hG) (va_cwS 2 hts gX3_lives_X3_isAlive rfl rfl rfl (by decide +kernel) ⟨Nat.le_of_ble_eq_true rfl, Nat.le_of_ble_eq_true rfl⟩) ⟨fun a U g mk q => ⟨q.1, q.2.call⟩, fun U hU hW => ⟨rfl, PB.of hU hW hPc hK hDc hNN hSF hS hFc⟩⟩ rfl rfl hl.1 rfl (lv_room (Nat.le_of_ble_eq_true rfl)) dX3_lives_61 ⟨Nat.le_of_ble_eq_true rfl, Nat.le_of_ble_eq_true rfl⟩) hS (fun q _ h => hFc q h) hFc (fun z_ u_ t H locs ht hvm hw hB hz1 hk1 hS => ?_)
            subst z_
            obtain ⟨hP1, hD1⟩ := hB
            rw [ht] at hP1
            have hJ := vb_join (ws' := (cwM cI b tW)) hP hD [1] [0, 2, 3, 4, 5, 6, 7, 8, 9] [0, 9, 1, 2, 3, 4, 5, 6, 7, 8] rfl rfl (by decide) (by decide) hk1 hFc hP1 hD1 rfl (by decide) rfl
            clear hP hD hPc hDc hFc hP1 hD1 hk1 hz1 ht hvm hG
            obtain ⟨hP, hD⟩ := hJ
            refine vW_have (fun R av Q => ∀ (tW : MS) (x1 : Int32) (x2 : Int32) (x4 : Int32) (x5 : Int32) (x6 : Int32) (H : Heap) (locs : List Loc) (ls : Array Slot), F_X3_lives_118 N (fun ctW cx1 cx2 cx4 cx5 cx6 => F_X3_lives_44 N n44 ctW cx1 cx2 cx4 cx5 cx6) tW x1 x2 x4 x5 x6 = some r → va_P (dC, dI) vwCl (cwM cI b tW) H → va_D A (cwM cI b tW) → va_S A s.heap H locs → lv_has ls 8 [(0, .ref (b 0)), (1, .int x1), (2, .int x2), (4, .int x4), (5, .int x5), (6, .int x6)] → W p l e R s m av below meth c H locs 0 0 Q (F0 m 118 ls [])) ?_ (fun kJ118 => ?_)
            · 
              intro tW x1 x2 x4 x5 x6 H locs ls hF hP hD hS hl
              rw [F_X3_lives_118] at hF
              refine lv_iinc (v := x6 + (nI 1)) (lv' := [(6, .int (x6 + (nI 1))), (0, .ref (b 0)), (1, .int x1), (2, .int x2), (4, .int x4), (5, .int x5)]) hx hb dX3_lives_118 hl (k := 5) rfl (by rfl) (by decide) rfl (fun ls hl => ?_)
              refine lv_goto (tgt := 44) hx hb dX3_lives_121 (by decide) ?_
              exact ih44 tW x1 x2 x4 x5 (x6 + (nI 1)) _ _ _ hF hP hD hS (lv_sub hl [1, 2, 3, 4, 5, 0] rfl)
            refine lv_if_ne (tgt := 70) hx hb dX3_lives_64 (by decide) (fun hc => ?_) (fun hc => ?_)
            · have hF := ift hc hF
              refine lv_aload_n hx hb dX3_lives_70 rfl (lv_at hl 0 rfl) ?_
              refine va_get (D := (dC, dI)) (ci := 3) (v := .ref (b 1)) (C := RX3) (T := TX3) (N := 15) hx hb hts inw_X3_lives_X3 hown hK hP 0 rfl rfl 0 (by decide) (hts (.fieldLink RX3 9 "DeniedOfEachOtherModel" "s" "[I") (List.mem_of_getElem? (i := 2) rfl)) (fun _ h9 => h9) rfl dX3_lives_71 ?_
              refine lv_aload_n hx hb dX3_lives_74 rfl (lv_at hl 0 rfl) ?_
              refine va_get (D := (dC, dI)) (ci := 3) (v := .ref (b 2)) (C := RX3) (T := TX3) (N := 15) hx hb hts inw_X3_lives_X3 hown hK hP 0 rfl rfl 1 (by decide) (hts (.fieldLink RX3 13 "DeniedOfEachOtherModel" "m" "[I") (List.mem_of_getElem? (i := 3) rfl)) (fun _ h9 => h9) rfl dX3_lives_75 ?_
              have hPc := hP.sub (ws' := (cwA cI (b 1) tW.1 ++ cwA cI (b 2) tW.2.1)) [1, 2] rfl
              have hDc := hD.sub (ws' := (cwA cI (b 1) tW.1 ++ cwA cI (b 2) tW.2.1)) [1, 2] (by decide) rfl
              have hFc := va_free (wc := (cwA cI (b 1) tW.1 ++ cwA cI (b 2) tW.2.1)) hD hS hA [1, 2] rfl
              refine bd hF (fun r78 hG hF => ?_)
              refine va_callv (va_runS (As := [.ref (b 1), .ref (b 2)]) (rest := []) ⟨hx, hb, hml, hown, hts⟩ (c_X3_copies l dC dI cI sf H.size N (b 1) (b 2) tW.1 tW.2.1 r78 hG) (va_cwS 2 hts gX3_lives_X3_copies rfl rfl rfl (by decide +kernel) ⟨Nat.le_of_ble_eq_true rfl, Nat.le_of_ble_eq_true rfl⟩) ⟨fun a U g mk q => ⟨q.1, q.2.call⟩, fun U hU hW => ⟨rfl, PB.of hU hW hPc hK hDc hNN hSF hS hFc⟩⟩ rfl rfl hl.1 rfl (lv_room (Nat.le_of_ble_eq_true rfl)) dX3_lives_78 ⟨Nat.le_of_ble_eq_true rfl, Nat.le_of_ble_eq_true rfl⟩) hS (fun q _ h => hFc q h) hFc (fun u_ t H locs ht hvm hw hB hz1 hk1 hS => ?_)
              obtain ⟨hP1, hD1⟩ := hB
              rw [ht] at hP1
              have hJ := vb_join (ws' := (cwM cI b (tW.1, r78, tW.2.2.1, tW.2.2.2.1, tW.2.2.2.2.1, tW.2.2.2.2.2.1, tW.2.2.2.2.2.2.1, tW.2.2.2.2.2.2.2.1, tW.2.2.2.2.2.2.2.2.1, tW.2.2.2.2.2.2.2.2.2.1, tW.2.2.2.2.2.2.2.2.2.2.1, tW.2.2.2.2.2.2.2.2.2.2.2.1, tW.2.2.2.2.2.2.2.2.2.2.2.2.1, tW.2.2.2.2.2.2.2.2.2.2.2.2.2.1, tW.2.2.2.2.2.2.2.2.2.2.2.2.2.2))) hP hD [1, 2] [0, 3, 4, 5, 6, 7, 8, 9] [0, 8, 9, 1, 2, 3, 4, 5, 6, 7] rfl rfl (by decide) (by decide) hk1 hFc hP1 hD1 rfl (by decide) rfl
              clear hP hD hPc hDc hFc hP1 hD1 hk1 hz1 ht hvm hG
              obtain ⟨hP, hD⟩ := hJ
              refine lv_aload_n hx hb dX3_lives_81 rfl (lv_at hl 0 rfl) ?_
              refine va_get (D := (dC, dI)) (ci := 3) (v := .ref (b 2)) (C := RX3) (T := TX3) (N := 15) hx hb hts inw_X3_lives_X3 hown hK hP 0 rfl rfl 1 (by decide) (hts (.fieldLink RX3 13 "DeniedOfEachOtherModel" "m" "[I") (List.mem_of_getElem? (i := 3) rfl)) (fun _ h9 => h9) rfl dX3_lives_82 ?_
              refine lv_iload hx hb dX3_lives_85 (lv_at hl 5 rfl) ?_
              refine lv_iconst (v := nI 3) hx hb dX3_lives_87 (by decide) ?_
              have hPc := hP.sub (ws' := ([] : va_W)) [] rfl
              have hDc := hD.sub (ws' := ([] : va_W)) [] (by decide) rfl
              have hFc := va_free (wc := ([] : va_W)) hD hS hA [] rfl
              refine bd hF (fun r88 hG hF => ?_)
              refine va_calli (va_runS (As := [.int x6, .int (nI 3)]) (rest := [.ref (b 2)]) ⟨hx, hb, hml, hown, hts⟩ (c_X3_of l dC dI cI sf H.size N  x6 (nI 3) r88 hG) (va_cwS 2 hts gX3_lives_X3_of rfl rfl rfl (by decide +kernel) ⟨Nat.le_of_ble_eq_true rfl, Nat.le_of_ble_eq_true rfl⟩) ⟨fun a U g mk q => ⟨q.1, q.2.call⟩, fun U hU hW => ⟨rfl, PB.of hU hW hPc hK hDc hNN hSF hS hFc⟩⟩ rfl rfl hl.1 rfl (lv_room (Nat.le_of_ble_eq_true rfl)) dX3_lives_88 ⟨Nat.le_of_ble_eq_true rfl, Nat.le_of_ble_eq_true rfl⟩) hS (fun q _ h => hFc q h) hFc (fun z_ u_ t H locs ht hvm hw hB hz1 hk1 hS => ?_)
              subst z_
              obtain ⟨hP1, hD1⟩ := hB
              rw [ht] at hP1
              have hJ := vb_join (ws' := (cwM cI b (tW.1, r78, tW.2.2.1, tW.2.2.2.1, tW.2.2.2.2.1, tW.2.2.2.2.2.1, tW.2.2.2.2.2.2.1, tW.2.2.2.2.2.2.2.1, tW.2.2.2.2.2.2.2.2.1, tW.2.2.2.2.2.2.2.2.2.1, tW.2.2.2.2.2.2.2.2.2.2.1, tW.2.2.2.2.2.2.2.2.2.2.2.1, tW.2.2.2.2.2.2.2.2.2.2.2.2.1, tW.2.2.2.2.2.2.2.2.2.2.2.2.2.1, tW.2.2.2.2.2.2.2.2.2.2.2.2.2.2))) hP hD [] [0, 1, 2, 3, 4, 5, 6, 7, 8, 9] [0, 1, 2, 3, 4, 5, 6, 7, 8, 9] rfl rfl (by decide) (by decide) hk1 hFc hP1 hD1 rfl (by decide) rfl
              clear hP hD hPc hDc hFc hP1 hD1 hk1 hz1 ht hvm hG
              obtain ⟨hP, hD⟩ := hJ
              refine lv_iconst (v := nI 1) hx hb dX3_lives_91 (by decide) ?_
              refine cki hF (fun hi hF => ?_)
              refine va_iast (D := (dC, dI)) hx hb hK hP hD hS 2 0 rfl rfl hi dX3_lives_92 (fun H locs hP hD hS => ?_)
              have hP : va_P (dC, dI) vwCl (cwM cI b (tW.1, (upd r78 r88.toNatClampNeg (nI 1)), tW.2.2.1, tW.2.2.2.1, tW.2.2.2.2.1, tW.2.2.2.2.2.1, tW.2.2.2.2.2.2.1, tW.2.2.2.2.2.2.2.1, tW.2.2.2.2.2.2.2.2.1, tW.2.2.2.2.2.2.2.2.2.1, tW.2.2.2.2.2.2.2.2.2.2.1, tW.2.2.2.2.2.2.2.2.2.2.2.1, tW.2.2.2.2.2.2.2.2.2.2.2.2.1, tW.2.2.2.2.2.2.2.2.2.2.2.2.2.1, tW.2.2.2.2.2.2.2.2.2.2.2.2.2.2)) H := hP
              have hD : va_D A (cwM cI b (tW.1, (upd r78 r88.toNatClampNeg (nI 1)), tW.2.2.1, tW.2.2.2.1, tW.2.2.2.2.1, tW.2.2.2.2.2.1, tW.2.2.2.2.2.2.1, tW.2.2.2.2.2.2.2.1, tW.2.2.2.2.2.2.2.2.1, tW.2.2.2.2.2.2.2.2.2.1, tW.2.2.2.2.2.2.2.2.2.2.1, tW.2.2.2.2.2.2.2.2.2.2.2.1, tW.2.2.2.2.2.2.2.2.2.2.2.2.1, tW.2.2.2.2.2.2.2.2.2.2.2.2.2.1, tW.2.2.2.2.2.2.2.2.2.2.2.2.2.2)) := hD
              refine lv_aload_n hx hb dX3_lives_93 rfl (lv_at hl 0 rfl) ?_
              refine lv_iload_n hx hb dX3_lives_94 rfl (lv_at hl 1 rfl) ?_
              have hPc := hP.sub (ws' := (cwM cI b (tW.1, (upd r78 r88.toNatClampNeg (nI 1)), tW.2.2.1, tW.2.2.2.1, tW.2.2.2.2.1, tW.2.2.2.2.2.1, tW.2.2.2.2.2.2.1, tW.2.2.2.2.2.2.2.1, tW.2.2.2.2.2.2.2.2.1, tW.2.2.2.2.2.2.2.2.2.1, tW.2.2.2.2.2.2.2.2.2.2.1, tW.2.2.2.2.2.2.2.2.2.2.2.1, tW.2.2.2.2.2.2.2.2.2.2.2.2.1, tW.2.2.2.2.2.2.2.2.2.2.2.2.2.1, tW.2.2.2.2.2.2.2.2.2.2.2.2.2.2))) [0, 1, 2, 3, 4, 5, 6, 7, 8, 9] rfl
              have hDc := hD.sub (ws' := (cwM cI b (tW.1, (upd r78 r88.toNatClampNeg (nI 1)), tW.2.2.1, tW.2.2.2.1, tW.2.2.2.2.1, tW.2.2.2.2.2.1, tW.2.2.2.2.2.2.1, tW.2.2.2.2.2.2.2.1, tW.2.2.2.2.2.2.2.2.1, tW.2.2.2.2.2.2.2.2.2.1, tW.2.2.2.2.2.2.2.2.2.2.1, tW.2.2.2.2.2.2.2.2.2.2.2.1, tW.2.2.2.2.2.2.2.2.2.2.2.2.1, tW.2.2.2.2.2.2.2.2.2.2.2.2.2.1, tW.2.2.2.2.2.2.2.2.2.2.2.2.2.2))) [0, 1, 2, 3, 4, 5, 6, 7, 8, 9] (by decide) rfl
              have hFc := va_free (wc := (cwM cI b (tW.1, (upd r78 r88.toNatClampNeg (nI 1)), tW.2.2.1, tW.2.2.2.1, tW.2.2.2.2.1, tW.2.2.2.2.2.1, tW.2.2.2.2.2.2.1, tW.2.2.2.2.2.2.2.1, tW.2.2.2.2.2.2.2.2.1, tW.2.2.2.2.2.2.2.2.2.1, tW.2.2.2.2.2.2.2.2.2.2.1, tW.2.2.2.2.2.2.2.2.2.2.2.1, tW.2.2.2.2.2.2.2.2.2.2.2.2.1, tW.2.2.2.2.2.2.2.2.2.2.2.2.2.1, tW.2.2.2.2.2.2.2.2.2.2.2.2.2.2))) hD hS hA [0, 1, 2, 3, 4, 5, 6, 7, 8, 9] rfl
              refine bd hF (fun r95 hG hF => ?_)
              refine va_calli (va_runV (As := [.int x1]) (rest := []) ⟨hx, hb, hml, hown, hts⟩ (c_X3_writtenBehind l dC dI cI sf H.size N b (tW.1, (upd r78 r88.toNatClampNeg (nI 1)), tW.2.2.1, tW.2.2.2.1, tW.2.2.2.2.1, tW.2.2.2.2.2.1, tW.2.2.2.2.2.2.1, tW.2.2.2.2.2.2.2.1, tW.2.2.2.2.2.2.2.2.1, tW.2.2.2.2.2.2.2.2.2.1, tW.2.2.2.2.2.2.2.2.2.2.1, tW.2.2.2.2.2.2.2.2.2.2.2.1, tW.2.2.2.2.2.2.2.2.2.2.2.2.1, tW.2.2.2.2.2.2.2.2.2.2.2.2.2.1, tW.2.2.2.2.2.2.2.2.2.2.2.2.2.2) x1 r95 hG) (cwV 1 hts gX3_lives_X3_writtenBehind rfl rfl rfl (by decide +kernel) ⟨Nat.le_of_ble_eq_true rfl, Nat.le_of_ble_eq_true rfl⟩) ⟨fun a U g mk q => ⟨q.1, q.2.call⟩, va_recv hK hP (ci := 3) (q0 := 0) rfl rfl, fun U hU hW => ⟨rfl, PB.of hU hW hPc hK hDc hNN hSF hS hFc⟩⟩ rfl rfl hl.1 rfl (lv_room (Nat.le_of_ble_eq_true rfl)) dX3_lives_95 ⟨Nat.le_of_ble_eq_true rfl, Nat.le_of_ble_eq_true rfl⟩) hS (fun q _ h => hFc q h) hFc (fun z_ u_ t H locs ht hvm hw hB hz1 hk1 hS => ?_)
              subst z_
              obtain ⟨hP1, hD1⟩ := hB
              rw [ht] at hP1
              have hJ := vb_join (ws' := (cwM cI b r95.2)) hP hD [0, 1, 2, 3, 4, 5, 6, 7, 8, 9] [] [0, 1, 2, 3, 4, 5, 6, 7, 8, 9] rfl rfl (by decide) (by decide) hk1 hFc hP1 hD1 rfl (by decide) rfl
              clear hP hD hPc hDc hFc hP1 hD1 hk1 hz1 ht hvm hG
              obtain ⟨hP, hD⟩ := hJ
              refine lv_istore (lv' := [(7, .int r95.1), (0, .ref (b 0)), (1, .int x1), (2, .int x2), (4, .int x4), (5, .int x5), (6, .int x6)]) hx hb dX3_lives_98 hl (by decide) rfl (fun ls hl => ?_)
              refine lv_iload hx hb dX3_lives_100 (lv_at hl 0 rfl) ?_
              refine lv_iload hx hb dX3_lives_102 (lv_at hl 5 rfl) ?_
              refine lv_icmp_lt (tgt := 110) hx hb dX3_lives_104 (by decide) (fun hc => ?_) (fun hc => ?_)
              · have hF := ift hc hF
                refine lv_iload hx hb dX3_lives_110 (lv_at hl 6 rfl) ?_
                refine lv_istore (lv' := [(4, .int x6), (7, .int r95.1), (0, .ref (b 0)), (1, .int x1), (2, .int x2), (5, .int x5), (6, .int x6)]) hx hb dX3_lives_112 hl (by decide) rfl (fun ls hl => ?_)
                refine lv_iload hx hb dX3_lives_114 (lv_at hl 1 rfl) ?_
                refine lv_istore (lv' := [(5, .int r95.1), (4, .int x6), (7, .int r95.1), (0, .ref (b 0)), (1, .int x1), (2, .int x2), (6, .int x6)]) hx hb dX3_lives_116 hl (by decide) rfl (fun ls hl => ?_)
                exact kJ118 r95.2 x1 x2 x6 r95.1 x6 _ _ _ hF hP hD hS (lv_sub hl [3, 4, 5, 1, 0, 6] rfl)
              · have hF := iff_ hc hF
                refine lv_goto (tgt := 118) hx hb dX3_lives_107 (by decide) ?_
                exact kJ118 r95.2 x1 x2 x4 x5 x6 _ _ _ hF hP hD hS (lv_sub hl [1, 2, 3, 4, 5, 6] rfl)
            · have hF := iff_ (fun h => h hc) hF
              refine lv_goto (tgt := 118) hx hb dX3_lives_67 (by decide) ?_
              exact kJ118 tW x1 x2 x4 x5 x6 _ _ _ hF hP hD hS (lv_sub hl [0, 1, 2, 3, 4, 5] rfl)
      refine lv_istore (lv' := [(6, .int (nI 0)), (5, .int (nI 1000000000)), (4, .int (-9)), (0, .ref (b 0)), (1, .int x1), (2, .int x2), (3, .int x3)]) hx hb dX3_lives_42 hl (by decide) rfl (fun ls hl => ?_)
      exact kJ44 N tW x1 x2 (-9) (nI 1000000000) (nI 0) _ _ _ hF hP hD hS (lv_sub hl [3, 4, 5, 2, 1, 0] rfl)
    · have hF := iff_ hc hF
      refine lv_aload_n hx hb dX3_lives_27 rfl (lv_at hl 0 rfl) ?_
      refine lv_iload_n hx hb dX3_lives_28 rfl (lv_at hl 3 rfl) ?_
      have hPc := hP.sub (ws' := (cwM cI b tW)) [0, 1, 2, 3, 4, 5, 6, 7, 8, 9] rfl
      have hDc := hD.sub (ws' := (cwM cI b tW)) [0, 1, 2, 3, 4, 5, 6, 7, 8, 9] (by decide) rfl
      have hFc := va_free (wc := (cwM cI b tW)) hD hS hA [0, 1, 2, 3, 4, 5, 6, 7, 8, 9] rfl
      refine bd hF (fun r29 hG hF => ?_)
      refine va_calli (va_runV (As := [.int x3]) (rest := []) ⟨hx, hb, hml, hown, hts⟩ (c_X3_no l dC dI cI sf H.size N b tW x3 r29 hG) (cwV 1 hts gX3_lives_X3_no rfl rfl rfl (by decide +kernel) ⟨Nat.le_of_ble_eq_true rfl, Nat.le_of_ble_eq_true rfl⟩) ⟨fun a U g mk q => ⟨q.1, q.2.call⟩, va_recv hK hP (ci := 3) (q0 := 0) rfl rfl, fun U hU hW => ⟨rfl, PB.of hU hW hPc hK hDc hNN hSF hS hFc⟩⟩ rfl rfl hl.1 rfl (lv_room (Nat.le_of_ble_eq_true rfl)) dX3_lives_29 ⟨Nat.le_of_ble_eq_true rfl, Nat.le_of_ble_eq_true rfl⟩) hS (fun q _ h => hFc q h) hFc (fun z_ u_ t H locs ht hvm hw hB hz1 hk1 hS => ?_)
      subst z_
      obtain ⟨hP1, hD1⟩ := hB
      rw [ht] at hP1
      have hJ := vb_join (ws' := (cwM cI b r29.2)) hP hD [0, 1, 2, 3, 4, 5, 6, 7, 8, 9] [] [0, 1, 2, 3, 4, 5, 6, 7, 8, 9] rfl rfl (by decide) (by decide) hk1 hFc hP1 hD1 rfl (by decide) rfl
      clear hP hD hPc hDc hFc hP1 hD1 hk1 hz1 ht hvm hG
      obtain ⟨hP, hD⟩ := hJ
      obtain rfl := Option.some.inj hF
      exact W.iret (v := r29.1) hx hb hr (fun t ht hW => ⟨⟨r29.1, (), rfl, rfl, QB.of ht hP hD⟩, hS.F ht⟩) hS.2.2 dX3_lives_32
  refine lv_if_ne (tgt := 23) hx hb dX3_lives_8 (by decide) (fun hc => ?_) (fun hc => ?_)
  · have hF := ift hc hF
    exact kJ23 tW p1 p2 r3 _ _ _ hF hP hD hS (lv_sub hl [1, 2, 3, 0] rfl)
  · have hF := iff_ (fun h => h hc) hF
    refine lv_iload_n hx hb dX3_lives_11 rfl (lv_at hl 3 rfl) ?_
    refine lv_iconst (v := nI 0) hx hb dX3_lives_12 (by decide) ?_
    refine lv_iconst (v := nI 1) hx hb dX3_lives_13 (by decide) ?_
    have hPc := hP.sub (ws' := ([] : va_W)) [] rfl
    have hDc := hD.sub (ws' := ([] : va_W)) [] (by decide) rfl
    have hFc := va_free (wc := ([] : va_W)) hD hS hA [] rfl
    refine bd hF (fun r14 hG hF => ?_)
    refine va_calli (va_runS (As := [.int p2, .int (nI 0), .int (nI 1)]) (rest := []) ⟨hx, hb, hml, hown, hts⟩ (c_X3_isIn l dC dI cI sf H.size N  p2 (nI 0) (nI 1) r14 hG) (va_cwS 3 hts gX3_lives_X3_isIn rfl rfl rfl (by decide +kernel) ⟨Nat.le_of_ble_eq_true rfl, Nat.le_of_ble_eq_true rfl⟩) ⟨fun a U g mk q => ⟨q.1, q.2.call⟩, fun U hU hW => ⟨rfl, PB.of hU hW hPc hK hDc hNN hSF hS hFc⟩⟩ rfl rfl hl.1 rfl (lv_room (Nat.le_of_ble_eq_true rfl)) dX3_lives_14 ⟨Nat.le_of_ble_eq_true rfl, Nat.le_of_ble_eq_true rfl⟩) hS (fun q _ h => hFc q h) hFc (fun z_ u_ t H locs ht hvm hw hB hz1 hk1 hS => ?_)
    subst z_
    obtain ⟨hP1, hD1⟩ := hB
    rw [ht] at hP1
    have hJ := vb_join (ws' := (cwM cI b tW)) hP hD [] [0, 1, 2, 3, 4, 5, 6, 7, 8, 9] [0, 1, 2, 3, 4, 5, 6, 7, 8, 9] rfl rfl (by decide) (by decide) hk1 hFc hP1 hD1 rfl (by decide) rfl
    clear hP hD hPc hDc hFc hP1 hD1 hk1 hz1 ht hvm hG
    obtain ⟨hP, hD⟩ := hJ
    refine lv_if_ne (tgt := 23) hx hb dX3_lives_17 (by decide) (fun hc => ?_) (fun hc => ?_)
    · have hF := ift hc hF
      exact kJ23 tW p1 p2 r3 _ _ _ hF hP hD hS (lv_sub hl [1, 2, 3, 0] rfl)
    · have hF := iff_ (fun h => h hc) hF
      refine lv_bipush (v := (-2)) hx hb dX3_lives_20 (by decide) ?_
      refine lv_istore_n (lv' := [(3, .int (-2)), (0, .ref (b 0)), (1, .int p1), (2, .int p2)]) hx hb dX3_lives_22 rfl hl (by decide) rfl (fun ls hl => ?_)
      exact kJ23 tW p1 p2 (-2) _ _ _ hF hP hD hS (lv_sub hl [1, 2, 3, 0] rfl)
theorem inw_X3_lost_X3 : ∀ w ∈ u_ws RX3 TX3 15, w ∈ wsX3_lost := fun _ h => List.mem_cons_of_mem _ (List.mem_append_right _ h)
set_option maxHeartbeats 4000000 in
set_option maxRecDepth 100000 in
theorem c_X3_lost (l : Launch) (dC : Nat → ClassId) (dI : Nat → Nat → Nat) (cI : ClassId) (sf : SFP) (sz : Nat) (N : Nat) (b : Nat → Nat) (tW : MS) (p1 : Int32) (r : (Int32 × MS)) (hF : F_X3_lost N tW p1 = some r) : Met l yX3_lost wsX3_lost ({ frames := 7, cells := 0, slots := 0, locals := 160 }) (va_Pc [.ref (b 0), .int p1] (PB (dC, dI) cI (cwM cI b tW) sz sf)) (va_Qi (fun (z : Int32) (_ : Unit) => z = r.1) (fun _ t => QB (dC, dI) (cwM cI b r.2) (va_A (cwM cI b tW) sz) t) (va_A (cwM cI b tW) sz)) 0 0 (va_A (cwM cI b tW) sz) := by
  refine Met.ofW (cc := cX3_lost) (maxL := 6) (ret := (some .int)) (by decide) rfl ?_
  intro p e s m args below meth c s₁ B hml hv
  obtain ⟨rfl, hsz, hP, hK, hD0, hNN, hSF⟩ := hv
  have hx := B.exec
  have hb := B.bytes
  have hr := B.returns
  have hts := atoms_spec (ws := wsX3_lost) B.pre
  have hown : s.vm.findClass RX3 = some m.cls := findClass_of_methodNamed B.named
  have hlocks := B.notSynchronized
  subst hsz
  have hD := hD0.self (sz := s.heap.size)
  generalize hAe : va_A (cwM cI b tW) s.heap.size = A at hD hSF ⊢
  have hA : ∀ q : Nat, s.heap.size ≤ q → A q := fun q h => by rw [← hAe]; exact Or.inr h
  clear hAe hD0
  have hS : va_S A s.heap s.heap [] := va_S.rf
  have hl := lv_entry ([.ref (b 0), .int p1]) (n := 6) (Nat.le_of_ble_eq_true rfl)
  rw [lg_entry_eq]
  generalize (lg_sl ([.ref (b 0), .int p1]) ++ List.replicate (6 - (lg_sl ([.ref (b 0), .int p1])).length) Slot.unset).toArray = ls at hl ⊢
  have hl : lv_has ls 6 [(0, .ref (b 0)), (1, .int p1)] := hl
  rw [F_X3_lost] at hF
  refine lv_iload_n hx hb dX3_lost_0 rfl (lv_at hl 1 rfl) ?_
  refine lv_iconst (v := nI 0) hx hb dX3_lost_1 (by decide) ?_
  refine lv_iconst (v := nI 1) hx hb dX3_lost_2 (by decide) ?_
  have hPc := hP.sub (ws' := ([] : va_W)) [] rfl
  have hDc := hD.sub (ws' := ([] : va_W)) [] (by decide) rfl
  have hFc := va_free (wc := ([] : va_W)) hD hS hA [] rfl
  refine bd hF (fun r3 hG hF => ?_)
  refine va_calli (va_runS (As := [.int p1, .int (nI 0), .int (nI 1)]) (rest := []) ⟨hx, hb, hml, hown, hts⟩ (c_X3_isIn l dC dI cI sf s.heap.size N  p1 (nI 0) (nI 1) r3 hG) (va_cwS 3 hts gX3_lost_X3_isIn rfl rfl rfl (by decide +kernel) ⟨Nat.le_of_ble_eq_true rfl, Nat.le_of_ble_eq_true rfl⟩) ⟨fun a U g mk q => ⟨q.1, q.2.call⟩, fun U hU hW => ⟨rfl, PB.of hU hW hPc hK hDc hNN hSF hS hFc⟩⟩ rfl rfl hl.1 rfl (lv_room (Nat.le_of_ble_eq_true rfl)) dX3_lost_3 ⟨Nat.le_of_ble_eq_true rfl, Nat.le_of_ble_eq_true rfl⟩) hS (fun q _ h => hFc q h) hFc (fun z_ u_ t H locs ht hvm hw hB hz1 hk1 hS => ?_)
  subst z_
  obtain ⟨hP1, hD1⟩ := hB
  rw [ht] at hP1
  have hJ := vb_join (ws' := (cwM cI b tW)) hP hD [] [0, 1, 2, 3, 4, 5, 6, 7, 8, 9] [0, 1, 2, 3, 4, 5, 6, 7, 8, 9] rfl rfl (by decide) (by decide) hk1 hFc hP1 hD1 rfl (by decide) rfl
  clear hP hD hPc hDc hFc hP1 hD1 hk1 hz1 ht hvm hG
  obtain ⟨hP, hD⟩ := hJ
  refine lv_if_ne (tgt := 16) hx hb dX3_lost_6 (by decide) (fun hc => ?_) (fun hc => ?_)
  · have hF := ift hc hF
    refine lv_bipush (v := (-9)) hx hb dX3_lost_16 (by decide) ?_
    refine lv_istore_n (lv' := [(2, .int (-9)), (0, .ref (b 0)), (1, .int p1)]) hx hb dX3_lost_18 rfl hl (by decide) rfl (fun ls hl => ?_)
    refine lv_ldc (v := nI 1000000000) hx hb hown (hts (.constant RX3 163 (1000000000)) (List.mem_of_getElem? (i := 1) rfl)) dX3_lost_19 ?_
    refine lv_istore_n (lv' := [(3, .int (nI 1000000000)), (2, .int (-9)), (0, .ref (b 0)), (1, .int p1)]) hx hb dX3_lost_21 rfl hl (by decide) rfl (fun ls hl => ?_)
    refine lv_iconst (v := nI 0) hx hb dX3_lost_22 (by decide) ?_
    refine vW_have (fun R av Q => ∀ (n25 : Nat) (tW : MS) (x1 : Int32) (x2 : Int32) (x3 : Int32) (x4 : Int32) (H : Heap) (locs : List Loc) (ls : Array Slot), F_X3_lost_25 N n25 tW x1 x2 x3 x4 = some r → va_P (dC, dI) vwCl (cwM cI b tW) H → va_D A (cwM cI b tW) → va_S A s.heap H locs → lv_has ls 6 [(0, .ref (b 0)), (1, .int x1), (2, .int x2), (3, .int x3), (4, .int x4)] → W p l e R s m av below meth c H locs 0 0 Q (F0 m 25 ls [])) ?_ (fun kJ25 => ?_)
    · intro n25
      induction n25 with
      | zero => intro tW x1 x2 x3 x4 H locs ls hF; exact nn hF
      | succ n25 ih25 =>
        intro tW x1 x2 x3 x4 H locs ls hF hP hD hS hl
        rw [F_X3_lost_25] at hF
        refine lv_iload hx hb dX3_lost_25 (lv_at hl 4 rfl) ?_
        refine lv_bipush (v := nI 8) hx hb dX3_lost_27 (by decide) ?_
        refine vW_have (fun R av Q => ∀ (tW : MS) (x1 : Int32) (x2 : Int32) (x3 : Int32) (H : Heap) (locs : List Loc) (ls : Array Slot), F_X3_lost_66 N tW x1 x2 x3 = some r → va_P (dC, dI) vwCl (cwM cI b tW) H → va_D A (cwM cI b tW) → va_S A s.heap H locs → lv_has ls 6 [(1, .int x1), (2, .int x2), (3, .int x3)] → W p l e R s m av below meth c H locs 0 0 Q (F0 m 66 ls [])) ?_ (fun kJ66 => ?_)
        · 
          intro tW x1 x2 x3 H locs ls hF hP hD hS hl
          rw [F_X3_lost_66] at hF
          refine lv_iload_n hx hb dX3_lost_66 rfl (lv_at hl 1 rfl) ?_
          refine lv_if_lt (tgt := 74) hx hb dX3_lost_67 (by decide) (fun hc => ?_) (fun hc => ?_)
          · have hF := ift hc hF
            refine lv_iload_n hx hb dX3_lost_74 rfl (lv_at hl 1 rfl) ?_
            refine lv_goto (tgt := 79) hx hb dX3_lost_75 (by decide) ?_
            obtain rfl := Option.some.inj hF
            exact W.iret (v := x2) hx hb hr (fun t ht hW => ⟨⟨x2, (), rfl, rfl, QB.of ht hP hD⟩, hS.F ht⟩) hS.2.2 dX3_lost_79
          · have hF := iff_ hc hF
            refine lv_iload_n hx hb dX3_lost_70 rfl (lv_at hl 0 rfl) ?_
            refine lv_if_ne (tgt := 78) hx hb dX3_lost_71 (by decide) (fun hc => ?_) (fun hc => ?_)
            · have hF := ift hc hF
              refine lv_iload_n hx hb dX3_lost_78 rfl (lv_at hl 2 rfl) ?_
              obtain rfl := Option.some.inj hF
              exact W.iret (v := x3) hx hb hr (fun t ht hW => ⟨⟨x3, (), rfl, rfl, QB.of ht hP hD⟩, hS.F ht⟩) hS.2.2 dX3_lost_79
            · have hF := iff_ (fun h => h hc) hF
              refine lv_iload_n hx hb dX3_lost_74 rfl (lv_at hl 1 rfl) ?_
              refine lv_goto (tgt := 79) hx hb dX3_lost_75 (by decide) ?_
              obtain rfl := Option.some.inj hF
              exact W.iret (v := x2) hx hb hr (fun t ht hW => ⟨⟨x2, (), rfl, rfl, QB.of ht hP hD⟩, hS.F ht⟩) hS.2.2 dX3_lost_79
        refine lv_icmp_ge (tgt := 66) hx hb dX3_lost_29 (by decide) (fun hc => ?_) (fun hc => ?_)
        · have hF := ift hc hF
          exact kJ66 tW x1 x2 x3 _ _ _ hF hP hD hS (lv_sub hl [1, 2, 3] rfl)
        · have hF := iff_ hc hF
          refine lv_aload_n hx hb dX3_lost_32 rfl (lv_at hl 0 rfl) ?_
          refine lv_iload hx hb dX3_lost_33 (lv_at hl 4 rfl) ?_
          have hPc := hP.sub (ws' := (cwM cI b tW)) [0, 1, 2, 3, 4, 5, 6, 7, 8, 9] rfl
          have hDc := hD.sub (ws' := (cwM cI b tW)) [0, 1, 2, 3, 4, 5, 6, 7, 8, 9] (by decide) rfl
          have hFc := va_free (wc := (cwM cI b tW)) hD hS hA [0, 1, 2, 3, 4, 5, 6, 7, 8, 9] rfl
          refine bd hF (fun r35 hG hF => ?_)
          refine va_calli (va_runV (As := [.int x4]) (rest := []) ⟨hx, hb, hml, hown, hts⟩ (c_X3_lastsOf l dC dI cI sf H.size N b tW x4 r35 hG) (cwV 1 hts gX3_lost_X3_lastsOf rfl rfl rfl (by decide +kernel) ⟨Nat.le_of_ble_eq_true rfl, Nat.le_of_ble_eq_true rfl⟩) ⟨fun a U g mk q => ⟨q.1, q.2.call⟩, va_recv hK hP (ci := 3) (q0 := 0) rfl rfl, fun U hU hW => ⟨rfl, PB.of hU hW hPc hK hDc hNN hSF hS hFc⟩⟩ rfl rfl hl.1 rfl (lv_room (Nat.le_of_ble_eq_true rfl)) dX3_lost_35 ⟨Nat.le_of_ble_eq_true rfl, Nat.le_of_ble_eq_true rfl⟩) hS (fun q _ h => hFc q h) hFc (fun z_ u_ t H locs ht hvm hw hB hz1 hk1 hS => ?_)
          subst z_
          obtain ⟨hP1, hD1⟩ := hB
          rw [ht] at hP1
          have hJ := vb_join (ws' := (cwM cI b r35.2)) hP hD [0, 1, 2, 3, 4, 5, 6, 7, 8, 9] [] [0, 1, 2, 3, 4, 5, 6, 7, 8, 9] rfl rfl (by decide) (by decide) hk1 hFc hP1 hD1 rfl (by decide) rfl
          clear hP hD hPc hDc hFc hP1 hD1 hk1 hz1 ht hvm hG
          obtain ⟨hP, hD⟩ := hJ
          refine lv_istore (lv' := [(5, .int r35.1), (0, .ref (b 0)), (1, .int x1), (2, .int x2), (3, .int x3), (4, .int x4)]) hx hb dX3_lost_38 hl (by decide) rfl (fun ls hl => ?_)
          refine lv_iload hx hb dX3_lost_40 (lv_at hl 0 rfl) ?_
          refine vW_have (fun R av Q => ∀ (tW : MS) (x1 : Int32) (x2 : Int32) (x3 : Int32) (x4 : Int32) (H : Heap) (locs : List Loc) (ls : Array Slot), F_X3_lost_60 N (fun ctW cx1 cx2 cx3 cx4 => F_X3_lost_25 N n25 ctW cx1 cx2 cx3 cx4) tW x1 x2 x3 x4 = some r → va_P (dC, dI) vwCl (cwM cI b tW) H → va_D A (cwM cI b tW) → va_S A s.heap H locs → lv_has ls 6 [(0, .ref (b 0)), (1, .int x1), (2, .int x2), (3, .int x3), (4, .int x4)] → W p l e R s m av below meth c H locs 0 0 Q (F0 m 60 ls [])) ?_ (fun kJ60 => ?_)
          · 
            intro tW x1 x2 x3 x4 H locs ls hF hP hD hS hl
            rw [F_X3_lost_60] at hF
            refine lv_iinc (v := x4 + (nI 1)) (lv' := [(4, .int (x4 + (nI 1))), (0, .ref (b 0)), (1, .int x1), (2, .int x2), (3, .int x3)]) hx hb dX3_lost_60 hl (k := 4) rfl (by rfl) (by decide) rfl (fun ls hl => ?_)
            refine lv_goto (tgt := 25) hx hb dX3_lost_63 (by decide) ?_
            exact ih25 tW x1 x2 x3 (x4 + (nI 1)) _ _ _ hF hP hD hS (lv_sub hl [1, 2, 3, 4, 0] rfl)
          refine lv_if_le (tgt := 60) hx hb dX3_lost_42 (by decide) (fun hc => ?_) (fun hc => ?_)
          · have hF := ift hc hF
            exact kJ60 r35.2 x1 x2 x3 x4 _ _ _ hF hP hD hS (lv_sub hl [1, 2, 3, 4, 5] rfl)
          · have hF := iff_ hc hF
            refine lv_iload hx hb dX3_lost_45 (lv_at hl 0 rfl) ?_
            refine lv_iload_n hx hb dX3_lost_47 rfl (lv_at hl 4 rfl) ?_
            refine lv_icmp_lt (tgt := 54) hx hb dX3_lost_48 (by decide) (fun hc => ?_) (fun hc => ?_)
            · have hF := ift hc hF
              refine lv_iload hx hb dX3_lost_54 (lv_at hl 5 rfl) ?_
              refine lv_istore_n (lv' := [(2, .int x4), (5, .int r35.1), (0, .ref (b 0)), (1, .int x1), (3, .int x3), (4, .int x4)]) hx hb dX3_lost_56 rfl hl (by decide) rfl (fun ls hl => ?_)
              refine lv_iload hx hb dX3_lost_57 (lv_at hl 1 rfl) ?_
              refine lv_istore_n (lv' := [(3, .int r35.1), (2, .int x4), (5, .int r35.1), (0, .ref (b 0)), (1, .int x1), (4, .int x4)]) hx hb dX3_lost_59 rfl hl (by decide) rfl (fun ls hl => ?_)
              exact kJ60 r35.2 x1 x4 r35.1 x4 _ _ _ hF hP hD hS (lv_sub hl [3, 4, 1, 0, 5] rfl)
            · have hF := iff_ hc hF
              refine lv_goto (tgt := 60) hx hb dX3_lost_51 (by decide) ?_
              exact kJ60 r35.2 x1 x2 x3 x4 _ _ _ hF hP hD hS (lv_sub hl [1, 2, 3, 4, 5] rfl)
    refine lv_istore (lv' := [(4, .int (nI 0)), (3, .int (nI 1000000000)), (2, .int (-9)), (0, .ref (b 0)), (1, .int p1)]) hx hb dX3_lost_23 hl (by decide) rfl (fun ls hl => ?_)
    exact kJ25 N tW p1 (-9) (nI 1000000000) (nI 0) _ _ _ hF hP hD hS (lv_sub hl [3, 4, 2, 1, 0] rfl)
  · have hF := iff_ (fun h => h hc) hF
    refine lv_aload_n hx hb dX3_lost_9 rfl (lv_at hl 0 rfl) ?_
    refine lv_bipush (v := (-2)) hx hb dX3_lost_10 (by decide) ?_
    have hPc := hP.sub (ws' := (cwM cI b tW)) [0, 1, 2, 3, 4, 5, 6, 7, 8, 9] rfl
    have hDc := hD.sub (ws' := (cwM cI b tW)) [0, 1, 2, 3, 4, 5, 6, 7, 8, 9] (by decide) rfl
    have hFc := va_free (wc := (cwM cI b tW)) hD hS hA [0, 1, 2, 3, 4, 5, 6, 7, 8, 9] rfl
    refine bd hF (fun r12 hG hF => ?_)
    refine va_calli (va_runV (As := [.int (-2)]) (rest := []) ⟨hx, hb, hml, hown, hts⟩ (c_X3_no l dC dI cI sf H.size N b tW (-2) r12 hG) (cwV 1 hts gX3_lost_X3_no rfl rfl rfl (by decide +kernel) ⟨Nat.le_of_ble_eq_true rfl, Nat.le_of_ble_eq_true rfl⟩) ⟨fun a U g mk q => ⟨q.1, q.2.call⟩, va_recv hK hP (ci := 3) (q0 := 0) rfl rfl, fun U hU hW => ⟨rfl, PB.of hU hW hPc hK hDc hNN hSF hS hFc⟩⟩ rfl rfl hl.1 rfl (lv_room (Nat.le_of_ble_eq_true rfl)) dX3_lost_12 ⟨Nat.le_of_ble_eq_true rfl, Nat.le_of_ble_eq_true rfl⟩) hS (fun q _ h => hFc q h) hFc (fun z_ u_ t H locs ht hvm hw hB hz1 hk1 hS => ?_)
    subst z_
    obtain ⟨hP1, hD1⟩ := hB
    rw [ht] at hP1
    have hJ := vb_join (ws' := (cwM cI b r12.2)) hP hD [0, 1, 2, 3, 4, 5, 6, 7, 8, 9] [] [0, 1, 2, 3, 4, 5, 6, 7, 8, 9] rfl rfl (by decide) (by decide) hk1 hFc hP1 hD1 rfl (by decide) rfl
    clear hP hD hPc hDc hFc hP1 hD1 hk1 hz1 ht hvm hG
    obtain ⟨hP, hD⟩ := hJ
    obtain rfl := Option.some.inj hF
    exact W.iret (v := r12.1) hx hb hr (fun t ht hW => ⟨⟨r12.1, (), rfl, rfl, QB.of ht hP hD⟩, hS.F ht⟩) hS.2.2 dX3_lost_15
theorem inw_X3_lots_X3 : ∀ w ∈ u_ws RX3 TX3 15, w ∈ wsX3_lots := fun _ h => List.mem_cons_of_mem _ (List.mem_append_right _ h)
set_option maxHeartbeats 4000000 in
set_option maxRecDepth 100000 in
theorem c_X3_lots (l : Launch) (dC : Nat → ClassId) (dI : Nat → Nat → Nat) (cI : ClassId) (sf : SFP) (sz : Nat) (N : Nat) (b : Nat → Nat) (tW : MS) (p1 : Int32) (p2 : Int32) (p3 : Int32) (r : (Int32 × MS)) (hF : F_X3_lots N tW p1 p2 p3 = some r) : Met l yX3_lots wsX3_lots ({ frames := 7, cells := 0, slots := 0, locals := 160 }) (va_Pc [.ref (b 0), .int p1, .int p2, .int p3] (PB (dC, dI) cI (cwM cI b tW) sz sf)) (va_Qi (fun (z : Int32) (_ : Unit) => z = r.1) (fun _ t => QB (dC, dI) (cwM cI b r.2) (va_A (cwM cI b tW) sz) t) (va_A (cwM cI b tW) sz)) 0 0 (va_A (cwM cI b tW) sz) := by
  refine Met.ofW (cc := cX3_lots) (maxL := 8) (ret := (some .int)) (by decide) rfl ?_
  intro p e s m args below meth c s₁ B hml hv
  obtain ⟨rfl, hsz, hP, hK, hD0, hNN, hSF⟩ := hv
  have hx := B.exec
  have hb := B.bytes
  have hr := B.returns
  have hts := atoms_spec (ws := wsX3_lots) B.pre
  have hown : s.vm.findClass RX3 = some m.cls := findClass_of_methodNamed B.named
  have hlocks := B.notSynchronized
  subst hsz
  have hD := hD0.self (sz := s.heap.size)
  generalize hAe : va_A (cwM cI b tW) s.heap.size = A at hD hSF ⊢
  have hA : ∀ q : Nat, s.heap.size ≤ q → A q := fun q h => by rw [← hAe]; exact Or.inr h
  clear hAe hD0
  have hS : va_S A s.heap s.heap [] := va_S.rf
  have hl := lv_entry ([.ref (b 0), .int p1, .int p2, .int p3]) (n := 8) (Nat.le_of_ble_eq_true rfl)
  rw [lg_entry_eq]
  generalize (lg_sl ([.ref (b 0), .int p1, .int p2, .int p3]) ++ List.replicate (8 - (lg_sl ([.ref (b 0), .int p1, .int p2, .int p3])).length) Slot.unset).toArray = ls at hl ⊢
  have hl : lv_has ls 8 [(0, .ref (b 0)), (1, .int p1), (2, .int p2), (3, .int p3)] := hl
  rw [F_X3_lots] at hF
  refine lv_iload_n hx hb dX3_lots_0 rfl (lv_at hl 1 rfl) ?_
  refine lv_iconst (v := nI 1) hx hb dX3_lots_1 (by decide) ?_
  refine lv_icmp_ge (tgt := 12) hx hb dX3_lots_2 (by decide) (fun hc => ?_) (fun hc => ?_)
  · have hF := ift hc hF
    refine lv_iload_n hx hb dX3_lots_12 rfl (lv_at hl 1 rfl) ?_
    refine lv_bipush (v := nI 20) hx hb dX3_lots_13 (by decide) ?_
    refine lv_icmp_le (tgt := 25) hx hb dX3_lots_15 (by decide) (fun hc => ?_) (fun hc => ?_)
    · have hF := ift hc hF
      refine lv_iload_n hx hb dX3_lots_25 rfl (lv_at hl 3 rfl) ?_
      refine lv_iconst (v := nI 0) hx hb dX3_lots_26 (by decide) ?_
      refine lv_iconst (v := nI 1) hx hb dX3_lots_27 (by decide) ?_
      have hPc := hP.sub (ws' := ([] : va_W)) [] rfl
      have hDc := hD.sub (ws' := ([] : va_W)) [] (by decide) rfl
      have hFc := va_free (wc := ([] : va_W)) hD hS hA [] rfl
      refine bd hF (fun r28 hG hF => ?_)
      refine va_calli (va_runS (As := [.int p3, .int (nI 0), .int (nI 1)]) (rest := []) ⟨hx, hb, hml, hown, hts⟩ (c_X3_isIn l dC dI cI sf s.heap.size N  p3 (nI 0) (nI 1) r28 hG) (va_cwS 3 hts gX3_lots_X3_isIn rfl rfl rfl (by decide +kernel) ⟨Nat.le_of_ble_eq_true rfl, Nat.le_of_ble_eq_true rfl⟩) ⟨fun a U g mk q => ⟨q.1, q.2.call⟩, fun U hU hW => ⟨rfl, PB.of hU hW hPc hK hDc hNN hSF hS hFc⟩⟩ rfl rfl hl.1 rfl (lv_room (Nat.le_of_ble_eq_true rfl)) dX3_lots_28 ⟨Nat.le_of_ble_eq_true rfl, Nat.le_of_ble_eq_true rfl⟩) hS (fun q _ h => hFc q h) hFc (fun z_ u_ t H locs ht hvm hw hB hz1 hk1 hS => ?_)
      subst z_
      obtain ⟨hP1, hD1⟩ := hB
      rw [ht] at hP1
      have hJ := vb_join (ws' := (cwM cI b tW)) hP hD [] [0, 1, 2, 3, 4, 5, 6, 7, 8, 9] [0, 1, 2, 3, 4, 5, 6, 7, 8, 9] rfl rfl (by decide) (by decide) hk1 hFc hP1 hD1 rfl (by decide) rfl
      clear hP hD hPc hDc hFc hP1 hD1 hk1 hz1 ht hvm hG
      obtain ⟨hP, hD⟩ := hJ
      refine lv_if_ne (tgt := 41) hx hb dX3_lots_31 (by decide) (fun hc => ?_) (fun hc => ?_)
      · have hF := ift hc hF
        refine lv_aload_n hx hb dX3_lots_41 rfl (lv_at hl 0 rfl) ?_
        refine lv_iload_n hx hb dX3_lots_42 rfl (lv_at hl 2 rfl) ?_
        refine va_put (D := (dC, dI)) (ci := 3) (v := .int p2) (ty := .int) (C := RX3) (T := TX3) (N := 15) hx hb hts inw_X3_lots_X3 tyX3 tyX3_ok nmX3 hown hK hP hD hS 0 rfl rfl 14 (by decide) (hts (.fieldLink RX3 211 "DeniedOfEachOtherModel" "seed" "I") (List.mem_of_getElem? (i := 1) rfl)) (fun _ h9 => h9) rfl (by decide +kernel) rfl rfl (Nat.le_of_ble_eq_true rfl) dX3_lots_43 (fun H locs hP hD hS => ?_)
        have hP : va_P (dC, dI) vwCl (cwM cI b (tW.1, tW.2.1, tW.2.2.1, tW.2.2.2.1, tW.2.2.2.2.1, tW.2.2.2.2.2.1, tW.2.2.2.2.2.2.1, tW.2.2.2.2.2.2.2.1, tW.2.2.2.2.2.2.2.2.1, tW.2.2.2.2.2.2.2.2.2.1, tW.2.2.2.2.2.2.2.2.2.2.1, tW.2.2.2.2.2.2.2.2.2.2.2.1, tW.2.2.2.2.2.2.2.2.2.2.2.2.1, tW.2.2.2.2.2.2.2.2.2.2.2.2.2.1, p2)) H := hP
        have hD : va_D A (cwM cI b (tW.1, tW.2.1, tW.2.2.1, tW.2.2.2.1, tW.2.2.2.2.1, tW.2.2.2.2.2.1, tW.2.2.2.2.2.2.1, tW.2.2.2.2.2.2.2.1, tW.2.2.2.2.2.2.2.2.1, tW.2.2.2.2.2.2.2.2.2.1, tW.2.2.2.2.2.2.2.2.2.2.1, tW.2.2.2.2.2.2.2.2.2.2.2.1, tW.2.2.2.2.2.2.2.2.2.2.2.2.1, tW.2.2.2.2.2.2.2.2.2.2.2.2.2.1, p2)) := hD
        refine lv_iconst (v := nI 0) hx hb dX3_lots_46 (by decide) ?_
        refine lv_istore (lv' := [(4, .int (nI 0)), (0, .ref (b 0)), (1, .int p1), (2, .int p2), (3, .int p3)]) hx hb dX3_lots_47 hl (by decide) rfl (fun ls hl => ?_)
        refine lv_iconst (v := nI 0) hx hb dX3_lots_49 (by decide) ?_
        refine vW_have (fun R av Q => ∀ (n52 : Nat) (tW : MS) (x1 : Int32) (x3 : Int32) (x4 : Int32) (x5 : Int32) (H : Heap) (locs : List Loc) (ls : Array Slot), F_X3_lots_52 N n52 tW x1 x3 x4 x5 = some r → va_P (dC, dI) vwCl (cwM cI b tW) H → va_D A (cwM cI b tW) → va_S A s.heap H locs → lv_has ls 8 [(0, .ref (b 0)), (1, .int x1), (3, .int x3), (4, .int x4), (5, .int x5)] → W p l e R s m av below meth c H locs 0 0 Q (F0 m 52 ls [])) ?_ (fun kJ52 => ?_)
        · intro n52
          induction n52 with
          | zero => intro tW x1 x3 x4 x5 H locs ls hF; exact nn hF
          | succ n52 ih52 =>
            intro tW x1 x3 x4 x5 H locs ls hF hP hD hS hl
            rw [F_X3_lots_52] at hF
            refine lv_iload hx hb dX3_lots_52 (lv_at hl 4 rfl) ?_
            refine lv_iload_n hx hb dX3_lots_54 rfl (lv_at hl 1 rfl) ?_
            refine lv_icmp_ge (tgt := 174) hx hb dX3_lots_55 (by decide) (fun hc => ?_) (fun hc => ?_)
            · have hF := ift hc hF
              refine lv_iload hx hb dX3_lots_174 (lv_at hl 3 rfl) ?_
              obtain rfl := Option.some.inj hF
              exact W.iret (v := x4) hx hb hr (fun t ht hW => ⟨⟨x4, (), rfl, rfl, QB.of ht hP hD⟩, hS.F ht⟩) hS.2.2 dX3_lots_176
            · have hF := iff_ hc hF
              refine lv_aload_n hx hb dX3_lots_58 rfl (lv_at hl 0 rfl) ?_
              refine va_get (D := (dC, dI)) (ci := 3) (v := .ref (b 1)) (C := RX3) (T := TX3) (N := 15) hx hb hts inw_X3_lots_X3 hown hK hP 0 rfl rfl 0 (by decide) (hts (.fieldLink RX3 9 "DeniedOfEachOtherModel" "s" "[I") (List.mem_of_getElem? (i := 2) rfl)) (fun _ h9 => h9) rfl dX3_lots_59 ?_
              refine lv_aload_n hx hb dX3_lots_62 rfl (lv_at hl 0 rfl) ?_
              refine va_get (D := (dC, dI)) (ci := 3) (v := .ref (b 2)) (C := RX3) (T := TX3) (N := 15) hx hb hts inw_X3_lots_X3 hown hK hP 0 rfl rfl 1 (by decide) (hts (.fieldLink RX3 13 "DeniedOfEachOtherModel" "m" "[I") (List.mem_of_getElem? (i := 3) rfl)) (fun _ h9 => h9) rfl dX3_lots_63 ?_
              have hPc := hP.sub (ws' := (cwA cI (b 1) tW.1 ++ cwA cI (b 2) tW.2.1)) [1, 2] rfl
              have hDc := hD.sub (ws' := (cwA cI (b 1) tW.1 ++ cwA cI (b 2) tW.2.1)) [1, 2] (by decide) rfl
              have hFc := va_free (wc := (cwA cI (b 1) tW.1 ++ cwA cI (b 2) tW.2.1)) hD hS hA [1, 2] rfl
              refine bd hF (fun r66 hG hF => ?_)
              refine va_callv (va_runS (As := [.ref (b 1), .ref (b 2)]) (rest := []) ⟨hx, hb, hml, hown, hts⟩ (c_X3_copies l dC dI cI sf H.size N (b 1) (b 2) tW.1 tW.2.1 r66 hG) (va_cwS 2 hts gX3_lots_X3_copies rfl rfl rfl (by decide +kernel) ⟨Nat.le_of_ble_eq_true rfl, Nat.le_of_ble_eq_true rfl⟩) ⟨fun a U g mk q => ⟨q.1, q.2.call⟩, fun U hU hW => ⟨rfl, PB.of hU hW hPc hK hDc hNN hSF hS hFc⟩⟩ rfl rfl hl.1 rfl (lv_room (Nat.le_of_ble_eq_true rfl)) dX3_lots_66 ⟨Nat.le_of_ble_eq_true rfl, Nat.le_of_ble_eq_true rfl⟩) hS (fun q _ h => hFc q h) hFc (fun u_ t H locs ht hvm hw hB hz1 hk1 hS => ?_)
              obtain ⟨hP1, hD1⟩ := hB
              rw [ht] at hP1
              have hJ := vb_join (ws' := (cwM cI b (tW.1, r66, tW.2.2.1, tW.2.2.2.1, tW.2.2.2.2.1, tW.2.2.2.2.2.1, tW.2.2.2.2.2.2.1, tW.2.2.2.2.2.2.2.1, tW.2.2.2.2.2.2.2.2.1, tW.2.2.2.2.2.2.2.2.2.1, tW.2.2.2.2.2.2.2.2.2.2.1, tW.2.2.2.2.2.2.2.2.2.2.2.1, tW.2.2.2.2.2.2.2.2.2.2.2.2.1, tW.2.2.2.2.2.2.2.2.2.2.2.2.2.1, tW.2.2.2.2.2.2.2.2.2.2.2.2.2.2))) hP hD [1, 2] [0, 3, 4, 5, 6, 7, 8, 9] [0, 8, 9, 1, 2, 3, 4, 5, 6, 7] rfl rfl (by decide) (by decide) hk1 hFc hP1 hD1 rfl (by decide) rfl
              clear hP hD hPc hDc hFc hP1 hD1 hk1 hz1 ht hvm hG
              obtain ⟨hP, hD⟩ := hJ
              refine lv_iconst (v := nI 0) hx hb dX3_lots_69 (by decide) ?_
              refine vW_have (fun R av Q => ∀ (n72 : Nat) (tW : MS) (x1 : Int32) (x3 : Int32) (x4 : Int32) (x5 : Int32) (x6 : Int32) (H : Heap) (locs : List Loc) (ls : Array Slot), F_X3_lots_72 N (fun ctW cx1 cx3 cx4 cx5 => F_X3_lots_52 N n52 ctW cx1 cx3 cx4 cx5) n72 tW x1 x3 x4 x5 x6 = some r → va_P (dC, dI) vwCl (cwM cI b tW) H → va_D A (cwM cI b tW) → va_S A s.heap H locs → lv_has ls 8 [(0, .ref (b 0)), (1, .int x1), (3, .int x3), (4, .int x4), (5, .int x5), (6, .int x6)] → W p l e R s m av below meth c H locs 0 0 Q (F0 m 72 ls [])) ?_ (fun kJ72 => ?_)
              · intro n72
                induction n72 with
                | zero => intro tW x1 x3 x4 x5 x6 H locs ls hF; exact nn hF
                | succ n72 ih72 =>
                  intro tW x1 x3 x4 x5 x6 H locs ls hF hP hD hS hl
                  rw [F_X3_lots_72] at hF
                  refine lv_iload hx hb dX3_lots_72 (lv_at hl 5 rfl) ?_
                  refine lv_aload_n hx hb dX3_lots_74 rfl (lv_at hl 0 rfl) ?_
                  refine va_get (D := (dC, dI)) (ci := 3) (v := .ref (b 1)) (C := RX3) (T := TX3) (N := 15) hx hb hts inw_X3_lots_X3 hown hK hP 0 rfl rfl 0 (by decide) (hts (.fieldLink RX3 9 "DeniedOfEachOtherModel" "s" "[I") (List.mem_of_getElem? (i := 2) rfl)) (fun _ h9 => h9) rfl dX3_lots_75 ?_
                  refine lv_iconst (v := nI 0) hx hb dX3_lots_78 (by decide) ?_
                  refine va_iald (D := (dC, dI)) hx hb hK hP 1 0 rfl rfl (vp_in_nI (n := 0) (N := 74) (by decide) (by decide)) dX3_lots_79 ?_
                  refine vW_have (fun R av Q => ∀ (tW : MS) (x1 : Int32) (x3 : Int32) (x4 : Int32) (x5 : Int32) (H : Heap) (locs : List Loc) (ls : Array Slot), F_X3_lots_136 N (fun ctW cx1 cx3 cx4 cx5 => F_X3_lots_52 N n52 ctW cx1 cx3 cx4 cx5) tW x1 x3 x4 x5 = some r → va_P (dC, dI) vwCl (cwM cI b tW) H → va_D A (cwM cI b tW) → va_S A s.heap H locs → lv_has ls 8 [(0, .ref (b 0)), (1, .int x1), (3, .int x3), (4, .int x4), (5, .int x5)] → W p l e R s m av below meth c H locs 0 0 Q (F0 m 136 ls [])) ?_ (fun kJ136 => ?_)
                  · 
                    intro tW x1 x3 x4 x5 H locs ls hF hP hD hS hl
                    rw [F_X3_lots_136] at hF
                    refine lv_aload_n hx hb dX3_lots_136 rfl (lv_at hl 0 rfl) ?_
                    refine lv_bipush (v := nI 10) hx hb dX3_lots_137 (by decide) ?_
                    have hPc := hP.sub (ws' := (cwM cI b tW)) [0, 1, 2, 3, 4, 5, 6, 7, 8, 9] rfl
                    have hDc := hD.sub (ws' := (cwM cI b tW)) [0, 1, 2, 3, 4, 5, 6, 7, 8, 9] (by decide) rfl
                    have hFc := va_free (wc := (cwM cI b tW)) hD hS hA [0, 1, 2, 3, 4, 5, 6, 7, 8, 9] rfl
                    refine bd hF (fun r139 hG hF => ?_)
                    refine va_calli (va_runV (As := [.int (nI 10)]) (rest := []) ⟨hx, hb, hml, hown, hts⟩ (c_X3_writtenBehind l dC dI cI sf H.size N b tW (nI 10) r139 hG) (cwV 1 hts gX3_lots_X3_writtenBehind rfl rfl rfl (by decide +kernel) ⟨Nat.le_of_ble_eq_true rfl, Nat.le_of_ble_eq_true rfl⟩) ⟨fun a U g mk q => ⟨q.1, q.2.call⟩, va_recv hK hP (ci := 3) (q0 := 0) rfl rfl, fun U hU hW => ⟨rfl, PB.of hU hW hPc hK hDc hNN hSF hS hFc⟩⟩ rfl rfl hl.1 rfl (lv_room (Nat.le_of_ble_eq_true rfl)) dX3_lots_139 ⟨Nat.le_of_ble_eq_true rfl, Nat.le_of_ble_eq_true rfl⟩) hS (fun q _ h => hFc q h) hFc (fun z_ u_ t H locs ht hvm hw hB hz1 hk1 hS => ?_)
                    subst z_
                    obtain ⟨hP1, hD1⟩ := hB
                    rw [ht] at hP1
                    have hJ := vb_join (ws' := (cwM cI b r139.2)) hP hD [0, 1, 2, 3, 4, 5, 6, 7, 8, 9] [] [0, 1, 2, 3, 4, 5, 6, 7, 8, 9] rfl rfl (by decide) (by decide) hk1 hFc hP1 hD1 rfl (by decide) rfl
                    clear hP hD hPc hDc hFc hP1 hD1 hk1 hz1 ht hvm hG
                    obtain ⟨hP, hD⟩ := hJ
                    refine lv_istore (lv' := [(6, .int r139.1), (0, .ref (b 0)), (1, .int x1), (3, .int x3), (4, .int x4), (5, .int x5)]) hx hb dX3_lots_142 hl (by decide) rfl (fun ls hl => ?_)
                    refine lv_iload hx hb dX3_lots_144 (lv_at hl 4 rfl) ?_
                    refine lv_iload_n hx hb dX3_lots_146 rfl (lv_at hl 3 rfl) ?_
                    refine vW_have (fun R av Q => ∀ (tW : MS) (x1 : Int32) (x3 : Int32) (x5 : Int32) (z0 : Int32) (z1 : Int32) (H : Heap) (locs : List Loc) (ls : Array Slot), F_X3_lots_165 N (fun ctW cx1 cx3 cx4 cx5 => F_X3_lots_52 N n52 ctW cx1 cx3 cx4 cx5) tW x1 x3 x5 z0 z1 = some r → va_P (dC, dI) vwCl (cwM cI b tW) H → va_D A (cwM cI b tW) → va_S A s.heap H locs → lv_has ls 8 [(0, .ref (b 0)), (1, .int x1), (3, .int x3), (5, .int x5)] → W p l e R s m av below meth c H locs 0 0 Q (F0 m 165 ls [.int z1, .int z0])) ?_ (fun kJ165 => ?_)
                    · 
                      intro tW x1 x3 x5 z0 z1 H locs ls hF hP hD hS hl
                      rw [F_X3_lots_165] at hF
                      refine lv_iadd hx hb dX3_lots_165 ?_
                      refine lv_istore (lv' := [(4, .int (z0 + z1)), (0, .ref (b 0)), (1, .int x1), (3, .int x3), (5, .int x5)]) hx hb dX3_lots_166 hl (by decide) rfl (fun ls hl => ?_)
                      refine lv_iinc (v := x5 + (nI 1)) (lv' := [(5, .int (x5 + (nI 1))), (4, .int (z0 + z1)), (0, .ref (b 0)), (1, .int x1), (3, .int x3)]) hx hb dX3_lots_168 hl (k := 4) rfl (by rfl) (by decide) rfl (fun ls hl => ?_)
                      refine lv_goto (tgt := 52) hx hb dX3_lots_171 (by decide) ?_
                      exact ih52 tW x1 x3 (z0 + z1) (x5 + (nI 1)) _ _ _ hF hP hD hS (lv_sub hl [2, 3, 4, 1, 0] rfl)
                    refine lv_if_ne (tgt := 155) hx hb dX3_lots_147 (by decide) (fun hc => ?_) (fun hc => ?_)
                    · have hF := ift hc hF
                      refine lv_aload_n hx hb dX3_lots_155 rfl (lv_at hl 1 rfl) ?_
                      refine va_get (D := (dC, dI)) (ci := 3) (v := .ref (b 2)) (C := RX3) (T := TX3) (N := 15) hx hb hts inw_X3_lots_X3 hown hK hP 0 rfl rfl 1 (by decide) (hts (.fieldLink RX3 13 "DeniedOfEachOtherModel" "m" "[I") (List.mem_of_getElem? (i := 3) rfl)) (fun _ h9 => h9) rfl dX3_lots_156 ?_
                      have hPc := hP.sub (ws' := (cwA cI (b 2) r139.2.2.1)) [2] rfl
                      have hDc := hD.sub (ws' := (cwA cI (b 2) r139.2.2.1)) [2] (by decide) rfl
                      have hFc := va_free (wc := (cwA cI (b 2) r139.2.2.1)) hD hS hA [2] rfl
                      refine bd hF (fun r159 hG hF => ?_)
                      refine va_calli (va_runS (As := [.ref (b 2)]) (rest := [.int x4]) ⟨hx, hb, hml, hown, hts⟩ (c_X3_livingIn l dC dI cI sf H.size N (b 2) r139.2.2.1 r159 hG) (va_cwS 1 hts gX3_lots_X3_livingIn rfl rfl rfl (by decide +kernel) ⟨Nat.le_of_ble_eq_true rfl, Nat.le_of_ble_eq_true rfl⟩) ⟨fun a U g mk q => ⟨q.1, q.2.call⟩, fun U hU hW => ⟨rfl, PB.of hU hW hPc hK hDc hNN hSF hS hFc⟩⟩ rfl rfl hl.1 rfl (lv_room (Nat.le_of_ble_eq_true rfl)) dX3_lots_159 ⟨Nat.le_of_ble_eq_true rfl, Nat.le_of_ble_eq_true rfl⟩) hS (fun q _ h => hFc q h) hFc (fun z_ u_ t H locs ht hvm hw hB hz1 hk1 hS => ?_)
                      subst z_
                      obtain ⟨hP1, hD1⟩ := hB
                      rw [ht] at hP1
                      have hJ := vb_join (ws' := (cwM cI b r139.2)) hP hD [2] [0, 1, 3, 4, 5, 6, 7, 8, 9] [0, 1, 9, 2, 3, 4, 5, 6, 7, 8] rfl rfl (by decide) (by decide) hk1 hFc hP1 hD1 rfl (by decide) rfl
                      clear hP hD hPc hDc hFc hP1 hD1 hk1 hz1 ht hvm hG
                      obtain ⟨hP, hD⟩ := hJ
                      have hPc := hP.sub (ws' := ([] : va_W)) [] rfl
                      have hDc := hD.sub (ws' := ([] : va_W)) [] (by decide) rfl
                      have hFc := va_free (wc := ([] : va_W)) hD hS hA [] rfl
                      refine bd hF (fun r162 hG hF => ?_)
                      refine va_calli (va_runS (As := [.int r159]) (rest := [.int x4]) ⟨hx, hb, hml, hown, hts⟩ (c_X3_bits l dC dI cI sf H.size N  r159 r162 hG) (va_cwS 1 hts gX3_lots_X3_bits rfl rfl rfl (by decide +kernel) ⟨Nat.le_of_ble_eq_true rfl, Nat.le_of_ble_eq_true rfl⟩) ⟨fun a U g mk q => ⟨q.1, q.2.call⟩, fun U hU hW => ⟨rfl, PB.of hU hW hPc hK hDc hNN hSF hS hFc⟩⟩ rfl rfl hl.1 rfl (lv_room (Nat.le_of_ble_eq_true rfl)) dX3_lots_162 ⟨Nat.le_of_ble_eq_true rfl, Nat.le_of_ble_eq_true rfl⟩) hS (fun q _ h => hFc q h) hFc (fun z_ u_ t H locs ht hvm hw hB hz1 hk1 hS => ?_)
                      subst z_
                      obtain ⟨hP1, hD1⟩ := hB
                      rw [ht] at hP1
                      have hJ := vb_join (ws' := (cwM cI b r139.2)) hP hD [] [0, 1, 2, 3, 4, 5, 6, 7, 8, 9] [0, 1, 2, 3, 4, 5, 6, 7, 8, 9] rfl rfl (by decide) (by decide) hk1 hFc hP1 hD1 rfl (by decide) rfl
                      clear hP hD hPc hDc hFc hP1 hD1 hk1 hz1 ht hvm hG
                      obtain ⟨hP, hD⟩ := hJ
                      exact kJ165 r139.2 x1 x3 x5 x4 r162 _ _ _ hF hP hD hS (lv_sub hl [1, 2, 3, 5] rfl)
                    · have hF := iff_ (fun h => h hc) hF
                      refine lv_iload hx hb dX3_lots_150 (lv_at hl 0 rfl) ?_
                      refine lv_goto (tgt := 165) hx hb dX3_lots_152 (by decide) ?_
                      exact kJ165 r139.2 x1 x3 x5 x4 r139.1 _ _ _ hF hP hD hS (lv_sub hl [1, 2, 3, 5] rfl)
                  refine lv_icmp_ge (tgt := 136) hx hb dX3_lots_80 (by decide) (fun hc => ?_) (fun hc => ?_)
                  · have hF := ift hc hF
                    exact kJ136 tW x1 x3 x4 x5 _ _ _ hF hP hD hS (lv_sub hl [0, 1, 2, 3, 4] rfl)
                  · have hF := iff_ hc hF
                    refine lv_iconst (v := nI 0) hx hb dX3_lots_83 (by decide) ?_
                    refine vW_have (fun R av Q => ∀ (n86 : Nat) (tW : MS) (x1 : Int32) (x3 : Int32) (x4 : Int32) (x5 : Int32) (x6 : Int32) (x7 : Int32) (H : Heap) (locs : List Loc) (ls : Array Slot), F_X3_lots_86 N (fun ctW cx1 cx3 cx4 cx5 => F_X3_lots_52 N n52 ctW cx1 cx3 cx4 cx5) (fun ctW cx1 cx3 cx4 cx5 cx6 => F_X3_lots_72 N (fun ctW cx1 cx3 cx4 cx5 => F_X3_lots_52 N n52 ctW cx1 cx3 cx4 cx5) n72 ctW cx1 cx3 cx4 cx5 cx6) n86 tW x1 x3 x4 x5 x6 x7 = some r → va_P (dC, dI) vwCl (cwM cI b tW) H → va_D A (cwM cI b tW) → va_S A s.heap H locs → lv_has ls 8 [(0, .ref (b 0)), (1, .int x1), (3, .int x3), (4, .int x4), (5, .int x5), (6, .int x6), (7, .int x7)] → W p l e R s m av below meth c H locs 0 0 Q (F0 m 86 ls [])) ?_ (fun kJ86 => ?_)
                    · intro n86
                      induction n86 with
                      | zero => intro tW x1 x3 x4 x5 x6 x7 H locs ls hF; exact nn hF
                      | succ n86 ih86 =>
                        intro tW x1 x3 x4 x5 x6 x7 H locs ls hF hP hD hS hl
                        rw [F_X3_lots_86] at hF
                        refine lv_iload hx hb dX3_lots_86 (lv_at hl 6 rfl) ?_
                        refine lv_bipush (v := nI 8) hx hb dX3_lots_88 (by decide) ?_
                        refine vW_have (fun R av Q => ∀ (tW : MS) (x1 : Int32) (x3 : Int32) (x4 : Int32) (x5 : Int32) (x6 : Int32) (H : Heap) (locs : List Loc) (ls : Array Slot), F_X3_lots_130 N (fun ctW cx1 cx3 cx4 cx5 => F_X3_lots_52 N n52 ctW cx1 cx3 cx4 cx5) (fun ctW cx1 cx3 cx4 cx5 cx6 => F_X3_lots_72 N (fun ctW cx1 cx3 cx4 cx5 => F_X3_lots_52 N n52 ctW cx1 cx3 cx4 cx5) n72 ctW cx1 cx3 cx4 cx5 cx6) tW x1 x3 x4 x5 x6 = some r → va_P (dC, dI) vwCl (cwM cI b tW) H → va_D A (cwM cI b tW) → va_S A s.heap H locs → lv_has ls 8 [(0, .ref (b 0)), (1, .int x1), (3, .int x3), (4, .int x4), (5, .int x5), (6, .int x6)] → W p l e R s m av below meth c H locs 0 0 Q (F0 m 130 ls [])) ?_ (fun kJ130 => ?_)
                        · 
                          intro tW x1 x3 x4 x5 x6 H locs ls hF hP hD hS hl
                          rw [F_X3_lots_130] at hF
                          refine lv_iinc (v := x6 + (nI 1)) (lv' := [(6, .int (x6 + (nI 1))), (0, .ref (b 0)), (1, .int x1), (3, .int x3), (4, .int x4), (5, .int x5)]) hx hb dX3_lots_130 hl (k := 5) rfl (by rfl) (by decide) rfl (fun ls hl => ?_)
                          refine lv_goto (tgt := 72) hx hb dX3_lots_133 (by decide) ?_
                          exact ih72 tW x1 x3 x4 x5 (x6 + (nI 1)) _ _ _ hF hP hD hS (lv_sub hl [1, 2, 3, 4, 5, 0] rfl)
                        refine lv_icmp_ge (tgt := 130) hx hb dX3_lots_90 (by decide) (fun hc => ?_) (fun hc => ?_)
                        · have hF := ift hc hF
                          exact kJ130 tW x1 x3 x4 x5 x6 _ _ _ hF hP hD hS (lv_sub hl [0, 1, 2, 3, 4, 5] rfl)
                        · have hF := iff_ hc hF
                          refine lv_aload_n hx hb dX3_lots_93 rfl (lv_at hl 0 rfl) ?_
                          refine va_get (D := (dC, dI)) (ci := 3) (v := .ref (b 1)) (C := RX3) (T := TX3) (N := 15) hx hb hts inw_X3_lots_X3 hown hK hP 0 rfl rfl 0 (by decide) (hts (.fieldLink RX3 9 "DeniedOfEachOtherModel" "s" "[I") (List.mem_of_getElem? (i := 2) rfl)) (fun _ h9 => h9) rfl dX3_lots_94 ?_
                          refine lv_iload hx hb dX3_lots_97 (lv_at hl 5 rfl) ?_
                          have hPc := hP.sub (ws' := (cwA cI (b 1) tW.1)) [1] rfl
                          have hDc := hD.sub (ws' := (cwA cI (b 1) tW.1)) [1] (by decide) rfl
                          have hFc := va_free (wc := (cwA cI (b 1) tW.1)) hD hS hA [1] rfl
                          refine bd hF (fun r99 hG hF => ?_)
                          refine va_calli (va_runS (As := [.ref (b 1), .int x6]) (rest := []) ⟨hx, hb, hml, hown, hts⟩ (c_X3_isAlive l dC dI cI sf H.size N (b 1) tW.1 x6 r99 hG) (va_cwS 2 hts gX3_lots_X3_isAlive rfl rfl rfl (by decide +kernel) ⟨Nat.le_of_ble_eq_true rfl, Nat.le_of_ble_eq_true rfl⟩) ⟨fun a U g mk q => ⟨q.1, q.2.call⟩, fun U hU hW => ⟨rfl, PB.of hU hW hPc hK hDc hNN hSF hS hFc⟩⟩ rfl rfl hl.1 rfl (lv_room (Nat.le_of_ble_eq_true rfl)) dX3_lots_99 ⟨Nat.le_of_ble_eq_true rfl, Nat.le_of_ble_eq_true rfl⟩) hS (fun q _ h => hFc q h) hFc (fun z_ u_ t H locs ht hvm hw hB hz1 hk1 hS => ?_)
                          subst z_
                          obtain ⟨hP1, hD1⟩ := hB
                          rw [ht] at hP1
                          have hJ := vb_join (ws' := (cwM cI b tW)) hP hD [1] [0, 2, 3, 4, 5, 6, 7, 8, 9] [0, 9, 1, 2, 3, 4, 5, 6, 7, 8] rfl rfl (by decide) (by decide) hk1 hFc hP1 hD1 rfl (by decide) rfl
                          clear hP hD hPc hDc hFc hP1 hD1 hk1 hz1 ht hvm hG
                          obtain ⟨hP, hD⟩ := hJ
                          refine lv_if_eq (tgt := 130) hx hb dX3_lots_102 (by decide) (fun hc => ?_) (fun hc => ?_)
                          · have hF := ift hc hF
                            exact kJ130 tW x1 x3 x4 x5 x6 _ _ _ hF hP hD hS (lv_sub hl [0, 1, 2, 3, 4, 5] rfl)
                          · have hF := iff_ hc hF
                            refine lv_aload_n hx hb dX3_lots_105 rfl (lv_at hl 0 rfl) ?_
                            refine va_get (D := (dC, dI)) (ci := 3) (v := .ref (b 2)) (C := RX3) (T := TX3) (N := 15) hx hb hts inw_X3_lots_X3 hown hK hP 0 rfl rfl 1 (by decide) (hts (.fieldLink RX3 13 "DeniedOfEachOtherModel" "m" "[I") (List.mem_of_getElem? (i := 3) rfl)) (fun _ h9 => h9) rfl dX3_lots_106 ?_
                            refine lv_iload hx hb dX3_lots_109 (lv_at hl 5 rfl) ?_
                            refine lv_iconst (v := nI 4) hx hb dX3_lots_111 (by decide) ?_
                            refine lv_iload hx hb dX3_lots_112 (lv_at hl 6 rfl) ?_
                            refine lv_iadd hx hb dX3_lots_114 ?_
                            have hPc := hP.sub (ws' := ([] : va_W)) [] rfl
                            have hDc := hD.sub (ws' := ([] : va_W)) [] (by decide) rfl
                            have hFc := va_free (wc := ([] : va_W)) hD hS hA [] rfl
                            refine bd hF (fun r115 hG hF => ?_)
                            refine va_calli (va_runS (As := [.int x6, .int ((nI 4) + x7)]) (rest := [.ref (b 2)]) ⟨hx, hb, hml, hown, hts⟩ (c_X3_of l dC dI cI sf H.size N  x6 ((nI 4) + x7) r115 hG) (va_cwS 2 hts gX3_lots_X3_of rfl rfl rfl (by decide +kernel) ⟨Nat.le_of_ble_eq_true rfl, Nat.le_of_ble_eq_true rfl⟩) ⟨fun a U g mk q => ⟨q.1, q.2.call⟩, fun U hU hW => ⟨rfl, PB.of hU hW hPc hK hDc hNN hSF hS hFc⟩⟩ rfl rfl hl.1 rfl (lv_room (Nat.le_of_ble_eq_true rfl)) dX3_lots_115 ⟨Nat.le_of_ble_eq_true rfl, Nat.le_of_ble_eq_true rfl⟩) hS (fun q _ h => hFc q h) hFc (fun z_ u_ t H locs ht hvm hw hB hz1 hk1 hS => ?_)
                            subst z_
                            obtain ⟨hP1, hD1⟩ := hB
                            rw [ht] at hP1
                            have hJ := vb_join (ws' := (cwM cI b tW)) hP hD [] [0, 1, 2, 3, 4, 5, 6, 7, 8, 9] [0, 1, 2, 3, 4, 5, 6, 7, 8, 9] rfl rfl (by decide) (by decide) hk1 hFc hP1 hD1 rfl (by decide) rfl
                            clear hP hD hPc hDc hFc hP1 hD1 hk1 hz1 ht hvm hG
                            obtain ⟨hP, hD⟩ := hJ
                            refine lv_aload_n hx hb dX3_lots_118 rfl (lv_at hl 0 rfl) ?_
                            refine lv_iconst (v := nI 3) hx hb dX3_lots_119 (by decide) ?_
                            have hPc := hP.sub (ws' := (cwM cI b tW)) [0, 1, 2, 3, 4, 5, 6, 7, 8, 9] rfl
                            have hDc := hD.sub (ws' := (cwM cI b tW)) [0, 1, 2, 3, 4, 5, 6, 7, 8, 9] (by decide) rfl
                            have hFc := va_free (wc := (cwM cI b tW)) hD hS hA [0, 1, 2, 3, 4, 5, 6, 7, 8, 9] rfl
                            refine bd hF (fun r120 hG hF => ?_)
                            refine va_calli (va_runV (As := [.int (nI 3)]) (rest := [.int r115, .ref (b 2)]) ⟨hx, hb, hml, hown, hts⟩ (c_X3_drawn l dC dI cI sf H.size N b tW (nI 3) r120 hG) (cwV 1 hts gX3_lots_X3_drawn rfl rfl rfl (by decide +kernel) ⟨Nat.le_of_ble_eq_true rfl, Nat.le_of_ble_eq_true rfl⟩) ⟨fun a U g mk q => ⟨q.1, q.2.call⟩, va_recv hK hP (ci := 3) (q0 := 0) rfl rfl, fun U hU hW => ⟨rfl, PB.of hU hW hPc hK hDc hNN hSF hS hFc⟩⟩ rfl rfl hl.1 rfl (lv_room (Nat.le_of_ble_eq_true rfl)) dX3_lots_120 ⟨Nat.le_of_ble_eq_true rfl, Nat.le_of_ble_eq_true rfl⟩) hS (fun q _ h => hFc q h) hFc (fun z_ u_ t H locs ht hvm hw hB hz1 hk1 hS => ?_)
                            subst z_
                            obtain ⟨hP1, hD1⟩ := hB
                            rw [ht] at hP1
                            have hJ := vb_join (ws' := (cwM cI b r120.2)) hP hD [0, 1, 2, 3, 4, 5, 6, 7, 8, 9] [] [0, 1, 2, 3, 4, 5, 6, 7, 8, 9] rfl rfl (by decide) (by decide) hk1 hFc hP1 hD1 rfl (by decide) rfl
                            clear hP hD hPc hDc hFc hP1 hD1 hk1 hz1 ht hvm hG
                            obtain ⟨hP, hD⟩ := hJ
                            refine cki hF (fun hi hF => ?_)
                            refine va_iast (D := (dC, dI)) hx hb hK hP hD hS 2 0 rfl rfl hi dX3_lots_123 (fun H locs hP hD hS => ?_)
                            have hP : va_P (dC, dI) vwCl (cwM cI b (r120.2.1, (upd r120.2.2.1 r115.toNatClampNeg r120.1), r120.2.2.2.1, r120.2.2.2.2.1, r120.2.2.2.2.2.1, r120.2.2.2.2.2.2.1, r120.2.2.2.2.2.2.2.1, r120.2.2.2.2.2.2.2.2.1, r120.2.2.2.2.2.2.2.2.2.1, r120.2.2.2.2.2.2.2.2.2.2.1, r120.2.2.2.2.2.2.2.2.2.2.2.1, r120.2.2.2.2.2.2.2.2.2.2.2.2.1, r120.2.2.2.2.2.2.2.2.2.2.2.2.2.1, r120.2.2.2.2.2.2.2.2.2.2.2.2.2.2.1, r120.2.2.2.2.2.2.2.2.2.2.2.2.2.2.2)) H := hP
                            have hD : va_D A (cwM cI b (r120.2.1, (upd r120.2.2.1 r115.toNatClampNeg r120.1), r120.2.2.2.1, r120.2.2.2.2.1, r120.2.2.2.2.2.1, r120.2.2.2.2.2.2.1, r120.2.2.2.2.2.2.2.1, r120.2.2.2.2.2.2.2.2.1, r120.2.2.2.2.2.2.2.2.2.1, r120.2.2.2.2.2.2.2.2.2.2.1, r120.2.2.2.2.2.2.2.2.2.2.2.1, r120.2.2.2.2.2.2.2.2.2.2.2.2.1, r120.2.2.2.2.2.2.2.2.2.2.2.2.2.1, r120.2.2.2.2.2.2.2.2.2.2.2.2.2.2.1, r120.2.2.2.2.2.2.2.2.2.2.2.2.2.2.2)) := hD
                            refine lv_iinc (v := x7 + (nI 1)) (lv' := [(7, .int (x7 + (nI 1))), (0, .ref (b 0)), (1, .int x1), (3, .int x3), (4, .int x4), (5, .int x5), (6, .int x6)]) hx hb dX3_lots_124 hl (k := 6) rfl (by rfl) (by decide) rfl (fun ls hl => ?_)
                            refine lv_goto (tgt := 86) hx hb dX3_lots_127 (by decide) ?_
                            exact ih86 (r120.2.1, (upd r120.2.2.1 r115.toNatClampNeg r120.1), r120.2.2.2.1, r120.2.2.2.2.1, r120.2.2.2.2.2.1, r120.2.2.2.2.2.2.1, r120.2.2.2.2.2.2.2.1, r120.2.2.2.2.2.2.2.2.1, r120.2.2.2.2.2.2.2.2.2.1, r120.2.2.2.2.2.2.2.2.2.2.1, r120.2.2.2.2.2.2.2.2.2.2.2.1, r120.2.2.2.2.2.2.2.2.2.2.2.2.1, r120.2.2.2.2.2.2.2.2.2.2.2.2.2.1, r120.2.2.2.2.2.2.2.2.2.2.2.2.2.2.1, r120.2.2.2.2.2.2.2.2.2.2.2.2.2.2.2) x1 x3 x4 x5 x6 (x7 + (nI 1)) _ _ _ hF hP hD hS (lv_sub hl [1, 2, 3, 4, 5, 6, 0] rfl)
                    refine lv_istore (lv' := [(7, .int (nI 0)), (0, .ref (b 0)), (1, .int x1), (3, .int x3), (4, .int x4), (5, .int x5), (6, .int x6)]) hx hb dX3_lots_84 hl (by decide) rfl (fun ls hl => ?_)
                    exact kJ86 N tW x1 x3 x4 x5 x6 (nI 0) _ _ _ hF hP hD hS (lv_sub hl [1, 2, 3, 4, 5, 6, 0] rfl)
              refine lv_istore (lv' := [(6, .int (nI 0)), (0, .ref (b 0)), (1, .int x1), (3, .int x3), (4, .int x4), (5, .int x5)]) hx hb dX3_lots_70 hl (by decide) rfl (fun ls hl => ?_)
              exact kJ72 N (tW.1, r66, tW.2.2.1, tW.2.2.2.1, tW.2.2.2.2.1, tW.2.2.2.2.2.1, tW.2.2.2.2.2.2.1, tW.2.2.2.2.2.2.2.1, tW.2.2.2.2.2.2.2.2.1, tW.2.2.2.2.2.2.2.2.2.1, tW.2.2.2.2.2.2.2.2.2.2.1, tW.2.2.2.2.2.2.2.2.2.2.2.1, tW.2.2.2.2.2.2.2.2.2.2.2.2.1, tW.2.2.2.2.2.2.2.2.2.2.2.2.2.1, tW.2.2.2.2.2.2.2.2.2.2.2.2.2.2) x1 x3 x4 x5 (nI 0) _ _ _ hF hP hD hS (lv_sub hl [1, 2, 3, 4, 5, 0] rfl)
        refine lv_istore (lv' := [(5, .int (nI 0)), (4, .int (nI 0)), (0, .ref (b 0)), (1, .int p1), (2, .int p2), (3, .int p3)]) hx hb dX3_lots_50 hl (by decide) rfl (fun ls hl => ?_)
        exact kJ52 N (tW.1, tW.2.1, tW.2.2.1, tW.2.2.2.1, tW.2.2.2.2.1, tW.2.2.2.2.2.1, tW.2.2.2.2.2.2.1, tW.2.2.2.2.2.2.2.1, tW.2.2.2.2.2.2.2.2.1, tW.2.2.2.2.2.2.2.2.2.1, tW.2.2.2.2.2.2.2.2.2.2.1, tW.2.2.2.2.2.2.2.2.2.2.2.1, tW.2.2.2.2.2.2.2.2.2.2.2.2.1, tW.2.2.2.2.2.2.2.2.2.2.2.2.2.1, p2) p1 p3 (nI 0) (nI 0) _ _ _ hF hP hD hS (lv_sub hl [2, 3, 5, 1, 0] rfl)
      · have hF := iff_ (fun h => h hc) hF
        refine lv_aload_n hx hb dX3_lots_34 rfl (lv_at hl 0 rfl) ?_
        refine lv_bipush (v := (-2)) hx hb dX3_lots_35 (by decide) ?_
        have hPc := hP.sub (ws' := (cwM cI b tW)) [0, 1, 2, 3, 4, 5, 6, 7, 8, 9] rfl
        have hDc := hD.sub (ws' := (cwM cI b tW)) [0, 1, 2, 3, 4, 5, 6, 7, 8, 9] (by decide) rfl
        have hFc := va_free (wc := (cwM cI b tW)) hD hS hA [0, 1, 2, 3, 4, 5, 6, 7, 8, 9] rfl
        refine bd hF (fun r37 hG hF => ?_)
        refine va_calli (va_runV (As := [.int (-2)]) (rest := []) ⟨hx, hb, hml, hown, hts⟩ (c_X3_no l dC dI cI sf H.size N b tW (-2) r37 hG) (cwV 1 hts gX3_lots_X3_no rfl rfl rfl (by decide +kernel) ⟨Nat.le_of_ble_eq_true rfl, Nat.le_of_ble_eq_true rfl⟩) ⟨fun a U g mk q => ⟨q.1, q.2.call⟩, va_recv hK hP (ci := 3) (q0 := 0) rfl rfl, fun U hU hW => ⟨rfl, PB.of hU hW hPc hK hDc hNN hSF hS hFc⟩⟩ rfl rfl hl.1 rfl (lv_room (Nat.le_of_ble_eq_true rfl)) dX3_lots_37 ⟨Nat.le_of_ble_eq_true rfl, Nat.le_of_ble_eq_true rfl⟩) hS (fun q _ h => hFc q h) hFc (fun z_ u_ t H locs ht hvm hw hB hz1 hk1 hS => ?_)
        subst z_
        obtain ⟨hP1, hD1⟩ := hB
        rw [ht] at hP1
        have hJ := vb_join (ws' := (cwM cI b r37.2)) hP hD [0, 1, 2, 3, 4, 5, 6, 7, 8, 9] [] [0, 1, 2, 3, 4, 5, 6, 7, 8, 9] rfl rfl (by decide) (by decide) hk1 hFc hP1 hD1 rfl (by decide) rfl
        clear hP hD hPc hDc hFc hP1 hD1 hk1 hz1 ht hvm hG
        obtain ⟨hP, hD⟩ := hJ
        obtain rfl := Option.some.inj hF
        exact W.iret (v := r37.1) hx hb hr (fun t ht hW => ⟨⟨r37.1, (), rfl, rfl, QB.of ht hP hD⟩, hS.F ht⟩) hS.2.2 dX3_lots_40
    · have hF := iff_ hc hF
      refine lv_aload_n hx hb dX3_lots_18 rfl (lv_at hl 0 rfl) ?_
      refine lv_bipush (v := (-6)) hx hb dX3_lots_19 (by decide) ?_
      have hPc := hP.sub (ws' := (cwM cI b tW)) [0, 1, 2, 3, 4, 5, 6, 7, 8, 9] rfl
      have hDc := hD.sub (ws' := (cwM cI b tW)) [0, 1, 2, 3, 4, 5, 6, 7, 8, 9] (by decide) rfl
      have hFc := va_free (wc := (cwM cI b tW)) hD hS hA [0, 1, 2, 3, 4, 5, 6, 7, 8, 9] rfl
      refine bd hF (fun r21 hG hF => ?_)
      refine va_calli (va_runV (As := [.int (-6)]) (rest := []) ⟨hx, hb, hml, hown, hts⟩ (c_X3_no l dC dI cI sf s.heap.size N b tW (-6) r21 hG) (cwV 1 hts gX3_lots_X3_no rfl rfl rfl (by decide +kernel) ⟨Nat.le_of_ble_eq_true rfl, Nat.le_of_ble_eq_true rfl⟩) ⟨fun a U g mk q => ⟨q.1, q.2.call⟩, va_recv hK hP (ci := 3) (q0 := 0) rfl rfl, fun U hU hW => ⟨rfl, PB.of hU hW hPc hK hDc hNN hSF hS hFc⟩⟩ rfl rfl hl.1 rfl (lv_room (Nat.le_of_ble_eq_true rfl)) dX3_lots_21 ⟨Nat.le_of_ble_eq_true rfl, Nat.le_of_ble_eq_true rfl⟩) hS (fun q _ h => hFc q h) hFc (fun z_ u_ t H locs ht hvm hw hB hz1 hk1 hS => ?_)
      subst z_
      obtain ⟨hP1, hD1⟩ := hB
      rw [ht] at hP1
      have hJ := vb_join (ws' := (cwM cI b r21.2)) hP hD [0, 1, 2, 3, 4, 5, 6, 7, 8, 9] [] [0, 1, 2, 3, 4, 5, 6, 7, 8, 9] rfl rfl (by decide) (by decide) hk1 hFc hP1 hD1 rfl (by decide) rfl
      clear hP hD hPc hDc hFc hP1 hD1 hk1 hz1 ht hvm hG
      obtain ⟨hP, hD⟩ := hJ
      obtain rfl := Option.some.inj hF
      exact W.iret (v := r21.1) hx hb hr (fun t ht hW => ⟨⟨r21.1, (), rfl, rfl, QB.of ht hP hD⟩, hS.F ht⟩) hS.2.2 dX3_lots_24
  · have hF := iff_ hc hF
    refine lv_aload_n hx hb dX3_lots_5 rfl (lv_at hl 0 rfl) ?_
    refine lv_bipush (v := (-4)) hx hb dX3_lots_6 (by decide) ?_
    have hPc := hP.sub (ws' := (cwM cI b tW)) [0, 1, 2, 3, 4, 5, 6, 7, 8, 9] rfl
    have hDc := hD.sub (ws' := (cwM cI b tW)) [0, 1, 2, 3, 4, 5, 6, 7, 8, 9] (by decide) rfl
    have hFc := va_free (wc := (cwM cI b tW)) hD hS hA [0, 1, 2, 3, 4, 5, 6, 7, 8, 9] rfl
    refine bd hF (fun r8 hG hF => ?_)
    refine va_calli (va_runV (As := [.int (-4)]) (rest := []) ⟨hx, hb, hml, hown, hts⟩ (c_X3_no l dC dI cI sf s.heap.size N b tW (-4) r8 hG) (cwV 1 hts gX3_lots_X3_no rfl rfl rfl (by decide +kernel) ⟨Nat.le_of_ble_eq_true rfl, Nat.le_of_ble_eq_true rfl⟩) ⟨fun a U g mk q => ⟨q.1, q.2.call⟩, va_recv hK hP (ci := 3) (q0 := 0) rfl rfl, fun U hU hW => ⟨rfl, PB.of hU hW hPc hK hDc hNN hSF hS hFc⟩⟩ rfl rfl hl.1 rfl (lv_room (Nat.le_of_ble_eq_true rfl)) dX3_lots_8 ⟨Nat.le_of_ble_eq_true rfl, Nat.le_of_ble_eq_true rfl⟩) hS (fun q _ h => hFc q h) hFc (fun z_ u_ t H locs ht hvm hw hB hz1 hk1 hS => ?_)
    subst z_
    obtain ⟨hP1, hD1⟩ := hB
    rw [ht] at hP1
    have hJ := vb_join (ws' := (cwM cI b r8.2)) hP hD [0, 1, 2, 3, 4, 5, 6, 7, 8, 9] [] [0, 1, 2, 3, 4, 5, 6, 7, 8, 9] rfl rfl (by decide) (by decide) hk1 hFc hP1 hD1 rfl (by decide) rfl
    clear hP hD hPc hDc hFc hP1 hD1 hk1 hz1 ht hvm hG
    obtain ⟨hP, hD⟩ := hJ
    obtain rfl := Option.some.inj hF
    exact W.iret (v := r8.1) hx hb hr (fun t ht hW => ⟨⟨r8.1, (), rfl, rfl, QB.of ht hP hD⟩, hS.F ht⟩) hS.2.2 dX3_lots_11
