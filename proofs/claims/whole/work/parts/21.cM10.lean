theorem inw_X3_whatIs_X3 : ∀ w ∈ u_ws RX3 TX3 15, w ∈ wsX3_whatIs := fun _ h => List.mem_cons_of_mem _ (List.mem_append_right _ h)
set_option maxHeartbeats 4000000 in
set_option maxRecDepth 100000 in
theorem c_X3_whatIs (l : Launch) (dC : Nat → ClassId) (dI : Nat → Nat → Nat) (cI : ClassId) (sf : SFP) (sz : Nat) (N : Nat) (b : Nat → Nat) (tW : MS) (p1 : Int32) (p2 : Int32) (p3 : Int32) (r : (Int32 × MS)) (hF : F_X3_whatIs N tW p1 p2 p3 = some r) : Met l yX3_whatIs wsX3_whatIs ({ frames := 5, cells := 0, slots := 0, locals := 116 }) (va_Pc [.ref (b 0), .int p1, .int p2, .int p3] (PB (dC, dI) cI (cwM cI b tW) sz sf)) (va_Qi (fun (z : Int32) (_ : Unit) => z = r.1) (fun _ t => QB (dC, dI) (cwM cI b r.2) (va_A (cwM cI b tW) sz) t) (va_A (cwM cI b tW) sz)) 0 0 (va_A (cwM cI b tW) sz) := by
  refine Met.ofW (cc := cX3_whatIs) (maxL := 10) (ret := (some .int)) (by decide) rfl ?_
  intro p e s m args below meth c s₁ B hml hv
  obtain ⟨rfl, hsz, hP, hK, hD0, hNN, hSF⟩ := hv
  have hx := B.exec
  have hb := B.bytes
  have hr := B.returns
  have hts := atoms_spec (ws := wsX3_whatIs) B.pre
  have hown : s.vm.findClass RX3 = some m.cls := findClass_of_methodNamed B.named
  have hlocks := B.notSynchronized
  subst hsz
  have hD := hD0.self (sz := s.heap.size)
  generalize hAe : va_A (cwM cI b tW) s.heap.size = A at hD hSF ⊢
  have hA : ∀ q : Nat, s.heap.size ≤ q → A q := fun q h => by rw [← hAe]; exact Or.inr h
  clear hAe hD0
  have hS : va_S A s.heap s.heap [] := va_S.rf
  have hl := lv_entry ([.ref (b 0), .int p1, .int p2, .int p3]) (n := 10) (Nat.le_of_ble_eq_true rfl)
  rw [lg_entry_eq]
  generalize (lg_sl ([.ref (b 0), .int p1, .int p2, .int p3]) ++ List.replicate (10 - (lg_sl ([.ref (b 0), .int p1, .int p2, .int p3])).length) Slot.unset).toArray = ls at hl ⊢
  have hl : lv_has ls 10 [(0, .ref (b 0)), (1, .int p1), (2, .int p2), (3, .int p3)] := hl
  rw [F_X3_whatIs] at hF
  refine lv_aload_n hx hb dX3_whatIs_0 rfl (lv_at hl 0 rfl) ?_
  refine lv_iload_n hx hb dX3_whatIs_1 rfl (lv_at hl 1 rfl) ?_
  have hPc := hP.sub (ws' := (cwM cI b tW)) [0, 1, 2, 3, 4, 5, 6, 7, 8, 9] rfl
  have hDc := hD.sub (ws' := (cwM cI b tW)) [0, 1, 2, 3, 4, 5, 6, 7, 8, 9] (by decide) rfl
  have hFc := va_free (wc := (cwM cI b tW)) hD hS hA [0, 1, 2, 3, 4, 5, 6, 7, 8, 9] rfl
  refine bd hF (fun r2 hG hF => ?_)
  refine va_calli (va_runV (As := [.int p1]) (rest := []) ⟨hx, hb, hml, hown, hts⟩ (c_X3_isCitizen l dC dI cI sf s.heap.size N b tW p1 r2 hG) (cwV 1 hts gX3_whatIs_X3_isCitizen rfl rfl rfl (by decide +kernel) ⟨Nat.le_of_ble_eq_true rfl, Nat.le_of_ble_eq_true rfl⟩) ⟨fun a U g mk q => ⟨q.1, q.2.call⟩, va_recv hK hP (ci := 3) (q0 := 0) rfl rfl, fun U hU hW => ⟨rfl, PB.of hU hW hPc hK hDc hNN hSF hS hFc⟩⟩ rfl rfl hl.1 rfl (lv_room (Nat.le_of_ble_eq_true rfl)) dX3_whatIs_2 ⟨Nat.le_of_ble_eq_true rfl, Nat.le_of_ble_eq_true rfl⟩) hS (fun q _ h => hFc q h) hFc (fun z_ u_ t H locs ht hvm hw hB hz1 hk1 hS => ?_)
  subst z_
  obtain ⟨hP1, hD1⟩ := hB
  rw [ht] at hP1
  have hJ := vb_join (ws' := (cwM cI b tW)) hP hD [0, 1, 2, 3, 4, 5, 6, 7, 8, 9] [] [0, 1, 2, 3, 4, 5, 6, 7, 8, 9] rfl rfl (by decide) (by decide) hk1 hFc hP1 hD1 rfl (by decide) rfl
  clear hP hD hPc hDc hFc hP1 hD1 hk1 hz1 ht hvm hG
  obtain ⟨hP, hD⟩ := hJ
  refine vW_have (fun R av Q => ∀ (tW : MS) (x1 : Int32) (x2 : Int32) (x3 : Int32) (z0 : Int32) (H : Heap) (locs : List Loc) (ls : Array Slot), F_X3_whatIs_34 N tW x1 x2 x3 z0 = some r → va_P (dC, dI) vwCl (cwM cI b tW) H → va_D A (cwM cI b tW) → va_S A s.heap H locs → lv_has ls 10 [(0, .ref (b 0)), (1, .int x1), (2, .int x2), (3, .int x3)] → W p l e R s m av below meth c H locs 0 0 Q (F0 m 34 ls [.int z0])) ?_ (fun kJ34 => ?_)
  · 
    intro tW x1 x2 x3 z0 H locs ls hF hP hD hS hl
    rw [F_X3_whatIs_34] at hF
    refine lv_istore (lv' := [(4, .int z0), (0, .ref (b 0)), (1, .int x1), (2, .int x2), (3, .int x3)]) hx hb dX3_whatIs_34 hl (by decide) rfl (fun ls hl => ?_)
    refine lv_iload hx hb dX3_whatIs_36 (lv_at hl 0 rfl) ?_
    refine lv_if_eq (tgt := 48) hx hb dX3_whatIs_38 (by decide) (fun hc => ?_) (fun hc => ?_)
    · have hF := ift hc hF
      refine lv_iconst (v := nI 0) hx hb dX3_whatIs_48 (by decide) ?_
      refine lv_istore (lv' := [(5, .int (nI 0)), (4, .int z0), (0, .ref (b 0)), (1, .int x1), (2, .int x2), (3, .int x3)]) hx hb dX3_whatIs_49 hl (by decide) rfl (fun ls hl => ?_)
      refine lv_iconst (v := nI 0) hx hb dX3_whatIs_51 (by decide) ?_
      refine vW_have (fun R av Q => ∀ (n54 : Nat) (tW : MS) (x1 : Int32) (x2 : Int32) (x3 : Int32) (x5 : Int32) (x6 : Int32) (H : Heap) (locs : List Loc) (ls : Array Slot), F_X3_whatIs_54 N n54 tW x1 x2 x3 x5 x6 = some r → va_P (dC, dI) vwCl (cwM cI b tW) H → va_D A (cwM cI b tW) → va_S A s.heap H locs → lv_has ls 10 [(0, .ref (b 0)), (1, .int x1), (2, .int x2), (3, .int x3), (5, .int x5), (6, .int x6)] → W p l e R s m av below meth c H locs 0 0 Q (F0 m 54 ls [])) ?_ (fun kJ54 => ?_)
      · intro n54
        induction n54 with
        | zero => intro tW x1 x2 x3 x5 x6 H locs ls hF; exact nn hF
        | succ n54 ih54 =>
          intro tW x1 x2 x3 x5 x6 H locs ls hF hP hD hS hl
          rw [F_X3_whatIs_54] at hF
          refine lv_iload hx hb dX3_whatIs_54 (lv_at hl 5 rfl) ?_
          refine lv_iload_n hx hb dX3_whatIs_56 rfl (lv_at hl 3 rfl) ?_
          refine vW_have (fun R av Q => ∀ (tW : MS) (x1 : Int32) (x2 : Int32) (x3 : Int32) (x5 : Int32) (x6 : Int32) (z0 : Int32) (z1 : Int32) (H : Heap) (locs : List Loc) (ls : Array Slot), F_X3_whatIs_67 N (fun ctW cx1 cx2 cx3 cx5 cx6 => F_X3_whatIs_54 N n54 ctW cx1 cx2 cx3 cx5 cx6) tW x1 x2 x3 x5 x6 z0 z1 = some r → va_P (dC, dI) vwCl (cwM cI b tW) H → va_D A (cwM cI b tW) → va_S A s.heap H locs → lv_has ls 10 [(0, .ref (b 0)), (1, .int x1), (2, .int x2), (3, .int x3), (5, .int x5), (6, .int x6)] → W p l e R s m av below meth c H locs 0 0 Q (F0 m 67 ls [.int z1, .int z0])) ?_ (fun kJ67 => ?_)
          · 
            intro tW x1 x2 x3 x5 x6 z0 z1 H locs ls hF hP hD hS hl
            rw [F_X3_whatIs_67] at hF
            refine lv_icmp_ge (tgt := 179) hx hb dX3_whatIs_67 (by decide) (fun hc => ?_) (fun hc => ?_)
            · have hF := ift hc hF
              refine lv_iload hx hb dX3_whatIs_179 (lv_at hl 4 rfl) ?_
              obtain rfl := Option.some.inj hF
              exact W.iret (v := x5) hx hb hr (fun t ht hW => ⟨⟨x5, (), rfl, rfl, QB.of ht hP hD⟩, hS.F ht⟩) hS.2.2 dX3_whatIs_181
            · have hF := iff_ hc hF
              refine lv_iconst (v := nI 1) hx hb dX3_whatIs_70 (by decide) ?_
              refine lv_istore (lv' := [(7, .int (nI 1)), (0, .ref (b 0)), (1, .int x1), (2, .int x2), (3, .int x3), (5, .int x5), (6, .int x6)]) hx hb dX3_whatIs_71 hl (by decide) rfl (fun ls hl => ?_)
              refine lv_aload_n hx hb dX3_whatIs_73 rfl (lv_at hl 1 rfl) ?_
              refine va_get (D := (dC, dI)) (ci := 3) (v := .ref (b 1)) (C := RX3) (T := TX3) (N := 15) hx hb hts inw_X3_whatIs_X3 hown hK hP 0 rfl rfl 0 (by decide) (hts (.fieldLink RX3 9 "DeniedOfEachOtherModel" "s" "[I") (List.mem_of_getElem? (i := 1) rfl)) (fun _ h9 => h9) rfl dX3_whatIs_74 ?_
              refine lv_aload_n hx hb dX3_whatIs_77 rfl (lv_at hl 1 rfl) ?_
              refine va_get (D := (dC, dI)) (ci := 3) (v := .ref (b 2)) (C := RX3) (T := TX3) (N := 15) hx hb hts inw_X3_whatIs_X3 hown hK hP 0 rfl rfl 1 (by decide) (hts (.fieldLink RX3 13 "DeniedOfEachOtherModel" "m" "[I") (List.mem_of_getElem? (i := 2) rfl)) (fun _ h9 => h9) rfl dX3_whatIs_78 ?_
              have hPc := hP.sub (ws' := (cwA cI (b 1) tW.1 ++ cwA cI (b 2) tW.2.1)) [1, 2] rfl
              have hDc := hD.sub (ws' := (cwA cI (b 1) tW.1 ++ cwA cI (b 2) tW.2.1)) [1, 2] (by decide) rfl
              have hFc := va_free (wc := (cwA cI (b 1) tW.1 ++ cwA cI (b 2) tW.2.1)) hD hS hA [1, 2] rfl
              refine bd hF (fun r81 hG hF => ?_)
              refine va_callv (va_runS (As := [.ref (b 1), .ref (b 2)]) (rest := []) ⟨hx, hb, hml, hown, hts⟩ (c_X3_copies l dC dI cI sf H.size N (b 1) (b 2) tW.1 tW.2.1 r81 hG) (va_cwS 2 hts gX3_whatIs_X3_copies rfl rfl rfl (by decide +kernel) ⟨Nat.le_of_ble_eq_true rfl, Nat.le_of_ble_eq_true rfl⟩) ⟨fun a U g mk q => ⟨q.1, q.2.call⟩, fun U hU hW => ⟨rfl, PB.of hU hW hPc hK hDc hNN hSF hS hFc⟩⟩ rfl rfl hl.1 rfl (lv_room (Nat.le_of_ble_eq_true rfl)) dX3_whatIs_81 ⟨Nat.le_of_ble_eq_true rfl, Nat.le_of_ble_eq_true rfl⟩) hS (fun q _ h => hFc q h) hFc (fun u_ t H locs ht hvm hw hB hz1 hk1 hS => ?_)
              obtain ⟨hP1, hD1⟩ := hB
              rw [ht] at hP1
              have hJ := vb_join (ws' := (cwM cI b (tW.1, r81, tW.2.2.1, tW.2.2.2.1, tW.2.2.2.2.1, tW.2.2.2.2.2.1, tW.2.2.2.2.2.2.1, tW.2.2.2.2.2.2.2.1, tW.2.2.2.2.2.2.2.2.1, tW.2.2.2.2.2.2.2.2.2.1, tW.2.2.2.2.2.2.2.2.2.2.1, tW.2.2.2.2.2.2.2.2.2.2.2.1, tW.2.2.2.2.2.2.2.2.2.2.2.2.1, tW.2.2.2.2.2.2.2.2.2.2.2.2.2.1, tW.2.2.2.2.2.2.2.2.2.2.2.2.2.2))) hP hD [1, 2] [0, 3, 4, 5, 6, 7, 8, 9] [0, 8, 9, 1, 2, 3, 4, 5, 6, 7] rfl rfl (by decide) (by decide) hk1 hFc hP1 hD1 rfl (by decide) rfl
              clear hP hD hPc hDc hFc hP1 hD1 hk1 hz1 ht hvm hG
              obtain ⟨hP, hD⟩ := hJ
              refine lv_aload_n hx hb dX3_whatIs_84 rfl (lv_at hl 1 rfl) ?_
              refine va_get (D := (dC, dI)) (ci := 3) (v := .ref (b 2)) (C := RX3) (T := TX3) (N := 15) hx hb hts inw_X3_whatIs_X3 hown hK hP 0 rfl rfl 1 (by decide) (hts (.fieldLink RX3 13 "DeniedOfEachOtherModel" "m" "[I") (List.mem_of_getElem? (i := 2) rfl)) (fun _ h9 => h9) rfl dX3_whatIs_85 ?_
              refine lv_iload_n hx hb dX3_whatIs_88 rfl (lv_at hl 2 rfl) ?_
              refine lv_iload_n hx hb dX3_whatIs_89 rfl (lv_at hl 4 rfl) ?_
              have hPc := hP.sub (ws' := ([] : va_W)) [] rfl
              have hDc := hD.sub (ws' := ([] : va_W)) [] (by decide) rfl
              have hFc := va_free (wc := ([] : va_W)) hD hS hA [] rfl
              refine bd hF (fun r90 hG hF => ?_)
              refine va_calli (va_runS (As := [.int x1, .int x3]) (rest := [.ref (b 2)]) ⟨hx, hb, hml, hown, hts⟩ (c_X3_of l dC dI cI sf H.size N  x1 x3 r90 hG) (va_cwS 2 hts gX3_whatIs_X3_of rfl rfl rfl (by decide +kernel) ⟨Nat.le_of_ble_eq_true rfl, Nat.le_of_ble_eq_true rfl⟩) ⟨fun a U g mk q => ⟨q.1, q.2.call⟩, fun U hU hW => ⟨rfl, PB.of hU hW hPc hK hDc hNN hSF hS hFc⟩⟩ rfl rfl hl.1 rfl (lv_room (Nat.le_of_ble_eq_true rfl)) dX3_whatIs_90 ⟨Nat.le_of_ble_eq_true rfl, Nat.le_of_ble_eq_true rfl⟩) hS (fun q _ h => hFc q h) hFc (fun z_ u_ t H locs ht hvm hw hB hz1 hk1 hS => ?_)
              subst z_
              obtain ⟨hP1, hD1⟩ := hB
              rw [ht] at hP1
              have hJ := vb_join (ws' := (cwM cI b (tW.1, r81, tW.2.2.1, tW.2.2.2.1, tW.2.2.2.2.1, tW.2.2.2.2.2.1, tW.2.2.2.2.2.2.1, tW.2.2.2.2.2.2.2.1, tW.2.2.2.2.2.2.2.2.1, tW.2.2.2.2.2.2.2.2.2.1, tW.2.2.2.2.2.2.2.2.2.2.1, tW.2.2.2.2.2.2.2.2.2.2.2.1, tW.2.2.2.2.2.2.2.2.2.2.2.2.1, tW.2.2.2.2.2.2.2.2.2.2.2.2.2.1, tW.2.2.2.2.2.2.2.2.2.2.2.2.2.2))) hP hD [] [0, 1, 2, 3, 4, 5, 6, 7, 8, 9] [0, 1, 2, 3, 4, 5, 6, 7, 8, 9] rfl rfl (by decide) (by decide) hk1 hFc hP1 hD1 rfl (by decide) rfl
              clear hP hD hPc hDc hFc hP1 hD1 hk1 hz1 ht hvm hG
              obtain ⟨hP, hD⟩ := hJ
              refine lv_iload hx hb dX3_whatIs_93 (lv_at hl 6 rfl) ?_
              refine cki hF (fun hi hF => ?_)
              refine va_iast (D := (dC, dI)) hx hb hK hP hD hS 2 0 rfl rfl hi dX3_whatIs_95 (fun H locs hP hD hS => ?_)
              have hP : va_P (dC, dI) vwCl (cwM cI b (tW.1, (upd r81 r90.toNatClampNeg x6), tW.2.2.1, tW.2.2.2.1, tW.2.2.2.2.1, tW.2.2.2.2.2.1, tW.2.2.2.2.2.2.1, tW.2.2.2.2.2.2.2.1, tW.2.2.2.2.2.2.2.2.1, tW.2.2.2.2.2.2.2.2.2.1, tW.2.2.2.2.2.2.2.2.2.2.1, tW.2.2.2.2.2.2.2.2.2.2.2.1, tW.2.2.2.2.2.2.2.2.2.2.2.2.1, tW.2.2.2.2.2.2.2.2.2.2.2.2.2.1, tW.2.2.2.2.2.2.2.2.2.2.2.2.2.2)) H := hP
              have hD : va_D A (cwM cI b (tW.1, (upd r81 r90.toNatClampNeg x6), tW.2.2.1, tW.2.2.2.1, tW.2.2.2.2.1, tW.2.2.2.2.2.1, tW.2.2.2.2.2.2.1, tW.2.2.2.2.2.2.2.1, tW.2.2.2.2.2.2.2.2.1, tW.2.2.2.2.2.2.2.2.2.1, tW.2.2.2.2.2.2.2.2.2.2.1, tW.2.2.2.2.2.2.2.2.2.2.2.1, tW.2.2.2.2.2.2.2.2.2.2.2.2.1, tW.2.2.2.2.2.2.2.2.2.2.2.2.2.1, tW.2.2.2.2.2.2.2.2.2.2.2.2.2.2)) := hD
              refine lv_iconst (v := nI 0) hx hb dX3_whatIs_96 (by decide) ?_
              refine vW_have (fun R av Q => ∀ (n99 : Nat) (tW : MS) (x1 : Int32) (x2 : Int32) (x3 : Int32) (x5 : Int32) (x6 : Int32) (x7 : Int32) (x8 : Int32) (H : Heap) (locs : List Loc) (ls : Array Slot), F_X3_whatIs_99 N (fun ctW cx1 cx2 cx3 cx5 cx6 => F_X3_whatIs_54 N n54 ctW cx1 cx2 cx3 cx5 cx6) n99 tW x1 x2 x3 x5 x6 x7 x8 = some r → va_P (dC, dI) vwCl (cwM cI b tW) H → va_D A (cwM cI b tW) → va_S A s.heap H locs → lv_has ls 10 [(0, .ref (b 0)), (1, .int x1), (2, .int x2), (3, .int x3), (5, .int x5), (6, .int x6), (7, .int x7), (8, .int x8)] → W p l e R s m av below meth c H locs 0 0 Q (F0 m 99 ls [])) ?_ (fun kJ99 => ?_)
              · intro n99
                induction n99 with
                | zero => intro tW x1 x2 x3 x5 x6 x7 x8 H locs ls hF; exact nn hF
                | succ n99 ih99 =>
                  intro tW x1 x2 x3 x5 x6 x7 x8 H locs ls hF hP hD hS hl
                  rw [F_X3_whatIs_99] at hF
                  refine lv_iload hx hb dX3_whatIs_99 (lv_at hl 7 rfl) ?_
                  refine lv_aload_n hx hb dX3_whatIs_101 rfl (lv_at hl 0 rfl) ?_
                  refine va_get (D := (dC, dI)) (ci := 3) (v := .int tW.2.2.2.2.2.2.2.2.2.1) (C := RX3) (T := TX3) (N := 15) hx hb hts inw_X3_whatIs_X3 hown hK hP 0 rfl rfl 9 (by decide) (hts (.fieldLink RX3 208 "DeniedOfEachOtherModel" "rowMany" "I") (List.mem_of_getElem? (i := 3) rfl)) (fun _ h9 => h9) rfl dX3_whatIs_102 ?_
                  refine vW_have (fun R av Q => ∀ (tW : MS) (x1 : Int32) (x2 : Int32) (x3 : Int32) (x5 : Int32) (x6 : Int32) (x7 : Int32) (H : Heap) (locs : List Loc) (ls : Array Slot), F_X3_whatIs_155 N (fun ctW cx1 cx2 cx3 cx5 cx6 => F_X3_whatIs_54 N n54 ctW cx1 cx2 cx3 cx5 cx6) tW x1 x2 x3 x5 x6 x7 = some r → va_P (dC, dI) vwCl (cwM cI b tW) H → va_D A (cwM cI b tW) → va_S A s.heap H locs → lv_has ls 10 [(0, .ref (b 0)), (1, .int x1), (2, .int x2), (3, .int x3), (5, .int x5), (6, .int x6), (7, .int x7)] → W p l e R s m av below meth c H locs 0 0 Q (F0 m 155 ls [])) ?_ (fun kJ155 => ?_)
                  · 
                    intro tW x1 x2 x3 x5 x6 x7 H locs ls hF hP hD hS hl
                    rw [F_X3_whatIs_155] at hF
                    refine lv_iload hx hb dX3_whatIs_155 (lv_at hl 4 rfl) ?_
                    refine lv_iload hx hb dX3_whatIs_157 (lv_at hl 6 rfl) ?_
                    refine vW_have (fun R av Q => ∀ (tW : MS) (x1 : Int32) (x2 : Int32) (x3 : Int32) (x6 : Int32) (z0 : Int32) (z1 : Int32) (H : Heap) (locs : List Loc) (ls : Array Slot), F_X3_whatIs_170 N (fun ctW cx1 cx2 cx3 cx5 cx6 => F_X3_whatIs_54 N n54 ctW cx1 cx2 cx3 cx5 cx6) tW x1 x2 x3 x6 z0 z1 = some r → va_P (dC, dI) vwCl (cwM cI b tW) H → va_D A (cwM cI b tW) → va_S A s.heap H locs → lv_has ls 10 [(0, .ref (b 0)), (1, .int x1), (2, .int x2), (3, .int x3), (6, .int x6)] → W p l e R s m av below meth c H locs 0 0 Q (F0 m 170 ls [.int z1, .int z0])) ?_ (fun kJ170 => ?_)
                    · 
                      intro tW x1 x2 x3 x6 z0 z1 H locs ls hF hP hD hS hl
                      rw [F_X3_whatIs_170] at hF
                      refine lv_ior hx hb dX3_whatIs_170 ?_
                      refine lv_istore (lv' := [(5, .int (z0 ||| z1)), (0, .ref (b 0)), (1, .int x1), (2, .int x2), (3, .int x3), (6, .int x6)]) hx hb dX3_whatIs_171 hl (by decide) rfl (fun ls hl => ?_)
                      refine lv_iinc (v := x6 + (nI 1)) (lv' := [(6, .int (x6 + (nI 1))), (5, .int (z0 ||| z1)), (0, .ref (b 0)), (1, .int x1), (2, .int x2), (3, .int x3)]) hx hb dX3_whatIs_173 hl (k := 5) rfl (by rfl) (by decide) rfl (fun ls hl => ?_)
                      refine lv_goto (tgt := 54) hx hb dX3_whatIs_176 (by decide) ?_
                      exact ih54 tW x1 x2 x3 (z0 ||| z1) (x6 + (nI 1)) _ _ _ hF hP hD hS (lv_sub hl [2, 3, 4, 5, 1, 0] rfl)
                    refine lv_if_eq (tgt := 169) hx hb dX3_whatIs_159 (by decide) (fun hc => ?_) (fun hc => ?_)
                    · have hF := ift hc hF
                      refine lv_iconst (v := nI 0) hx hb dX3_whatIs_169 (by decide) ?_
                      exact kJ170 tW x1 x2 x3 x6 x5 (nI 0) _ _ _ hF hP hD hS (lv_sub hl [0, 1, 2, 3, 5] rfl)
                    · have hF := iff_ hc hF
                      refine lv_iconst (v := nI 1) hx hb dX3_whatIs_162 (by decide) ?_
                      refine lv_iload hx hb dX3_whatIs_163 (lv_at hl 5 rfl) ?_
                      refine lv_ishl hx hb dX3_whatIs_165 ?_
                      refine lv_goto (tgt := 170) hx hb dX3_whatIs_166 (by decide) ?_
                      exact kJ170 tW x1 x2 x3 x6 x5 ((nI 1) <<< (x6 &&& 31)) _ _ _ hF hP hD hS (lv_sub hl [0, 1, 2, 3, 5] rfl)
                  refine lv_icmp_ge (tgt := 155) hx hb dX3_whatIs_105 (by decide) (fun hc => ?_) (fun hc => ?_)
                  · have hF := ift hc hF
                    exact kJ155 tW x1 x2 x3 x5 x6 x7 _ _ _ hF hP hD hS (lv_sub hl [0, 1, 2, 3, 4, 5, 6] rfl)
                  · have hF := iff_ hc hF
                    refine lv_iload hx hb dX3_whatIs_108 (lv_at hl 6 rfl) ?_
                    refine lv_aload_n hx hb dX3_whatIs_110 rfl (lv_at hl 0 rfl) ?_
                    refine va_get (D := (dC, dI)) (ci := 3) (v := .ref (b 2)) (C := RX3) (T := TX3) (N := 15) hx hb hts inw_X3_whatIs_X3 hown hK hP 0 rfl rfl 1 (by decide) (hts (.fieldLink RX3 13 "DeniedOfEachOtherModel" "m" "[I") (List.mem_of_getElem? (i := 2) rfl)) (fun _ h9 => h9) rfl dX3_whatIs_111 ?_
                    refine lv_iload_n hx hb dX3_whatIs_114 rfl (lv_at hl 1 rfl) ?_
                    refine lv_iconst (v := nI 4) hx hb dX3_whatIs_115 (by decide) ?_
                    refine lv_iload_n hx hb dX3_whatIs_116 rfl (lv_at hl 2 rfl) ?_
                    refine lv_iadd hx hb dX3_whatIs_117 ?_
                    have hPc := hP.sub (ws' := ([] : va_W)) [] rfl
                    have hDc := hD.sub (ws' := ([] : va_W)) [] (by decide) rfl
                    have hFc := va_free (wc := ([] : va_W)) hD hS hA [] rfl
                    refine bd hF (fun r118 hG hF => ?_)
                    refine va_calli (va_runS (As := [.int x1, .int ((nI 4) + x2)]) (rest := [.ref (b 2), .int x7]) ⟨hx, hb, hml, hown, hts⟩ (c_X3_of l dC dI cI sf H.size N  x1 ((nI 4) + x2) r118 hG) (va_cwS 2 hts gX3_whatIs_X3_of rfl rfl rfl (by decide +kernel) ⟨Nat.le_of_ble_eq_true rfl, Nat.le_of_ble_eq_true rfl⟩) ⟨fun a U g mk q => ⟨q.1, q.2.call⟩, fun U hU hW => ⟨rfl, PB.of hU hW hPc hK hDc hNN hSF hS hFc⟩⟩ rfl rfl hl.1 rfl (lv_room (Nat.le_of_ble_eq_true rfl)) dX3_whatIs_118 ⟨Nat.le_of_ble_eq_true rfl, Nat.le_of_ble_eq_true rfl⟩) hS (fun q _ h => hFc q h) hFc (fun z_ u_ t H locs ht hvm hw hB hz1 hk1 hS => ?_)
                    subst z_
                    obtain ⟨hP1, hD1⟩ := hB
                    rw [ht] at hP1
                    have hJ := vb_join (ws' := (cwM cI b tW)) hP hD [] [0, 1, 2, 3, 4, 5, 6, 7, 8, 9] [0, 1, 2, 3, 4, 5, 6, 7, 8, 9] rfl rfl (by decide) (by decide) hk1 hFc hP1 hD1 rfl (by decide) rfl
                    clear hP hD hPc hDc hFc hP1 hD1 hk1 hz1 ht hvm hG
                    obtain ⟨hP, hD⟩ := hJ
                    refine cki hF (fun hi hF => ?_)
                    refine va_iald (D := (dC, dI)) hx hb hK hP 2 0 rfl rfl hi dX3_whatIs_121 ?_
                    refine lv_aload_n hx hb dX3_whatIs_122 rfl (lv_at hl 0 rfl) ?_
                    refine va_get (D := (dC, dI)) (ci := 3) (v := .ref (b 6)) (C := RX3) (T := TX3) (N := 15) hx hb hts inw_X3_whatIs_X3 hown hK hP 0 rfl rfl 6 (by decide) (hts (.fieldLink RX3 25 "DeniedOfEachOtherModel" "row" "[I") (List.mem_of_getElem? (i := 4) rfl)) (fun _ h9 => h9) rfl dX3_whatIs_123 ?_
                    refine lv_iload hx hb dX3_whatIs_126 (lv_at hl 7 rfl) ?_
                    refine cki hF (fun hi hF => ?_)
                    refine va_iald (D := (dC, dI)) hx hb hK hP 6 0 rfl rfl hi dX3_whatIs_128 ?_
                    refine vW_have (fun R av Q => ∀ (tW : MS) (x1 : Int32) (x2 : Int32) (x3 : Int32) (x5 : Int32) (x6 : Int32) (x8 : Int32) (z0 : Int32) (z1 : Int32) (H : Heap) (locs : List Loc) (ls : Array Slot), F_X3_whatIs_137 N (fun ctW cx1 cx2 cx3 cx5 cx6 => F_X3_whatIs_54 N n54 ctW cx1 cx2 cx3 cx5 cx6) (fun ctW cx1 cx2 cx3 cx5 cx6 cx7 cx8 => F_X3_whatIs_99 N (fun ctW cx1 cx2 cx3 cx5 cx6 => F_X3_whatIs_54 N n54 ctW cx1 cx2 cx3 cx5 cx6) n99 ctW cx1 cx2 cx3 cx5 cx6 cx7 cx8) tW x1 x2 x3 x5 x6 x8 z0 z1 = some r → va_P (dC, dI) vwCl (cwM cI b tW) H → va_D A (cwM cI b tW) → va_S A s.heap H locs → lv_has ls 10 [(0, .ref (b 0)), (1, .int x1), (2, .int x2), (3, .int x3), (5, .int x5), (6, .int x6), (8, .int x8)] → W p l e R s m av below meth c H locs 0 0 Q (F0 m 137 ls [.int z1, .int z0])) ?_ (fun kJ137 => ?_)
                    · 
                      intro tW x1 x2 x3 x5 x6 x8 z0 z1 H locs ls hF hP hD hS hl
                      rw [F_X3_whatIs_137] at hF
                      refine lv_iand hx hb dX3_whatIs_137 ?_
                      refine lv_istore (lv' := [(7, .int (z0 &&& z1)), (0, .ref (b 0)), (1, .int x1), (2, .int x2), (3, .int x3), (5, .int x5), (6, .int x6), (8, .int x8)]) hx hb dX3_whatIs_138 hl (by decide) rfl (fun ls hl => ?_)
                      refine lv_aload_n hx hb dX3_whatIs_140 rfl (lv_at hl 1 rfl) ?_
                      refine va_get (D := (dC, dI)) (ci := 3) (v := .ref (b 2)) (C := RX3) (T := TX3) (N := 15) hx hb hts inw_X3_whatIs_X3 hown hK hP 0 rfl rfl 1 (by decide) (hts (.fieldLink RX3 13 "DeniedOfEachOtherModel" "m" "[I") (List.mem_of_getElem? (i := 2) rfl)) (fun _ h9 => h9) rfl dX3_whatIs_141 ?_
                      have hPc := hP.sub (ws' := (cwA cI (b 2) tW.2.1)) [2] rfl
                      have hDc := hD.sub (ws' := (cwA cI (b 2) tW.2.1)) [2] (by decide) rfl
                      have hFc := va_free (wc := (cwA cI (b 2) tW.2.1)) hD hS hA [2] rfl
                      refine bd hF (fun r144 hG hF => ?_)
                      refine va_calli (va_runS (As := [.ref (b 2)]) (rest := []) ⟨hx, hb, hml, hown, hts⟩ (c_X3_year l dC dI cI sf H.size N (b 2) tW.2.1 r144 hG) (va_cwS 1 hts gX3_whatIs_X3_year rfl rfl rfl (by decide +kernel) ⟨Nat.le_of_ble_eq_true rfl, Nat.le_of_ble_eq_true rfl⟩) ⟨fun a U g mk q => ⟨q.1, q.2.call⟩, fun U hU hW => ⟨rfl, PB.of hU hW hPc hK hDc hNN hSF hS hFc⟩⟩ rfl rfl hl.1 rfl (lv_room (Nat.le_of_ble_eq_true rfl)) dX3_whatIs_144 ⟨Nat.le_of_ble_eq_true rfl, Nat.le_of_ble_eq_true rfl⟩) hS (fun q _ h => hFc q h) hFc (fun z_ u_ t H locs ht hvm hw hB hz1 hk1 hS => ?_)
                      subst z_
                      obtain ⟨hP1, hD1⟩ := hB
                      rw [ht] at hP1
                      have hJ := vb_join (ws' := (cwM cI b (tW.1, r144.2, tW.2.2.1, tW.2.2.2.1, tW.2.2.2.2.1, tW.2.2.2.2.2.1, tW.2.2.2.2.2.2.1, tW.2.2.2.2.2.2.2.1, tW.2.2.2.2.2.2.2.2.1, tW.2.2.2.2.2.2.2.2.2.1, tW.2.2.2.2.2.2.2.2.2.2.1, tW.2.2.2.2.2.2.2.2.2.2.2.1, tW.2.2.2.2.2.2.2.2.2.2.2.2.1, tW.2.2.2.2.2.2.2.2.2.2.2.2.2.1, tW.2.2.2.2.2.2.2.2.2.2.2.2.2.2))) hP hD [2] [0, 1, 3, 4, 5, 6, 7, 8, 9] [0, 1, 9, 2, 3, 4, 5, 6, 7, 8] rfl rfl (by decide) (by decide) hk1 hFc hP1 hD1 rfl (by decide) rfl
                      clear hP hD hPc hDc hFc hP1 hD1 hk1 hz1 ht hvm hG
                      obtain ⟨hP, hD⟩ := hJ
                      refine lv_istore (lv' := [(9, .int r144.1), (7, .int (z0 &&& z1)), (0, .ref (b 0)), (1, .int x1), (2, .int x2), (3, .int x3), (5, .int x5), (6, .int x6), (8, .int x8)]) hx hb dX3_whatIs_147 hl (by decide) rfl (fun ls hl => ?_)
                      refine lv_iinc (v := x8 + (nI 1)) (lv' := [(8, .int (x8 + (nI 1))), (9, .int r144.1), (7, .int (z0 &&& z1)), (0, .ref (b 0)), (1, .int x1), (2, .int x2), (3, .int x3), (5, .int x5), (6, .int x6)]) hx hb dX3_whatIs_149 hl (k := 8) rfl (by rfl) (by decide) rfl (fun ls hl => ?_)
                      refine lv_goto (tgt := 99) hx hb dX3_whatIs_152 (by decide) ?_
                      exact ih99 (tW.1, r144.2, tW.2.2.1, tW.2.2.2.1, tW.2.2.2.2.1, tW.2.2.2.2.2.1, tW.2.2.2.2.2.2.1, tW.2.2.2.2.2.2.2.1, tW.2.2.2.2.2.2.2.2.1, tW.2.2.2.2.2.2.2.2.2.1, tW.2.2.2.2.2.2.2.2.2.2.1, tW.2.2.2.2.2.2.2.2.2.2.2.1, tW.2.2.2.2.2.2.2.2.2.2.2.2.1, tW.2.2.2.2.2.2.2.2.2.2.2.2.2.1, tW.2.2.2.2.2.2.2.2.2.2.2.2.2.2) x1 x2 x3 x5 x6 (z0 &&& z1) (x8 + (nI 1)) _ _ _ hF hP hD hS (lv_sub hl [3, 4, 5, 6, 7, 8, 2, 0] rfl)
                    refine lv_icmp_ne (tgt := 136) hx hb dX3_whatIs_129 (by decide) (fun hc => ?_) (fun hc => ?_)
                    · have hF := ift hc hF
                      refine lv_iconst (v := nI 0) hx hb dX3_whatIs_136 (by decide) ?_
                      exact kJ137 tW x1 x2 x3 x5 x6 x8 x7 (nI 0) _ _ _ hF hP hD hS (lv_sub hl [0, 1, 2, 3, 4, 5, 7] rfl)
                    · have hF := iff_ (fun h => h hc) hF
                      refine lv_iconst (v := nI 1) hx hb dX3_whatIs_132 (by decide) ?_
                      refine lv_goto (tgt := 137) hx hb dX3_whatIs_133 (by decide) ?_
                      exact kJ137 tW x1 x2 x3 x5 x6 x8 x7 (nI 1) _ _ _ hF hP hD hS (lv_sub hl [0, 1, 2, 3, 4, 5, 7] rfl)
              refine lv_istore (lv' := [(8, .int (nI 0)), (7, .int (nI 1)), (0, .ref (b 0)), (1, .int x1), (2, .int x2), (3, .int x3), (5, .int x5), (6, .int x6)]) hx hb dX3_whatIs_97 hl (by decide) rfl (fun ls hl => ?_)
              exact kJ99 N (tW.1, (upd r81 r90.toNatClampNeg x6), tW.2.2.1, tW.2.2.2.1, tW.2.2.2.2.1, tW.2.2.2.2.2.1, tW.2.2.2.2.2.2.1, tW.2.2.2.2.2.2.2.1, tW.2.2.2.2.2.2.2.2.1, tW.2.2.2.2.2.2.2.2.2.1, tW.2.2.2.2.2.2.2.2.2.2.1, tW.2.2.2.2.2.2.2.2.2.2.2.1, tW.2.2.2.2.2.2.2.2.2.2.2.2.1, tW.2.2.2.2.2.2.2.2.2.2.2.2.2.1, tW.2.2.2.2.2.2.2.2.2.2.2.2.2.2) x1 x2 x3 x5 x6 (nI 1) (nI 0) _ _ _ hF hP hD hS (lv_sub hl [2, 3, 4, 5, 6, 7, 1, 0] rfl)
          refine lv_if_ne (tgt := 65) hx hb dX3_whatIs_57 (by decide) (fun hc => ?_) (fun hc => ?_)
          · have hF := ift hc hF
            refine lv_bipush (v := nI 10) hx hb dX3_whatIs_65 (by decide) ?_
            exact kJ67 tW x1 x2 x3 x5 x6 x6 (nI 10) _ _ _ hF hP hD hS (lv_sub hl [0, 1, 2, 3, 4, 5] rfl)
          · have hF := iff_ (fun h => h hc) hF
            refine lv_bipush (v := nI 6) hx hb dX3_whatIs_60 (by decide) ?_
            refine lv_goto (tgt := 67) hx hb dX3_whatIs_62 (by decide) ?_
            exact kJ67 tW x1 x2 x3 x5 x6 x6 (nI 6) _ _ _ hF hP hD hS (lv_sub hl [0, 1, 2, 3, 4, 5] rfl)
      refine lv_istore (lv' := [(6, .int (nI 0)), (5, .int (nI 0)), (4, .int z0), (0, .ref (b 0)), (1, .int x1), (2, .int x2), (3, .int x3)]) hx hb dX3_whatIs_52 hl (by decide) rfl (fun ls hl => ?_)
      exact kJ54 N tW x1 x2 x3 (nI 0) (nI 0) _ _ _ hF hP hD hS (lv_sub hl [3, 4, 5, 6, 1, 0] rfl)
    · have hF := iff_ hc hF
      refine lv_aload_n hx hb dX3_whatIs_41 rfl (lv_at hl 1 rfl) ?_
      refine lv_iload hx hb dX3_whatIs_42 (lv_at hl 0 rfl) ?_
      have hPc := hP.sub (ws' := (cwM cI b tW)) [0, 1, 2, 3, 4, 5, 6, 7, 8, 9] rfl
      have hDc := hD.sub (ws' := (cwM cI b tW)) [0, 1, 2, 3, 4, 5, 6, 7, 8, 9] (by decide) rfl
      have hFc := va_free (wc := (cwM cI b tW)) hD hS hA [0, 1, 2, 3, 4, 5, 6, 7, 8, 9] rfl
      refine bd hF (fun r44 hG hF => ?_)
      refine va_calli (va_runV (As := [.int z0]) (rest := []) ⟨hx, hb, hml, hown, hts⟩ (c_X3_no l dC dI cI sf H.size N b tW z0 r44 hG) (cwV 1 hts gX3_whatIs_X3_no rfl rfl rfl (by decide +kernel) ⟨Nat.le_of_ble_eq_true rfl, Nat.le_of_ble_eq_true rfl⟩) ⟨fun a U g mk q => ⟨q.1, q.2.call⟩, va_recv hK hP (ci := 3) (q0 := 0) rfl rfl, fun U hU hW => ⟨rfl, PB.of hU hW hPc hK hDc hNN hSF hS hFc⟩⟩ rfl rfl hl.1 rfl (lv_room (Nat.le_of_ble_eq_true rfl)) dX3_whatIs_44 ⟨Nat.le_of_ble_eq_true rfl, Nat.le_of_ble_eq_true rfl⟩) hS (fun q _ h => hFc q h) hFc (fun z_ u_ t H locs ht hvm hw hB hz1 hk1 hS => ?_)
      subst z_
      obtain ⟨hP1, hD1⟩ := hB
      rw [ht] at hP1
      have hJ := vb_join (ws' := (cwM cI b r44.2)) hP hD [0, 1, 2, 3, 4, 5, 6, 7, 8, 9] [] [0, 1, 2, 3, 4, 5, 6, 7, 8, 9] rfl rfl (by decide) (by decide) hk1 hFc hP1 hD1 rfl (by decide) rfl
      clear hP hD hPc hDc hFc hP1 hD1 hk1 hz1 ht hvm hG
      obtain ⟨hP, hD⟩ := hJ
      obtain rfl := Option.some.inj hF
      exact W.iret (v := r44.1) hx hb hr (fun t ht hW => ⟨⟨r44.1, (), rfl, rfl, QB.of ht hP hD⟩, hS.F ht⟩) hS.2.2 dX3_whatIs_47
  refine lv_if_eq (tgt := 15) hx hb dX3_whatIs_5 (by decide) (fun hc => ?_) (fun hc => ?_)
  · have hF := ift hc hF
    refine lv_iconst (v := (-1)) hx hb dX3_whatIs_15 (by decide) ?_
    refine lv_goto (tgt := 34) hx hb dX3_whatIs_16 (by decide) ?_
    exact kJ34 tW p1 p2 p3 (-1) _ _ _ hF hP hD hS (lv_sub hl [0, 1, 2, 3] rfl)
  · have hF := iff_ hc hF
    refine lv_iload_n hx hb dX3_whatIs_8 rfl (lv_at hl 2 rfl) ?_
    have hPc := hP.sub (ws' := ([] : va_W)) [] rfl
    have hDc := hD.sub (ws' := ([] : va_W)) [] (by decide) rfl
    have hFc := va_free (wc := ([] : va_W)) hD hS hA [] rfl
    refine bd hF (fun r9 hG hF => ?_)
    refine va_calli (va_runS (As := [.int p2]) (rest := []) ⟨hx, hb, hml, hown, hts⟩ (c_X3_isTopic l dC dI cI sf H.size N  p2 r9 hG) (va_cwS 1 hts gX3_whatIs_X3_isTopic rfl rfl rfl (by decide +kernel) ⟨Nat.le_of_ble_eq_true rfl, Nat.le_of_ble_eq_true rfl⟩) ⟨fun a U g mk q => ⟨q.1, q.2.call⟩, fun U hU hW => ⟨rfl, PB.of hU hW hPc hK hDc hNN hSF hS hFc⟩⟩ rfl rfl hl.1 rfl (lv_room (Nat.le_of_ble_eq_true rfl)) dX3_whatIs_9 ⟨Nat.le_of_ble_eq_true rfl, Nat.le_of_ble_eq_true rfl⟩) hS (fun q _ h => hFc q h) hFc (fun z_ u_ t H locs ht hvm hw hB hz1 hk1 hS => ?_)
    subst z_
    obtain ⟨hP1, hD1⟩ := hB
    rw [ht] at hP1
    have hJ := vb_join (ws' := (cwM cI b tW)) hP hD [] [0, 1, 2, 3, 4, 5, 6, 7, 8, 9] [0, 1, 2, 3, 4, 5, 6, 7, 8, 9] rfl rfl (by decide) (by decide) hk1 hFc hP1 hD1 rfl (by decide) rfl
    clear hP hD hPc hDc hFc hP1 hD1 hk1 hz1 ht hvm hG
    obtain ⟨hP, hD⟩ := hJ
    refine lv_if_ne (tgt := 19) hx hb dX3_whatIs_12 (by decide) (fun hc => ?_) (fun hc => ?_)
    · have hF := ift hc hF
      refine lv_iload_n hx hb dX3_whatIs_19 rfl (lv_at hl 3 rfl) ?_
      refine lv_iconst (v := nI 0) hx hb dX3_whatIs_20 (by decide) ?_
      refine lv_iconst (v := nI 1) hx hb dX3_whatIs_21 (by decide) ?_
      have hPc := hP.sub (ws' := ([] : va_W)) [] rfl
      have hDc := hD.sub (ws' := ([] : va_W)) [] (by decide) rfl
      have hFc := va_free (wc := ([] : va_W)) hD hS hA [] rfl
      refine bd hF (fun r22 hG hF => ?_)
      refine va_calli (va_runS (As := [.int p3, .int (nI 0), .int (nI 1)]) (rest := []) ⟨hx, hb, hml, hown, hts⟩ (c_X3_isIn l dC dI cI sf H.size N  p3 (nI 0) (nI 1) r22 hG) (va_cwS 3 hts gX3_whatIs_X3_isIn rfl rfl rfl (by decide +kernel) ⟨Nat.le_of_ble_eq_true rfl, Nat.le_of_ble_eq_true rfl⟩) ⟨fun a U g mk q => ⟨q.1, q.2.call⟩, fun U hU hW => ⟨rfl, PB.of hU hW hPc hK hDc hNN hSF hS hFc⟩⟩ rfl rfl hl.1 rfl (lv_room (Nat.le_of_ble_eq_true rfl)) dX3_whatIs_22 ⟨Nat.le_of_ble_eq_true rfl, Nat.le_of_ble_eq_true rfl⟩) hS (fun q _ h => hFc q h) hFc (fun z_ u_ t H locs ht hvm hw hB hz1 hk1 hS => ?_)
      subst z_
      obtain ⟨hP1, hD1⟩ := hB
      rw [ht] at hP1
      have hJ := vb_join (ws' := (cwM cI b tW)) hP hD [] [0, 1, 2, 3, 4, 5, 6, 7, 8, 9] [0, 1, 2, 3, 4, 5, 6, 7, 8, 9] rfl rfl (by decide) (by decide) hk1 hFc hP1 hD1 rfl (by decide) rfl
      clear hP hD hPc hDc hFc hP1 hD1 hk1 hz1 ht hvm hG
      obtain ⟨hP, hD⟩ := hJ
      refine lv_if_eq (tgt := 32) hx hb dX3_whatIs_25 (by decide) (fun hc => ?_) (fun hc => ?_)
      · have hF := ift hc hF
        refine lv_bipush (v := (-2)) hx hb dX3_whatIs_32 (by decide) ?_
        exact kJ34 tW p1 p2 p3 (-2) _ _ _ hF hP hD hS (lv_sub hl [0, 1, 2, 3] rfl)
      · have hF := iff_ hc hF
        refine lv_iconst (v := nI 0) hx hb dX3_whatIs_28 (by decide) ?_
        refine lv_goto (tgt := 34) hx hb dX3_whatIs_29 (by decide) ?_
        exact kJ34 tW p1 p2 p3 (nI 0) _ _ _ hF hP hD hS (lv_sub hl [0, 1, 2, 3] rfl)
    · have hF := iff_ (fun h => h hc) hF
      refine lv_iconst (v := (-1)) hx hb dX3_whatIs_15 (by decide) ?_
      refine lv_goto (tgt := 34) hx hb dX3_whatIs_16 (by decide) ?_
      exact kJ34 tW p1 p2 p3 (-1) _ _ _ hF hP hD hS (lv_sub hl [0, 1, 2, 3] rfl)
set_option maxHeartbeats 4000000 in
set_option maxRecDepth 100000 in
theorem c_X3_winters (l : Launch) (dC : Nat → ClassId) (dI : Nat → Nat → Nat) (cI : ClassId) (sf : SFP) (sz : Nat) (N : Nat) (j00 : Nat) (g0W : FA) (r : FA) (hF : F_X3_winters N g0W = some r) : Met l yX3_winters wsX3_winters ({ frames := 2, cells := 0, slots := 0, locals := 42 }) (va_Pc [.ref j00] (PB (dC, dI) cI (cwA cI j00 g0W) sz sf)) (va_Qv (fun _ : Unit => True) (fun _ t => QB (dC, dI) (cwA cI j00 r) (va_A (cwA cI j00 g0W) sz) t) (va_A (cwA cI j00 g0W) sz)) 0 0 (va_A (cwA cI j00 g0W) sz) := by
  refine Met.ofW (cc := cX3_winters) (maxL := 2) (ret := none) (by decide) rfl ?_
  intro p e s m args below meth c s₁ B hml hv
  obtain ⟨rfl, hsz, hP, hK, hD0, hNN, hSF⟩ := hv
  have hx := B.exec
  have hb := B.bytes
  have hr := B.returns
  have hts := atoms_spec (ws := wsX3_winters) B.pre
  have hown : s.vm.findClass RX3 = some m.cls := findClass_of_methodNamed B.named
  have hlocks := B.notSynchronized
  subst hsz
  have hD := hD0.self (sz := s.heap.size)
  generalize hAe : va_A (cwA cI j00 g0W) s.heap.size = A at hD hSF ⊢
  have hA : ∀ q : Nat, s.heap.size ≤ q → A q := fun q h => by rw [← hAe]; exact Or.inr h
  clear hAe hD0
  have hS : va_S A s.heap s.heap [] := va_S.rf
  have hl := lv_entry ([.ref j00]) (n := 2) (Nat.le_of_ble_eq_true rfl)
  rw [lg_entry_eq]
  generalize (lg_sl ([.ref j00]) ++ List.replicate (2 - (lg_sl ([.ref j00])).length) Slot.unset).toArray = ls at hl ⊢
  have hl : lv_has ls 2 [(0, .ref j00)] := hl
  rw [F_X3_winters] at hF
  refine lv_iconst (v := nI 0) hx hb dX3_winters_0 (by decide) ?_
  refine vW_have (fun R av Q => ∀ (n2 : Nat) (g0W : FA) (x1 : Int32) (H : Heap) (locs : List Loc) (ls : Array Slot), F_X3_winters_2 N n2 g0W x1 = some r → va_P (dC, dI) vwCl (cwA cI j00 g0W) H → va_D A (cwA cI j00 g0W) → va_S A s.heap H locs → lv_has ls 2 [(0, .ref j00), (1, .int x1)] → W p l e R s m av below meth c H locs 0 0 Q (F0 m 2 ls [])) ?_ (fun kJ2 => ?_)
  · intro n2
    induction n2 with
    | zero => intro g0W x1 H locs ls hF; exact nn hF
    | succ n2 ih2 =>
      intro g0W x1 H locs ls hF hP hD hS hl
      rw [F_X3_winters_2] at hF
      refine lv_iload_n hx hb dX3_winters_2 rfl (lv_at hl 1 rfl) ?_
      refine lv_aload_n hx hb dX3_winters_3 rfl (lv_at hl 0 rfl) ?_
      refine lv_iconst (v := nI 0) hx hb dX3_winters_4 (by decide) ?_
      refine va_iald (D := (dC, dI)) hx hb hK hP 0 0 rfl rfl (vp_in_nI (n := 0) (N := 74) (by decide) (by decide)) dX3_winters_5 ?_
      refine lv_icmp_ge (tgt := 44) hx hb dX3_winters_6 (by decide) (fun hc => ?_) (fun hc => ?_)
      · have hF := ift hc hF
        obtain rfl := Option.some.inj hF
        exact W.vret hx hb hr (fun t ht hW => ⟨⟨(), rfl, trivial, QB.of ht hP hD⟩, hS.F ht⟩) hS.2.2 dX3_winters_44
      · have hF := iff_ hc hF
        refine lv_aload_n hx hb dX3_winters_9 rfl (lv_at hl 0 rfl) ?_
        refine lv_iload_n hx hb dX3_winters_10 rfl (lv_at hl 1 rfl) ?_
        have hPc := hP.sub (ws' := (cwA cI j00 g0W)) [0] rfl
        have hDc := hD.sub (ws' := (cwA cI j00 g0W)) [0] (by decide) rfl
        have hFc := va_free (wc := (cwA cI j00 g0W)) hD hS hA [0] rfl
        refine bd hF (fun r11 hG hF => ?_)
        refine va_calli (va_runS (As := [.ref j00, .int x1]) (rest := []) ⟨hx, hb, hml, hown, hts⟩ (c_X3_isAlive l dC dI cI sf H.size N j00 g0W x1 r11 hG) (va_cwS 2 hts gX3_winters_X3_isAlive rfl rfl rfl (by decide +kernel) ⟨Nat.le_of_ble_eq_true rfl, Nat.le_of_ble_eq_true rfl⟩) ⟨fun a U g mk q => ⟨q.1, q.2.call⟩, fun U hU hW => ⟨rfl, PB.of hU hW hPc hK hDc hNN hSF hS hFc⟩⟩ rfl rfl hl.1 rfl (lv_room (Nat.le_of_ble_eq_true rfl)) dX3_winters_11 ⟨Nat.le_of_ble_eq_true rfl, Nat.le_of_ble_eq_true rfl⟩) hS (fun q _ h => hFc q h) hFc (fun z_ u_ t H locs ht hvm hw hB hz1 hk1 hS => ?_)
        subst z_
        obtain ⟨hP1, hD1⟩ := hB
        rw [ht] at hP1
        have hJ := vb_join (ws' := (cwA cI j00 g0W)) hP hD [0] [] [0] rfl rfl (by decide) (by decide) hk1 hFc hP1 hD1 rfl (by decide) rfl
        clear hP hD hPc hDc hFc hP1 hD1 hk1 hz1 ht hvm hG
        obtain ⟨hP, hD⟩ := hJ
        refine vW_have (fun R av Q => ∀ (g0W : FA) (x1 : Int32) (H : Heap) (locs : List Loc) (ls : Array Slot), F_X3_winters_38 N (fun cg0W cx1 => F_X3_winters_2 N n2 cg0W cx1) g0W x1 = some r → va_P (dC, dI) vwCl (cwA cI j00 g0W) H → va_D A (cwA cI j00 g0W) → va_S A s.heap H locs → lv_has ls 2 [(0, .ref j00), (1, .int x1)] → W p l e R s m av below meth c H locs 0 0 Q (F0 m 38 ls [])) ?_ (fun kJ38 => ?_)
        · 
          intro g0W x1 H locs ls hF hP hD hS hl
          rw [F_X3_winters_38] at hF
          refine lv_iinc (v := x1 + (nI 1)) (lv' := [(1, .int (x1 + (nI 1))), (0, .ref j00)]) hx hb dX3_winters_38 hl (k := 1) rfl (by rfl) (by decide) rfl (fun ls hl => ?_)
          refine lv_goto (tgt := 2) hx hb dX3_winters_41 (by decide) ?_
          exact ih2 g0W (x1 + (nI 1)) _ _ _ hF hP hD hS (lv_sub hl [1, 0] rfl)
        refine lv_if_eq (tgt := 38) hx hb dX3_winters_14 (by decide) (fun hc => ?_) (fun hc => ?_)
        · have hF := ift hc hF
          exact kJ38 g0W x1 _ _ _ hF hP hD hS (lv_sub hl [0, 1] rfl)
        · have hF := iff_ hc hF
          refine lv_aload_n hx hb dX3_winters_17 rfl (lv_at hl 0 rfl) ?_
          refine lv_iload_n hx hb dX3_winters_18 rfl (lv_at hl 1 rfl) ?_
          refine lv_iconst (v := nI 2) hx hb dX3_winters_19 (by decide) ?_
          have hPc := hP.sub (ws' := ([] : va_W)) [] rfl
          have hDc := hD.sub (ws' := ([] : va_W)) [] (by decide) rfl
          have hFc := va_free (wc := ([] : va_W)) hD hS hA [] rfl
          refine bd hF (fun r20 hG hF => ?_)
          refine va_calli (va_runS (As := [.int x1, .int (nI 2)]) (rest := [.ref j00]) ⟨hx, hb, hml, hown, hts⟩ (c_X3_of l dC dI cI sf H.size N  x1 (nI 2) r20 hG) (va_cwS 2 hts gX3_winters_X3_of rfl rfl rfl (by decide +kernel) ⟨Nat.le_of_ble_eq_true rfl, Nat.le_of_ble_eq_true rfl⟩) ⟨fun a U g mk q => ⟨q.1, q.2.call⟩, fun U hU hW => ⟨rfl, PB.of hU hW hPc hK hDc hNN hSF hS hFc⟩⟩ rfl rfl hl.1 rfl (lv_room (Nat.le_of_ble_eq_true rfl)) dX3_winters_20 ⟨Nat.le_of_ble_eq_true rfl, Nat.le_of_ble_eq_true rfl⟩) hS (fun q _ h => hFc q h) hFc (fun z_ u_ t H locs ht hvm hw hB hz1 hk1 hS => ?_)
          subst z_
          obtain ⟨hP1, hD1⟩ := hB
          rw [ht] at hP1
          have hJ := vb_join (ws' := (cwA cI j00 g0W)) hP hD [] [0] [0] rfl rfl (by decide) (by decide) hk1 hFc hP1 hD1 rfl (by decide) rfl
          clear hP hD hPc hDc hFc hP1 hD1 hk1 hz1 ht hvm hG
          obtain ⟨hP, hD⟩ := hJ
          refine lv_bipush (v := nI 99) hx hb dX3_winters_23 (by decide) ?_
          refine lv_aload_n hx hb dX3_winters_25 rfl (lv_at hl 0 rfl) ?_
          refine lv_iload_n hx hb dX3_winters_26 rfl (lv_at hl 1 rfl) ?_
          refine lv_iconst (v := nI 2) hx hb dX3_winters_27 (by decide) ?_
          have hPc := hP.sub (ws' := ([] : va_W)) [] rfl
          have hDc := hD.sub (ws' := ([] : va_W)) [] (by decide) rfl
          have hFc := va_free (wc := ([] : va_W)) hD hS hA [] rfl
          refine bd hF (fun r28 hG hF => ?_)
          refine va_calli (va_runS (As := [.int x1, .int (nI 2)]) (rest := [.ref j00, .int (nI 99), .int r20, .ref j00]) ⟨hx, hb, hml, hown, hts⟩ (c_X3_of l dC dI cI sf H.size N  x1 (nI 2) r28 hG) (va_cwS 2 hts gX3_winters_X3_of rfl rfl rfl (by decide +kernel) ⟨Nat.le_of_ble_eq_true rfl, Nat.le_of_ble_eq_true rfl⟩) ⟨fun a U g mk q => ⟨q.1, q.2.call⟩, fun U hU hW => ⟨rfl, PB.of hU hW hPc hK hDc hNN hSF hS hFc⟩⟩ rfl rfl hl.1 rfl (lv_room (Nat.le_of_ble_eq_true rfl)) dX3_winters_28 ⟨Nat.le_of_ble_eq_true rfl, Nat.le_of_ble_eq_true rfl⟩) hS (fun q _ h => hFc q h) hFc (fun z_ u_ t H locs ht hvm hw hB hz1 hk1 hS => ?_)
          subst z_
          obtain ⟨hP1, hD1⟩ := hB
          rw [ht] at hP1
          have hJ := vb_join (ws' := (cwA cI j00 g0W)) hP hD [] [0] [0] rfl rfl (by decide) (by decide) hk1 hFc hP1 hD1 rfl (by decide) rfl
          clear hP hD hPc hDc hFc hP1 hD1 hk1 hz1 ht hvm hG
          obtain ⟨hP, hD⟩ := hJ
          refine cki hF (fun hi hF => ?_)
          refine va_iald (D := (dC, dI)) hx hb hK hP 0 0 rfl rfl hi dX3_winters_31 ?_
          refine lv_iconst (v := nI 5) hx hb dX3_winters_32 (by decide) ?_
          refine lv_iadd hx hb dX3_winters_33 ?_
          have hPc := hP.sub (ws' := ([] : va_W)) [] rfl
          have hDc := hD.sub (ws' := ([] : va_W)) [] (by decide) rfl
          have hFc := va_free (wc := ([] : va_W)) hD hS hA [] rfl
          refine bd hF (fun r34 hG hF => ?_)
          refine va_calli (va_runS (As := [.int (nI 99), .int ((g0W r28.toNatClampNeg) + (nI 5))]) (rest := [.int r20, .ref j00]) ⟨hx, hb, hml, hown, hts⟩ (c_X3_least l dC dI cI sf H.size N  (nI 99) ((g0W r28.toNatClampNeg) + (nI 5)) r34 hG) (va_cwS 2 hts gX3_winters_X3_least rfl rfl rfl (by decide +kernel) ⟨Nat.le_of_ble_eq_true rfl, Nat.le_of_ble_eq_true rfl⟩) ⟨fun a U g mk q => ⟨q.1, q.2.call⟩, fun U hU hW => ⟨rfl, PB.of hU hW hPc hK hDc hNN hSF hS hFc⟩⟩ rfl rfl hl.1 rfl (lv_room (Nat.le_of_ble_eq_true rfl)) dX3_winters_34 ⟨Nat.le_of_ble_eq_true rfl, Nat.le_of_ble_eq_true rfl⟩) hS (fun q _ h => hFc q h) hFc (fun z_ u_ t H locs ht hvm hw hB hz1 hk1 hS => ?_)
          subst z_
          obtain ⟨hP1, hD1⟩ := hB
          rw [ht] at hP1
          have hJ := vb_join (ws' := (cwA cI j00 g0W)) hP hD [] [0] [0] rfl rfl (by decide) (by decide) hk1 hFc hP1 hD1 rfl (by decide) rfl
          clear hP hD hPc hDc hFc hP1 hD1 hk1 hz1 ht hvm hG
          obtain ⟨hP, hD⟩ := hJ
          refine cki hF (fun hi hF => ?_)
          refine va_iast (D := (dC, dI)) hx hb hK hP hD hS 0 0 rfl rfl hi dX3_winters_37 (fun H locs hP hD hS => ?_)
          have hP : va_P (dC, dI) vwCl (cwA cI j00 (upd g0W r20.toNatClampNeg r34)) H := hP
          have hD : va_D A (cwA cI j00 (upd g0W r20.toNatClampNeg r34)) := hD
          exact kJ38 (upd g0W r20.toNatClampNeg r34) x1 _ _ _ hF hP hD hS (lv_sub hl [0, 1] rfl)
  refine lv_istore_n (lv' := [(1, .int (nI 0)), (0, .ref j00)]) hx hb dX3_winters_1 rfl hl (by decide) rfl (fun ls hl => ?_)
  exact kJ2 N g0W (nI 0) _ _ _ hF hP hD hS (lv_sub hl [1, 0] rfl)
theorem inw_X3_winter_X3 : ∀ w ∈ u_ws RX3 TX3 15, w ∈ wsX3_winter := fun _ h => List.mem_cons_of_mem _ (List.mem_append_right _ h)
set_option maxHeartbeats 4000000 in
set_option maxRecDepth 100000 in
theorem c_X3_winter (l : Launch) (dC : Nat → ClassId) (dI : Nat → Nat → Nat) (cI : ClassId) (sf : SFP) (sz : Nat) (N : Nat) (b : Nat → Nat) (tW : MS) (p1 : Int32) (p2 : Int32) (p3 : Int32) (p4 : Int32) (r : (Int64 × MS)) (hF : F_X3_winter N tW p1 p2 p3 p4 = some r) : Met l yX3_winter wsX3_winter ({ frames := 5, cells := 0, slots := 0, locals := 116 }) (va_Pc [.ref (b 0), .int p1, .int p2, .int p3, .int p4] (PB (dC, dI) cI (cwM cI b tW) sz sf)) (va_Ql (fun (z : Int64) (_ : Unit) => z = r.1) (fun _ t => QB (dC, dI) (cwM cI b r.2) (va_A (cwM cI b tW) sz) t) (va_A (cwM cI b tW) sz)) 0 0 (va_A (cwM cI b tW) sz) := by
  refine Met.ofW (cc := cX3_winter) (maxL := 14) (ret := (some .long)) (by decide) rfl ?_
  intro p e s m args below meth c s₁ B hml hv
  obtain ⟨rfl, hsz, hP, hK, hD0, hNN, hSF⟩ := hv
  have hx := B.exec
  have hb := B.bytes
  have hr := B.returns
  have hts := atoms_spec (ws := wsX3_winter) B.pre
  have hown : s.vm.findClass RX3 = some m.cls := findClass_of_methodNamed B.named
  have hlocks := B.notSynchronized
  subst hsz
  have hD := hD0.self (sz := s.heap.size)
  generalize hAe : va_A (cwM cI b tW) s.heap.size = A at hD hSF ⊢
  have hA : ∀ q : Nat, s.heap.size ≤ q → A q := fun q h => by rw [← hAe]; exact Or.inr h
  clear hAe hD0
  have hS : va_S A s.heap s.heap [] := va_S.rf
  have hl := lv_entry ([.ref (b 0), .int p1, .int p2, .int p3, .int p4]) (n := 14) (Nat.le_of_ble_eq_true rfl)
  rw [lg_entry_eq]
  generalize (lg_sl ([.ref (b 0), .int p1, .int p2, .int p3, .int p4]) ++ List.replicate (14 - (lg_sl ([.ref (b 0), .int p1, .int p2, .int p3, .int p4])).length) Slot.unset).toArray = ls at hl ⊢
  have hl : lv_has ls 14 [(0, .ref (b 0)), (1, .int p1), (2, .int p2), (3, .int p3), (4, .int p4)] := hl
  rw [F_X3_winter] at hF
  refine lv_iload_n hx hb dX3_winter_0 rfl (lv_at hl 1 rfl) ?_
  have hPc := hP.sub (ws' := ([] : va_W)) [] rfl
  have hDc := hD.sub (ws' := ([] : va_W)) [] (by decide) rfl
  have hFc := va_free (wc := ([] : va_W)) hD hS hA [] rfl
  refine bd hF (fun r1 hG hF => ?_)
  refine va_calli (va_runS (As := [.int p1]) (rest := []) ⟨hx, hb, hml, hown, hts⟩ (c_X3_isTopic l dC dI cI sf s.heap.size N  p1 r1 hG) (va_cwS 1 hts gX3_winter_X3_isTopic rfl rfl rfl (by decide +kernel) ⟨Nat.le_of_ble_eq_true rfl, Nat.le_of_ble_eq_true rfl⟩) ⟨fun a U g mk q => ⟨q.1, q.2.call⟩, fun U hU hW => ⟨rfl, PB.of hU hW hPc hK hDc hNN hSF hS hFc⟩⟩ rfl rfl hl.1 rfl (lv_room (Nat.le_of_ble_eq_true rfl)) dX3_winter_1 ⟨Nat.le_of_ble_eq_true rfl, Nat.le_of_ble_eq_true rfl⟩) hS (fun q _ h => hFc q h) hFc (fun z_ u_ t H locs ht hvm hw hB hz1 hk1 hS => ?_)
  subst z_
  obtain ⟨hP1, hD1⟩ := hB
  rw [ht] at hP1
  have hJ := vb_join (ws' := (cwM cI b tW)) hP hD [] [0, 1, 2, 3, 4, 5, 6, 7, 8, 9] [0, 1, 2, 3, 4, 5, 6, 7, 8, 9] rfl rfl (by decide) (by decide) hk1 hFc hP1 hD1 rfl (by decide) rfl
  clear hP hD hPc hDc hFc hP1 hD1 hk1 hz1 ht hvm hG
  obtain ⟨hP, hD⟩ := hJ
  refine lv_if_ne (tgt := 13) hx hb dX3_winter_4 (by decide) (fun hc => ?_) (fun hc => ?_)
  · have hF := ift hc hF
    refine lv_iload_n hx hb dX3_winter_13 rfl (lv_at hl 2 rfl) ?_
    refine vW_have (fun R av Q => ∀ (tW : MS) (H : Heap) (locs : List Loc) (ls : Array Slot), F_X3_winter_22 N tW = some r → va_P (dC, dI) vwCl (cwM cI b tW) H → va_D A (cwM cI b tW) → va_S A s.heap H locs → lv_has ls 14 [(0, .ref (b 0))] → W p l e R s m av below meth c H locs 0 0 Q (F0 m 22 ls [])) ?_ (fun kJ22 => ?_)
    · 
      intro tW H locs ls hF hP hD hS hl
      rw [F_X3_winter_22] at hF
      refine lv_aload_n hx hb dX3_winter_22 rfl (lv_at hl 0 rfl) ?_
      refine lv_bipush (v := (-4)) hx hb dX3_winter_23 (by decide) ?_
      have hPc := hP.sub (ws' := (cwM cI b tW)) [0, 1, 2, 3, 4, 5, 6, 7, 8, 9] rfl
      have hDc := hD.sub (ws' := (cwM cI b tW)) [0, 1, 2, 3, 4, 5, 6, 7, 8, 9] (by decide) rfl
      have hFc := va_free (wc := (cwM cI b tW)) hD hS hA [0, 1, 2, 3, 4, 5, 6, 7, 8, 9] rfl
      refine bd hF (fun r25 hG hF => ?_)
      refine va_calll (va_runV (As := [.int (-4)]) (rest := []) ⟨hx, hb, hml, hown, hts⟩ (c_X3_noWide l dC dI cI sf H.size N b tW (-4) r25 hG) (cwV 1 hts gX3_winter_X3_noWide rfl rfl rfl (by decide +kernel) ⟨Nat.le_of_ble_eq_true rfl, Nat.le_of_ble_eq_true rfl⟩) ⟨fun a U g mk q => ⟨q.1, q.2.call⟩, va_recv hK hP (ci := 3) (q0 := 0) rfl rfl, fun U hU hW => ⟨rfl, PB.of hU hW hPc hK hDc hNN hSF hS hFc⟩⟩ rfl rfl hl.1 rfl (lv_room (Nat.le_of_ble_eq_true rfl)) dX3_winter_25 ⟨Nat.le_of_ble_eq_true rfl, Nat.le_of_ble_eq_true rfl⟩) hS (fun q _ h => hFc q h) hFc (fun z_ u_ t H locs ht hvm hw hB hz1 hk1 hS => ?_)
      subst z_
      obtain ⟨hP1, hD1⟩ := hB
      rw [ht] at hP1
      have hJ := vb_join (ws' := (cwM cI b r25.2)) hP hD [0, 1, 2, 3, 4, 5, 6, 7, 8, 9] [] [0, 1, 2, 3, 4, 5, 6, 7, 8, 9] rfl rfl (by decide) (by decide) hk1 hFc hP1 hD1 rfl (by decide) rfl
      clear hP hD hPc hDc hFc hP1 hD1 hk1 hz1 ht hvm hG
      obtain ⟨hP, hD⟩ := hJ
      obtain rfl := Option.some.inj hF
      exact W.lret (v := r25.1) hx hb hr (fun t ht hW => ⟨⟨r25.1, (), rfl, rfl, QB.of ht hP hD⟩, hS.F ht⟩) hS.2.2 dX3_winter_28
    refine lv_if_lt (tgt := 22) hx hb dX3_winter_14 (by decide) (fun hc => ?_) (fun hc => ?_)
    · have hF := ift hc hF
      exact kJ22 tW _ _ _ hF hP hD hS (lv_sub hl [0] rfl)
    · have hF := iff_ hc hF
      refine lv_iload_n hx hb dX3_winter_17 rfl (lv_at hl 3 rfl) ?_
      refine lv_iconst (v := nI 2) hx hb dX3_winter_18 (by decide) ?_
      refine lv_icmp_ge (tgt := 29) hx hb dX3_winter_19 (by decide) (fun hc => ?_) (fun hc => ?_)
      · have hF := ift hc hF
        refine lv_iload_n hx hb dX3_winter_29 rfl (lv_at hl 2 rfl) ?_
        refine lv_bipush (v := nI 7) hx hb dX3_winter_30 (by decide) ?_
        refine vW_have (fun R av Q => ∀ (tW : MS) (H : Heap) (locs : List Loc) (ls : Array Slot), F_X3_winter_41 N tW = some r → va_P (dC, dI) vwCl (cwM cI b tW) H → va_D A (cwM cI b tW) → va_S A s.heap H locs → lv_has ls 14 [(0, .ref (b 0))] → W p l e R s m av below meth c H locs 0 0 Q (F0 m 41 ls [])) ?_ (fun kJ41 => ?_)
        · 
          intro tW H locs ls hF hP hD hS hl
          rw [F_X3_winter_41] at hF
          refine lv_aload_n hx hb dX3_winter_41 rfl (lv_at hl 0 rfl) ?_
          refine lv_bipush (v := (-6)) hx hb dX3_winter_42 (by decide) ?_
          have hPc := hP.sub (ws' := (cwM cI b tW)) [0, 1, 2, 3, 4, 5, 6, 7, 8, 9] rfl
          have hDc := hD.sub (ws' := (cwM cI b tW)) [0, 1, 2, 3, 4, 5, 6, 7, 8, 9] (by decide) rfl
          have hFc := va_free (wc := (cwM cI b tW)) hD hS hA [0, 1, 2, 3, 4, 5, 6, 7, 8, 9] rfl
          refine bd hF (fun r44 hG hF => ?_)
          refine va_calll (va_runV (As := [.int (-6)]) (rest := []) ⟨hx, hb, hml, hown, hts⟩ (c_X3_noWide l dC dI cI sf H.size N b tW (-6) r44 hG) (cwV 1 hts gX3_winter_X3_noWide rfl rfl rfl (by decide +kernel) ⟨Nat.le_of_ble_eq_true rfl, Nat.le_of_ble_eq_true rfl⟩) ⟨fun a U g mk q => ⟨q.1, q.2.call⟩, va_recv hK hP (ci := 3) (q0 := 0) rfl rfl, fun U hU hW => ⟨rfl, PB.of hU hW hPc hK hDc hNN hSF hS hFc⟩⟩ rfl rfl hl.1 rfl (lv_room (Nat.le_of_ble_eq_true rfl)) dX3_winter_44 ⟨Nat.le_of_ble_eq_true rfl, Nat.le_of_ble_eq_true rfl⟩) hS (fun q _ h => hFc q h) hFc (fun z_ u_ t H locs ht hvm hw hB hz1 hk1 hS => ?_)
          subst z_
          obtain ⟨hP1, hD1⟩ := hB
          rw [ht] at hP1
          have hJ := vb_join (ws' := (cwM cI b r44.2)) hP hD [0, 1, 2, 3, 4, 5, 6, 7, 8, 9] [] [0, 1, 2, 3, 4, 5, 6, 7, 8, 9] rfl rfl (by decide) (by decide) hk1 hFc hP1 hD1 rfl (by decide) rfl
          clear hP hD hPc hDc hFc hP1 hD1 hk1 hz1 ht hvm hG
          obtain ⟨hP, hD⟩ := hJ
          obtain rfl := Option.some.inj hF
          exact W.lret (v := r44.1) hx hb hr (fun t ht hW => ⟨⟨r44.1, (), rfl, rfl, QB.of ht hP hD⟩, hS.F ht⟩) hS.2.2 dX3_winter_47
        refine lv_icmp_gt (tgt := 41) hx hb dX3_winter_32 (by decide) (fun hc => ?_) (fun hc => ?_)
        · have hF := ift hc hF
          exact kJ41 tW _ _ _ hF hP hD hS (lv_sub hl [0] rfl)
        · have hF := iff_ hc hF
          refine lv_iload_n hx hb dX3_winter_35 rfl (lv_at hl 3 rfl) ?_
          refine lv_bipush (v := nI 20) hx hb dX3_winter_36 (by decide) ?_
          refine lv_icmp_le (tgt := 48) hx hb dX3_winter_38 (by decide) (fun hc => ?_) (fun hc => ?_)
          · have hF := ift hc hF
            refine lv_iload hx hb dX3_winter_48 (lv_at hl 4 rfl) ?_
            refine lv_iconst (v := nI 0) hx hb dX3_winter_50 (by decide) ?_
            refine lv_iconst (v := nI 1) hx hb dX3_winter_51 (by decide) ?_
            have hPc := hP.sub (ws' := ([] : va_W)) [] rfl
            have hDc := hD.sub (ws' := ([] : va_W)) [] (by decide) rfl
            have hFc := va_free (wc := ([] : va_W)) hD hS hA [] rfl
            refine bd hF (fun r52 hG hF => ?_)
            refine va_calli (va_runS (As := [.int p4, .int (nI 0), .int (nI 1)]) (rest := []) ⟨hx, hb, hml, hown, hts⟩ (c_X3_isIn l dC dI cI sf H.size N  p4 (nI 0) (nI 1) r52 hG) (va_cwS 3 hts gX3_winter_X3_isIn rfl rfl rfl (by decide +kernel) ⟨Nat.le_of_ble_eq_true rfl, Nat.le_of_ble_eq_true rfl⟩) ⟨fun a U g mk q => ⟨q.1, q.2.call⟩, fun U hU hW => ⟨rfl, PB.of hU hW hPc hK hDc hNN hSF hS hFc⟩⟩ rfl rfl hl.1 rfl (lv_room (Nat.le_of_ble_eq_true rfl)) dX3_winter_52 ⟨Nat.le_of_ble_eq_true rfl, Nat.le_of_ble_eq_true rfl⟩) hS (fun q _ h => hFc q h) hFc (fun z_ u_ t H locs ht hvm hw hB hz1 hk1 hS => ?_)
            subst z_
            obtain ⟨hP1, hD1⟩ := hB
            rw [ht] at hP1
            have hJ := vb_join (ws' := (cwM cI b tW)) hP hD [] [0, 1, 2, 3, 4, 5, 6, 7, 8, 9] [0, 1, 2, 3, 4, 5, 6, 7, 8, 9] rfl rfl (by decide) (by decide) hk1 hFc hP1 hD1 rfl (by decide) rfl
            clear hP hD hPc hDc hFc hP1 hD1 hk1 hz1 ht hvm hG
            obtain ⟨hP, hD⟩ := hJ
            refine lv_if_ne (tgt := 65) hx hb dX3_winter_55 (by decide) (fun hc => ?_) (fun hc => ?_)
            · have hF := ift hc hF
              refine lv_lconst (v := lN 0) hx hb dX3_winter_65 rfl ?_
              refine lv_lstore (lv' := [(5, .long (lN 0)), (0, .ref (b 0)), (1, .int p1), (2, .int p2), (3, .int p3), (4, .int p4)]) hx hb dX3_winter_66 hl (by decide) rfl (fun ls hl => ?_)
              refine lv_lconst (v := lN 1) hx hb dX3_winter_68 rfl ?_
              refine lv_lstore (lv' := [(7, .long (lN 1)), (5, .long (lN 0)), (0, .ref (b 0)), (1, .int p1), (2, .int p2), (3, .int p3), (4, .int p4)]) hx hb dX3_winter_69 hl (by decide) rfl (fun ls hl => ?_)
              refine lv_iconst (v := nI 0) hx hb dX3_winter_71 (by decide) ?_
              refine vW_have (fun R av Q => ∀ (n74 : Nat) (tW : MS) (x1 : Int32) (x2 : Int32) (x3 : Int32) (x4 : Int32) (x5 : Int64) (x7 : Int64) (x9 : Int32) (H : Heap) (locs : List Loc) (ls : Array Slot), F_X3_winter_74 N n74 tW x1 x2 x3 x4 x5 x7 x9 = some r → va_P (dC, dI) vwCl (cwM cI b tW) H → va_D A (cwM cI b tW) → va_S A s.heap H locs → lv_has ls 14 [(0, .ref (b 0)), (1, .int x1), (2, .int x2), (3, .int x3), (4, .int x4), (5, .long x5), (7, .long x7), (9, .int x9)] → W p l e R s m av below meth c H locs 0 0 Q (F0 m 74 ls [])) ?_ (fun kJ74 => ?_)
              · intro n74
                induction n74 with
                | zero => intro tW x1 x2 x3 x4 x5 x7 x9 H locs ls hF; exact nn hF
                | succ n74 ih74 =>
                  intro tW x1 x2 x3 x4 x5 x7 x9 H locs ls hF hP hD hS hl
                  rw [F_X3_winter_74] at hF
                  refine lv_iload hx hb dX3_winter_74 (lv_at hl 7 rfl) ?_
                  refine lv_iload_n hx hb dX3_winter_76 rfl (lv_at hl 2 rfl) ?_
                  refine vW_have (fun R av Q => ∀ (tW : MS) (x1 : Int32) (x2 : Int32) (x3 : Int32) (x4 : Int32) (x5 : Int64) (x7 : Int64) (H : Heap) (locs : List Loc) (ls : Array Slot), F_X3_winter_93 N tW x1 x2 x3 x4 x5 x7 = some r → va_P (dC, dI) vwCl (cwM cI b tW) H → va_D A (cwM cI b tW) → va_S A s.heap H locs → lv_has ls 14 [(0, .ref (b 0)), (1, .int x1), (2, .int x2), (3, .int x3), (4, .int x4), (5, .long x5), (7, .long x7)] → W p l e R s m av below meth c H locs 0 0 Q (F0 m 93 ls [])) ?_ (fun kJ93 => ?_)
                  · 
                    intro tW x1 x2 x3 x4 x5 x7 H locs ls hF hP hD hS hl
                    rw [F_X3_winter_93] at hF
                    refine lv_iconst (v := nI 0) hx hb dX3_winter_93 (by decide) ?_
                    refine vW_have (fun R av Q => ∀ (n96 : Nat) (tW : MS) (x1 : Int32) (x2 : Int32) (x3 : Int32) (x4 : Int32) (x5 : Int64) (x7 : Int64) (x9 : Int32) (H : Heap) (locs : List Loc) (ls : Array Slot), F_X3_winter_96 N n96 tW x1 x2 x3 x4 x5 x7 x9 = some r → va_P (dC, dI) vwCl (cwM cI b tW) H → va_D A (cwM cI b tW) → va_S A s.heap H locs → lv_has ls 14 [(0, .ref (b 0)), (1, .int x1), (2, .int x2), (3, .int x3), (4, .int x4), (5, .long x5), (7, .long x7), (9, .int x9)] → W p l e R s m av below meth c H locs 0 0 Q (F0 m 96 ls [])) ?_ (fun kJ96 => ?_)
                    · intro n96
                      induction n96 with
                      | zero => intro tW x1 x2 x3 x4 x5 x7 x9 H locs ls hF; exact nn hF
                      | succ n96 ih96 =>
                        intro tW x1 x2 x3 x4 x5 x7 x9 H locs ls hF hP hD hS hl
                        rw [F_X3_winter_96] at hF
                        refine lv_iload hx hb dX3_winter_96 (lv_at hl 7 rfl) ?_
                        refine lv_iconst (v := nI 1) hx hb dX3_winter_98 (by decide) ?_
                        refine lv_iload_n hx hb dX3_winter_99 rfl (lv_at hl 2 rfl) ?_
                        refine lv_ishl hx hb dX3_winter_100 ?_
                        refine vW_have (fun R av Q => ∀ (tW : MS) (x4 : Int32) (x5 : Int64) (x7 : Int64) (H : Heap) (locs : List Loc) (ls : Array Slot), F_X3_winter_210 N tW x4 x5 x7 = some r → va_P (dC, dI) vwCl (cwM cI b tW) H → va_D A (cwM cI b tW) → va_S A s.heap H locs → lv_has ls 14 [(4, .int x4), (5, .long x5), (7, .long x7)] → W p l e R s m av below meth c H locs 0 0 Q (F0 m 210 ls [])) ?_ (fun kJ210 => ?_)
                        · 
                          intro tW x4 x5 x7 H locs ls hF hP hD hS hl
                          rw [F_X3_winter_210] at hF
                          refine lv_lload hx hb dX3_winter_210 (lv_at hl 1 rfl) ?_
                          refine lv_lload hx hb dX3_winter_212 (lv_at hl 2 rfl) ?_
                          refine lv_iload hx hb dX3_winter_214 (lv_at hl 0 rfl) ?_
                          have hPc := hP.sub (ws' := ([] : va_W)) [] rfl
                          have hDc := hD.sub (ws' := ([] : va_W)) [] (by decide) rfl
                          have hFc := va_free (wc := ([] : va_W)) hD hS hA [] rfl
                          refine bd hF (fun r216 hG hF => ?_)
                          refine va_calll (va_runS (As := [.long x5, .long x7, .int x4]) (rest := []) ⟨hx, hb, hml, hown, hts⟩ (c_X3_partOf l dC dI cI sf H.size N  x5 x7 x4 r216 hG) (va_cwS 3 hts gX3_winter_X3_partOf rfl rfl rfl (by decide +kernel) ⟨Nat.le_of_ble_eq_true rfl, Nat.le_of_ble_eq_true rfl⟩) ⟨fun a U g mk q => ⟨q.1, q.2.call⟩, fun U hU hW => ⟨rfl, PB.of hU hW hPc hK hDc hNN hSF hS hFc⟩⟩ rfl rfl hl.1 rfl (lv_room (Nat.le_of_ble_eq_true rfl)) dX3_winter_216 ⟨Nat.le_of_ble_eq_true rfl, Nat.le_of_ble_eq_true rfl⟩) hS (fun q _ h => hFc q h) hFc (fun z_ u_ t H locs ht hvm hw hB hz1 hk1 hS => ?_)
                          subst z_
                          obtain ⟨hP1, hD1⟩ := hB
                          rw [ht] at hP1
                          have hJ := vb_join (ws' := (cwM cI b tW)) hP hD [] [0, 1, 2, 3, 4, 5, 6, 7, 8, 9] [0, 1, 2, 3, 4, 5, 6, 7, 8, 9] rfl rfl (by decide) (by decide) hk1 hFc hP1 hD1 rfl (by decide) rfl
                          clear hP hD hPc hDc hFc hP1 hD1 hk1 hz1 ht hvm hG
                          obtain ⟨hP, hD⟩ := hJ
                          obtain rfl := Option.some.inj hF
                          exact W.lret (v := r216) hx hb hr (fun t ht hW => ⟨⟨r216, (), rfl, rfl, QB.of ht hP hD⟩, hS.F ht⟩) hS.2.2 dX3_winter_219
                        refine lv_icmp_ge (tgt := 210) hx hb dX3_winter_101 (by decide) (fun hc => ?_) (fun hc => ?_)
                        · have hF := ift hc hF
                          exact kJ210 tW x4 x5 x7 _ _ _ hF hP hD hS (lv_sub hl [4, 5, 6] rfl)
                        · have hF := iff_ hc hF
                          refine lv_lconst (v := lN 1) hx hb dX3_winter_104 rfl ?_
                          refine lv_lstore (lv' := [(10, .long (lN 1)), (0, .ref (b 0)), (1, .int x1), (2, .int x2), (3, .int x3), (4, .int x4), (5, .long x5), (7, .long x7), (9, .int x9)]) hx hb dX3_winter_105 hl (by decide) rfl (fun ls hl => ?_)
                          refine lv_aload_n hx hb dX3_winter_107 rfl (lv_at hl 1 rfl) ?_
                          refine va_get (D := (dC, dI)) (ci := 3) (v := .ref (b 1)) (C := RX3) (T := TX3) (N := 15) hx hb hts inw_X3_winter_X3 hown hK hP 0 rfl rfl 0 (by decide) (hts (.fieldLink RX3 9 "DeniedOfEachOtherModel" "s" "[I") (List.mem_of_getElem? (i := 1) rfl)) (fun _ h9 => h9) rfl dX3_winter_108 ?_
                          refine lv_aload_n hx hb dX3_winter_111 rfl (lv_at hl 1 rfl) ?_
                          refine va_get (D := (dC, dI)) (ci := 3) (v := .ref (b 2)) (C := RX3) (T := TX3) (N := 15) hx hb hts inw_X3_winter_X3 hown hK hP 0 rfl rfl 1 (by decide) (hts (.fieldLink RX3 13 "DeniedOfEachOtherModel" "m" "[I") (List.mem_of_getElem? (i := 2) rfl)) (fun _ h9 => h9) rfl dX3_winter_112 ?_
                          have hPc := hP.sub (ws' := (cwA cI (b 1) tW.1 ++ cwA cI (b 2) tW.2.1)) [1, 2] rfl
                          have hDc := hD.sub (ws' := (cwA cI (b 1) tW.1 ++ cwA cI (b 2) tW.2.1)) [1, 2] (by decide) rfl
                          have hFc := va_free (wc := (cwA cI (b 1) tW.1 ++ cwA cI (b 2) tW.2.1)) hD hS hA [1, 2] rfl
                          refine bd hF (fun r115 hG hF => ?_)
                          refine va_callv (va_runS (As := [.ref (b 1), .ref (b 2)]) (rest := []) ⟨hx, hb, hml, hown, hts⟩ (c_X3_copies l dC dI cI sf H.size N (b 1) (b 2) tW.1 tW.2.1 r115 hG) (va_cwS 2 hts gX3_winter_X3_copies rfl rfl rfl (by decide +kernel) ⟨Nat.le_of_ble_eq_true rfl, Nat.le_of_ble_eq_true rfl⟩) ⟨fun a U g mk q => ⟨q.1, q.2.call⟩, fun U hU hW => ⟨rfl, PB.of hU hW hPc hK hDc hNN hSF hS hFc⟩⟩ rfl rfl hl.1 rfl (lv_room (Nat.le_of_ble_eq_true rfl)) dX3_winter_115 ⟨Nat.le_of_ble_eq_true rfl, Nat.le_of_ble_eq_true rfl⟩) hS (fun q _ h => hFc q h) hFc (fun u_ t H locs ht hvm hw hB hz1 hk1 hS => ?_)
                          obtain ⟨hP1, hD1⟩ := hB
                          rw [ht] at hP1
                          have hJ := vb_join (ws' := (cwM cI b (tW.1, r115, tW.2.2.1, tW.2.2.2.1, tW.2.2.2.2.1, tW.2.2.2.2.2.1, tW.2.2.2.2.2.2.1, tW.2.2.2.2.2.2.2.1, tW.2.2.2.2.2.2.2.2.1, tW.2.2.2.2.2.2.2.2.2.1, tW.2.2.2.2.2.2.2.2.2.2.1, tW.2.2.2.2.2.2.2.2.2.2.2.1, tW.2.2.2.2.2.2.2.2.2.2.2.2.1, tW.2.2.2.2.2.2.2.2.2.2.2.2.2.1, tW.2.2.2.2.2.2.2.2.2.2.2.2.2.2))) hP hD [1, 2] [0, 3, 4, 5, 6, 7, 8, 9] [0, 8, 9, 1, 2, 3, 4, 5, 6, 7] rfl rfl (by decide) (by decide) hk1 hFc hP1 hD1 rfl (by decide) rfl
                          clear hP hD hPc hDc hFc hP1 hD1 hk1 hz1 ht hvm hG
                          obtain ⟨hP, hD⟩ := hJ
                          refine lv_iconst (v := nI 0) hx hb dX3_winter_118 (by decide) ?_
                          refine vW_have (fun R av Q => ∀ (n121 : Nat) (tW : MS) (x1 : Int32) (x2 : Int32) (x3 : Int32) (x4 : Int32) (x5 : Int64) (x7 : Int64) (x9 : Int32) (x10 : Int64) (x12 : Int32) (H : Heap) (locs : List Loc) (ls : Array Slot), F_X3_winter_121 N (fun ctW cx1 cx2 cx3 cx4 cx5 cx7 cx9 => F_X3_winter_96 N n96 ctW cx1 cx2 cx3 cx4 cx5 cx7 cx9) n121 tW x1 x2 x3 x4 x5 x7 x9 x10 x12 = some r → va_P (dC, dI) vwCl (cwM cI b tW) H → va_D A (cwM cI b tW) → va_S A s.heap H locs → lv_has ls 14 [(0, .ref (b 0)), (1, .int x1), (2, .int x2), (3, .int x3), (4, .int x4), (5, .long x5), (7, .long x7), (9, .int x9), (10, .long x10), (12, .int x12)] → W p l e R s m av below meth c H locs 0 0 Q (F0 m 121 ls [])) ?_ (fun kJ121 => ?_)
                          · intro n121
                            induction n121 with
                            | zero => intro tW x1 x2 x3 x4 x5 x7 x9 x10 x12 H locs ls hF; exact nn hF
                            | succ n121 ih121 =>
                              intro tW x1 x2 x3 x4 x5 x7 x9 x10 x12 H locs ls hF hP hD hS hl
                              rw [F_X3_winter_121] at hF
                              refine lv_iload hx hb dX3_winter_121 (lv_at hl 9 rfl) ?_
                              refine lv_iload_n hx hb dX3_winter_123 rfl (lv_at hl 2 rfl) ?_
                              refine vW_have (fun R av Q => ∀ (tW : MS) (x1 : Int32) (x2 : Int32) (x3 : Int32) (x4 : Int32) (x5 : Int64) (x7 : Int64) (x9 : Int32) (x10 : Int64) (H : Heap) (locs : List Loc) (ls : Array Slot), F_X3_winter_182 N (fun ctW cx1 cx2 cx3 cx4 cx5 cx7 cx9 => F_X3_winter_96 N n96 ctW cx1 cx2 cx3 cx4 cx5 cx7 cx9) tW x1 x2 x3 x4 x5 x7 x9 x10 = some r → va_P (dC, dI) vwCl (cwM cI b tW) H → va_D A (cwM cI b tW) → va_S A s.heap H locs → lv_has ls 14 [(0, .ref (b 0)), (1, .int x1), (2, .int x2), (3, .int x3), (4, .int x4), (5, .long x5), (7, .long x7), (9, .int x9), (10, .long x10)] → W p l e R s m av below meth c H locs 0 0 Q (F0 m 182 ls [])) ?_ (fun kJ182 => ?_)
                              · 
                                intro tW x1 x2 x3 x4 x5 x7 x9 x10 H locs ls hF hP hD hS hl
                                rw [F_X3_winter_182] at hF
                                refine lv_lload hx hb dX3_winter_182 (lv_at hl 5 rfl) ?_
                                refine lv_aload_n hx hb dX3_winter_184 rfl (lv_at hl 0 rfl) ?_
                                refine va_get (D := (dC, dI)) (ci := 3) (v := .ref (b 2)) (C := RX3) (T := TX3) (N := 15) hx hb hts inw_X3_winter_X3 hown hK hP 0 rfl rfl 1 (by decide) (hts (.fieldLink RX3 13 "DeniedOfEachOtherModel" "m" "[I") (List.mem_of_getElem? (i := 2) rfl)) (fun _ h9 => h9) rfl dX3_winter_185 ?_
                                refine lv_iload_n hx hb dX3_winter_188 rfl (lv_at hl 1 rfl) ?_
                                have hPc := hP.sub (ws' := (cwA cI (b 2) tW.2.1)) [2] rfl
                                have hDc := hD.sub (ws' := (cwA cI (b 2) tW.2.1)) [2] (by decide) rfl
                                have hFc := va_free (wc := (cwA cI (b 2) tW.2.1)) hD hS hA [2] rfl
                                refine bd hF (fun r189 hG hF => ?_)
                                refine va_calli (va_runS (As := [.ref (b 2), .int x1]) (rest := [.long x5]) ⟨hx, hb, hml, hown, hts⟩ (c_X3_isWritten l dC dI cI sf H.size N (b 2) tW.2.1 x1 r189 hG) (va_cwS 2 hts gX3_winter_X3_isWritten rfl rfl rfl (by decide +kernel) ⟨Nat.le_of_ble_eq_true rfl, Nat.le_of_ble_eq_true rfl⟩) ⟨fun a U g mk q => ⟨q.1, q.2.call⟩, fun U hU hW => ⟨rfl, PB.of hU hW hPc hK hDc hNN hSF hS hFc⟩⟩ rfl rfl hl.1 rfl (lv_room (Nat.le_of_ble_eq_true rfl)) dX3_winter_189 ⟨Nat.le_of_ble_eq_true rfl, Nat.le_of_ble_eq_true rfl⟩) hS (fun q _ h => hFc q h) hFc (fun z_ u_ t H locs ht hvm hw hB hz1 hk1 hS => ?_)
                                subst z_
                                obtain ⟨hP1, hD1⟩ := hB
                                rw [ht] at hP1
                                have hJ := vb_join (ws' := (cwM cI b tW)) hP hD [2] [0, 1, 3, 4, 5, 6, 7, 8, 9] [0, 1, 9, 2, 3, 4, 5, 6, 7, 8] rfl rfl (by decide) (by decide) hk1 hFc hP1 hD1 rfl (by decide) rfl
                                clear hP hD hPc hDc hFc hP1 hD1 hk1 hz1 ht hvm hG
                                obtain ⟨hP, hD⟩ := hJ
                                refine vW_have (fun R av Q => ∀ (tW : MS) (x1 : Int32) (x2 : Int32) (x3 : Int32) (x4 : Int32) (x7 : Int64) (x9 : Int32) (z0 : Int64) (z1 : Int64) (H : Heap) (locs : List Loc) (ls : Array Slot), F_X3_winter_201 N (fun ctW cx1 cx2 cx3 cx4 cx5 cx7 cx9 => F_X3_winter_96 N n96 ctW cx1 cx2 cx3 cx4 cx5 cx7 cx9) tW x1 x2 x3 x4 x7 x9 z0 z1 = some r → va_P (dC, dI) vwCl (cwM cI b tW) H → va_D A (cwM cI b tW) → va_S A s.heap H locs → lv_has ls 14 [(0, .ref (b 0)), (1, .int x1), (2, .int x2), (3, .int x3), (4, .int x4), (7, .long x7), (9, .int x9)] → W p l e R s m av below meth c H locs 0 0 Q (F0 m 201 ls [.long z1, .long z0])) ?_ (fun kJ201 => ?_)
                                · 
                                  intro tW x1 x2 x3 x4 x7 x9 z0 z1 H locs ls hF hP hD hS hl
                                  rw [F_X3_winter_201] at hF
                                  refine lv_ladd hx hb dX3_winter_201 ?_
                                  refine lv_lstore (lv' := [(5, .long (z0 + z1)), (0, .ref (b 0)), (1, .int x1), (2, .int x2), (3, .int x3), (4, .int x4), (7, .long x7), (9, .int x9)]) hx hb dX3_winter_202 hl (by decide) rfl (fun ls hl => ?_)
                                  refine lv_iinc (v := x9 + (nI 1)) (lv' := [(9, .int (x9 + (nI 1))), (5, .long (z0 + z1)), (0, .ref (b 0)), (1, .int x1), (2, .int x2), (3, .int x3), (4, .int x4), (7, .long x7)]) hx hb dX3_winter_204 hl (k := 7) rfl (by rfl) (by decide) rfl (fun ls hl => ?_)
                                  refine lv_goto (tgt := 96) hx hb dX3_winter_207 (by decide) ?_
                                  exact ih96 tW x1 x2 x3 x4 (z0 + z1) x7 (x9 + (nI 1)) _ _ _ hF hP hD hS (lv_sub hl [2, 3, 4, 5, 6, 1, 7, 0] rfl)
                                refine lv_if_eq (tgt := 200) hx hb dX3_winter_192 (by decide) (fun hc => ?_) (fun hc => ?_)
                                · have hF := ift hc hF
                                  refine lv_lconst (v := lN 0) hx hb dX3_winter_200 rfl ?_
                                  exact kJ201 tW x1 x2 x3 x4 x7 x9 x5 (lN 0) _ _ _ hF hP hD hS (lv_sub hl [0, 1, 2, 3, 4, 6, 7] rfl)
                                · have hF := iff_ hc hF
                                  refine lv_lload hx hb dX3_winter_195 (lv_at hl 8 rfl) ?_
                                  refine lv_goto (tgt := 201) hx hb dX3_winter_197 (by decide) ?_
                                  exact kJ201 tW x1 x2 x3 x4 x7 x9 x5 x10 _ _ _ hF hP hD hS (lv_sub hl [0, 1, 2, 3, 4, 6, 7] rfl)
                              refine lv_icmp_ge (tgt := 182) hx hb dX3_winter_124 (by decide) (fun hc => ?_) (fun hc => ?_)
                              · have hF := ift hc hF
                                exact kJ182 tW x1 x2 x3 x4 x5 x7 x9 x10 _ _ _ hF hP hD hS (lv_sub hl [0, 1, 2, 3, 4, 5, 6, 7, 8] rfl)
                              · have hF := iff_ hc hF
                                refine lv_lload hx hb dX3_winter_127 (lv_at hl 8 rfl) ?_
                                refine lv_iload hx hb dX3_winter_129 (lv_at hl 7 rfl) ?_
                                refine lv_iload hx hb dX3_winter_131 (lv_at hl 9 rfl) ?_
                                have hPc := hP.sub (ws' := ([] : va_W)) [] rfl
                                have hDc := hD.sub (ws' := ([] : va_W)) [] (by decide) rfl
                                have hFc := va_free (wc := ([] : va_W)) hD hS hA [] rfl
                                refine bd hF (fun r133 hG hF => ?_)
                                refine va_calli (va_runS (As := [.int x9, .int x12]) (rest := [.long x10]) ⟨hx, hb, hml, hown, hts⟩ (c_X3_has l dC dI cI sf H.size N  x9 x12 r133 hG) (va_cwS 2 hts gX3_winter_X3_has rfl rfl rfl (by decide +kernel) ⟨Nat.le_of_ble_eq_true rfl, Nat.le_of_ble_eq_true rfl⟩) ⟨fun a U g mk q => ⟨q.1, q.2.call⟩, fun U hU hW => ⟨rfl, PB.of hU hW hPc hK hDc hNN hSF hS hFc⟩⟩ rfl rfl hl.1 rfl (lv_room (Nat.le_of_ble_eq_true rfl)) dX3_winter_133 ⟨Nat.le_of_ble_eq_true rfl, Nat.le_of_ble_eq_true rfl⟩) hS (fun q _ h => hFc q h) hFc (fun z_ u_ t H locs ht hvm hw hB hz1 hk1 hS => ?_)
                                subst z_
                                obtain ⟨hP1, hD1⟩ := hB
                                rw [ht] at hP1
                                have hJ := vb_join (ws' := (cwM cI b tW)) hP hD [] [0, 1, 2, 3, 4, 5, 6, 7, 8, 9] [0, 1, 2, 3, 4, 5, 6, 7, 8, 9] rfl rfl (by decide) (by decide) hk1 hFc hP1 hD1 rfl (by decide) rfl
                                clear hP hD hPc hDc hFc hP1 hD1 hk1 hz1 ht hvm hG
                                obtain ⟨hP, hD⟩ := hJ
                                refine vW_have (fun R av Q => ∀ (tW : MS) (x1 : Int32) (x2 : Int32) (x3 : Int32) (x4 : Int32) (x5 : Int64) (x7 : Int64) (x9 : Int32) (x12 : Int32) (z0 : Int64) (z1 : Int64) (H : Heap) (locs : List Loc) (ls : Array Slot), F_X3_winter_147 N (fun ctW cx1 cx2 cx3 cx4 cx5 cx7 cx9 => F_X3_winter_96 N n96 ctW cx1 cx2 cx3 cx4 cx5 cx7 cx9) (fun ctW cx1 cx2 cx3 cx4 cx5 cx7 cx9 cx10 cx12 => F_X3_winter_121 N (fun ctW cx1 cx2 cx3 cx4 cx5 cx7 cx9 => F_X3_winter_96 N n96 ctW cx1 cx2 cx3 cx4 cx5 cx7 cx9) n121 ctW cx1 cx2 cx3 cx4 cx5 cx7 cx9 cx10 cx12) tW x1 x2 x3 x4 x5 x7 x9 x12 z0 z1 = some r → va_P (dC, dI) vwCl (cwM cI b tW) H → va_D A (cwM cI b tW) → va_S A s.heap H locs → lv_has ls 14 [(0, .ref (b 0)), (1, .int x1), (2, .int x2), (3, .int x3), (4, .int x4), (5, .long x5), (7, .long x7), (9, .int x9), (12, .int x12)] → W p l e R s m av below meth c H locs 0 0 Q (F0 m 147 ls [.long z1, .long z0])) ?_ (fun kJ147 => ?_)
                                · 
                                  intro tW x1 x2 x3 x4 x5 x7 x9 x12 z0 z1 H locs ls hF hP hD hS hl
                                  rw [F_X3_winter_147] at hF
                                  refine lv_lmul hx hb dX3_winter_147 ?_
                                  refine lv_lstore (lv' := [(10, .long (z0 * z1)), (0, .ref (b 0)), (1, .int x1), (2, .int x2), (3, .int x3), (4, .int x4), (5, .long x5), (7, .long x7), (9, .int x9), (12, .int x12)]) hx hb dX3_winter_148 hl (by decide) rfl (fun ls hl => ?_)
                                  refine lv_iload hx hb dX3_winter_150 (lv_at hl 8 rfl) ?_
                                  refine lv_iload hx hb dX3_winter_152 (lv_at hl 9 rfl) ?_
                                  have hPc := hP.sub (ws' := ([] : va_W)) [] rfl
                                  have hDc := hD.sub (ws' := ([] : va_W)) [] (by decide) rfl
                                  have hFc := va_free (wc := ([] : va_W)) hD hS hA [] rfl
                                  refine bd hF (fun r154 hG hF => ?_)
                                  refine va_calli (va_runS (As := [.int x9, .int x12]) (rest := []) ⟨hx, hb, hml, hown, hts⟩ (c_X3_has l dC dI cI sf H.size N  x9 x12 r154 hG) (va_cwS 2 hts gX3_winter_X3_has rfl rfl rfl (by decide +kernel) ⟨Nat.le_of_ble_eq_true rfl, Nat.le_of_ble_eq_true rfl⟩) ⟨fun a U g mk q => ⟨q.1, q.2.call⟩, fun U hU hW => ⟨rfl, PB.of hU hW hPc hK hDc hNN hSF hS hFc⟩⟩ rfl rfl hl.1 rfl (lv_room (Nat.le_of_ble_eq_true rfl)) dX3_winter_154 ⟨Nat.le_of_ble_eq_true rfl, Nat.le_of_ble_eq_true rfl⟩) hS (fun q _ h => hFc q h) hFc (fun z_ u_ t H locs ht hvm hw hB hz1 hk1 hS => ?_)
                                  subst z_
                                  obtain ⟨hP1, hD1⟩ := hB
                                  rw [ht] at hP1
                                  have hJ := vb_join (ws' := (cwM cI b tW)) hP hD [] [0, 1, 2, 3, 4, 5, 6, 7, 8, 9] [0, 1, 2, 3, 4, 5, 6, 7, 8, 9] rfl rfl (by decide) (by decide) hk1 hFc hP1 hD1 rfl (by decide) rfl
                                  clear hP hD hPc hDc hFc hP1 hD1 hk1 hz1 ht hvm hG
                                  obtain ⟨hP, hD⟩ := hJ
                                  refine vW_have (fun R av Q => ∀ (tW : MS) (x1 : Int32) (x2 : Int32) (x3 : Int32) (x4 : Int32) (x5 : Int64) (x7 : Int64) (x9 : Int32) (x10 : Int64) (x12 : Int32) (H : Heap) (locs : List Loc) (ls : Array Slot), F_X3_winter_167 N (fun ctW cx1 cx2 cx3 cx4 cx5 cx7 cx9 => F_X3_winter_96 N n96 ctW cx1 cx2 cx3 cx4 cx5 cx7 cx9) (fun ctW cx1 cx2 cx3 cx4 cx5 cx7 cx9 cx10 cx12 => F_X3_winter_121 N (fun ctW cx1 cx2 cx3 cx4 cx5 cx7 cx9 => F_X3_winter_96 N n96 ctW cx1 cx2 cx3 cx4 cx5 cx7 cx9) n121 ctW cx1 cx2 cx3 cx4 cx5 cx7 cx9 cx10 cx12) tW x1 x2 x3 x4 x5 x7 x9 x10 x12 = some r → va_P (dC, dI) vwCl (cwM cI b tW) H → va_D A (cwM cI b tW) → va_S A s.heap H locs → lv_has ls 14 [(0, .ref (b 0)), (1, .int x1), (2, .int x2), (3, .int x3), (4, .int x4), (5, .long x5), (7, .long x7), (9, .int x9), (10, .long x10), (12, .int x12)] → W p l e R s m av below meth c H locs 0 0 Q (F0 m 167 ls [])) ?_ (fun kJ167 => ?_)
                                  · 
                                    intro tW x1 x2 x3 x4 x5 x7 x9 x10 x12 H locs ls hF hP hD hS hl
                                    rw [F_X3_winter_167] at hF
                                    refine lv_aload_n hx hb dX3_winter_167 rfl (lv_at hl 0 rfl) ?_
                                    refine va_get (D := (dC, dI)) (ci := 3) (v := .ref (b 2)) (C := RX3) (T := TX3) (N := 15) hx hb hts inw_X3_winter_X3 hown hK hP 0 rfl rfl 1 (by decide) (hts (.fieldLink RX3 13 "DeniedOfEachOtherModel" "m" "[I") (List.mem_of_getElem? (i := 2) rfl)) (fun _ h9 => h9) rfl dX3_winter_168 ?_
                                    have hPc := hP.sub (ws' := (cwA cI (b 2) tW.2.1)) [2] rfl
                                    have hDc := hD.sub (ws' := (cwA cI (b 2) tW.2.1)) [2] (by decide) rfl
                                    have hFc := va_free (wc := (cwA cI (b 2) tW.2.1)) hD hS hA [2] rfl
                                    refine bd hF (fun r171 hG hF => ?_)
                                    refine va_calli (va_runS (As := [.ref (b 2)]) (rest := []) ⟨hx, hb, hml, hown, hts⟩ (c_X3_year l dC dI cI sf H.size N (b 2) tW.2.1 r171 hG) (va_cwS 1 hts gX3_winter_X3_year rfl rfl rfl (by decide +kernel) ⟨Nat.le_of_ble_eq_true rfl, Nat.le_of_ble_eq_true rfl⟩) ⟨fun a U g mk q => ⟨q.1, q.2.call⟩, fun U hU hW => ⟨rfl, PB.of hU hW hPc hK hDc hNN hSF hS hFc⟩⟩ rfl rfl hl.1 rfl (lv_room (Nat.le_of_ble_eq_true rfl)) dX3_winter_171 ⟨Nat.le_of_ble_eq_true rfl, Nat.le_of_ble_eq_true rfl⟩) hS (fun q _ h => hFc q h) hFc (fun z_ u_ t H locs ht hvm hw hB hz1 hk1 hS => ?_)
                                    subst z_
                                    obtain ⟨hP1, hD1⟩ := hB
                                    rw [ht] at hP1
                                    have hJ := vb_join (ws' := (cwM cI b (tW.1, r171.2, tW.2.2.1, tW.2.2.2.1, tW.2.2.2.2.1, tW.2.2.2.2.2.1, tW.2.2.2.2.2.2.1, tW.2.2.2.2.2.2.2.1, tW.2.2.2.2.2.2.2.2.1, tW.2.2.2.2.2.2.2.2.2.1, tW.2.2.2.2.2.2.2.2.2.2.1, tW.2.2.2.2.2.2.2.2.2.2.2.1, tW.2.2.2.2.2.2.2.2.2.2.2.2.1, tW.2.2.2.2.2.2.2.2.2.2.2.2.2.1, tW.2.2.2.2.2.2.2.2.2.2.2.2.2.2))) hP hD [2] [0, 1, 3, 4, 5, 6, 7, 8, 9] [0, 1, 9, 2, 3, 4, 5, 6, 7, 8] rfl rfl (by decide) (by decide) hk1 hFc hP1 hD1 rfl (by decide) rfl
                                    clear hP hD hPc hDc hFc hP1 hD1 hk1 hz1 ht hvm hG
                                    obtain ⟨hP, hD⟩ := hJ
                                    refine lv_istore (lv' := [(13, .int r171.1), (0, .ref (b 0)), (1, .int x1), (2, .int x2), (3, .int x3), (4, .int x4), (5, .long x5), (7, .long x7), (9, .int x9), (10, .long x10), (12, .int x12)]) hx hb dX3_winter_174 hl (by decide) rfl (fun ls hl => ?_)
                                    refine lv_iinc (v := x12 + (nI 1)) (lv' := [(12, .int (x12 + (nI 1))), (13, .int r171.1), (0, .ref (b 0)), (1, .int x1), (2, .int x2), (3, .int x3), (4, .int x4), (5, .long x5), (7, .long x7), (9, .int x9), (10, .long x10)]) hx hb dX3_winter_176 hl (k := 10) rfl (by rfl) (by decide) rfl (fun ls hl => ?_)
                                    refine lv_goto (tgt := 121) hx hb dX3_winter_179 (by decide) ?_
                                    exact ih121 (tW.1, r171.2, tW.2.2.1, tW.2.2.2.1, tW.2.2.2.2.1, tW.2.2.2.2.2.1, tW.2.2.2.2.2.2.1, tW.2.2.2.2.2.2.2.1, tW.2.2.2.2.2.2.2.2.1, tW.2.2.2.2.2.2.2.2.2.1, tW.2.2.2.2.2.2.2.2.2.2.1, tW.2.2.2.2.2.2.2.2.2.2.2.1, tW.2.2.2.2.2.2.2.2.2.2.2.2.1, tW.2.2.2.2.2.2.2.2.2.2.2.2.2.1, tW.2.2.2.2.2.2.2.2.2.2.2.2.2.2) x1 x2 x3 x4 x5 x7 x9 x10 (x12 + (nI 1)) _ _ _ hF hP hD hS (lv_sub hl [2, 3, 4, 5, 6, 7, 8, 9, 10, 0] rfl)
                                  refine lv_if_eq (tgt := 167) hx hb dX3_winter_157 (by decide) (fun hc => ?_) (fun hc => ?_)
                                  · have hF := ift hc hF
                                    exact kJ167 tW x1 x2 x3 x4 x5 x7 x9 (z0 * z1) x12 _ _ _ hF hP hD hS (lv_sub hl [1, 2, 3, 4, 5, 6, 7, 8, 0, 9] rfl)
                                  · have hF := iff_ hc hF
                                    refine lv_aload_n hx hb dX3_winter_160 rfl (lv_at hl 1 rfl) ?_
                                    refine va_get (D := (dC, dI)) (ci := 3) (v := .ref (b 2)) (C := RX3) (T := TX3) (N := 15) hx hb hts inw_X3_winter_X3 hown hK hP 0 rfl rfl 1 (by decide) (hts (.fieldLink RX3 13 "DeniedOfEachOtherModel" "m" "[I") (List.mem_of_getElem? (i := 2) rfl)) (fun _ h9 => h9) rfl dX3_winter_161 ?_
                                    have hPc := hP.sub (ws' := (cwA cI (b 2) tW.2.1)) [2] rfl
                                    have hDc := hD.sub (ws' := (cwA cI (b 2) tW.2.1)) [2] (by decide) rfl
                                    have hFc := va_free (wc := (cwA cI (b 2) tW.2.1)) hD hS hA [2] rfl
                                    refine bd hF (fun r164 hG hF => ?_)
                                    refine va_callv (va_runS (As := [.ref (b 2)]) (rest := []) ⟨hx, hb, hml, hown, hts⟩ (c_X3_winters l dC dI cI sf H.size N (b 2) tW.2.1 r164 hG) (va_cwS 1 hts gX3_winter_X3_winters rfl rfl rfl (by decide +kernel) ⟨Nat.le_of_ble_eq_true rfl, Nat.le_of_ble_eq_true rfl⟩) ⟨fun a U g mk q => ⟨q.1, q.2.call⟩, fun U hU hW => ⟨rfl, PB.of hU hW hPc hK hDc hNN hSF hS hFc⟩⟩ rfl rfl hl.1 rfl (lv_room (Nat.le_of_ble_eq_true rfl)) dX3_winter_164 ⟨Nat.le_of_ble_eq_true rfl, Nat.le_of_ble_eq_true rfl⟩) hS (fun q _ h => hFc q h) hFc (fun u_ t H locs ht hvm hw hB hz1 hk1 hS => ?_)
                                    obtain ⟨hP1, hD1⟩ := hB
                                    rw [ht] at hP1
                                    have hJ := vb_join (ws' := (cwM cI b (tW.1, r164, tW.2.2.1, tW.2.2.2.1, tW.2.2.2.2.1, tW.2.2.2.2.2.1, tW.2.2.2.2.2.2.1, tW.2.2.2.2.2.2.2.1, tW.2.2.2.2.2.2.2.2.1, tW.2.2.2.2.2.2.2.2.2.1, tW.2.2.2.2.2.2.2.2.2.2.1, tW.2.2.2.2.2.2.2.2.2.2.2.1, tW.2.2.2.2.2.2.2.2.2.2.2.2.1, tW.2.2.2.2.2.2.2.2.2.2.2.2.2.1, tW.2.2.2.2.2.2.2.2.2.2.2.2.2.2))) hP hD [2] [0, 1, 3, 4, 5, 6, 7, 8, 9] [0, 1, 9, 2, 3, 4, 5, 6, 7, 8] rfl rfl (by decide) (by decide) hk1 hFc hP1 hD1 rfl (by decide) rfl
                                    clear hP hD hPc hDc hFc hP1 hD1 hk1 hz1 ht hvm hG
                                    obtain ⟨hP, hD⟩ := hJ
                                    exact kJ167 (tW.1, r164, tW.2.2.1, tW.2.2.2.1, tW.2.2.2.2.1, tW.2.2.2.2.2.1, tW.2.2.2.2.2.2.1, tW.2.2.2.2.2.2.2.1, tW.2.2.2.2.2.2.2.2.1, tW.2.2.2.2.2.2.2.2.2.1, tW.2.2.2.2.2.2.2.2.2.2.1, tW.2.2.2.2.2.2.2.2.2.2.2.1, tW.2.2.2.2.2.2.2.2.2.2.2.2.1, tW.2.2.2.2.2.2.2.2.2.2.2.2.2.1, tW.2.2.2.2.2.2.2.2.2.2.2.2.2.2) x1 x2 x3 x4 x5 x7 x9 (z0 * z1) x12 _ _ _ hF hP hD hS (lv_sub hl [1, 2, 3, 4, 5, 6, 7, 8, 0, 9] rfl)
                                refine lv_if_eq (tgt := 143) hx hb dX3_winter_136 (by decide) (fun hc => ?_) (fun hc => ?_)
                                · have hF := ift hc hF
                                  refine lv_iload_n hx hb dX3_winter_143 rfl (lv_at hl 3 rfl) ?_
                                  refine lv_iconst (v := nI 1) hx hb dX3_winter_144 (by decide) ?_
                                  refine lv_isub hx hb dX3_winter_145 ?_
                                  refine lv_i2l (v := (x3 - (nI 1)).toInt64) hx hb dX3_winter_146 rfl ?_
                                  exact kJ147 tW x1 x2 x3 x4 x5 x7 x9 x12 x10 ((x3 - (nI 1)).toInt64) _ _ _ hF hP hD hS (lv_sub hl [0, 1, 2, 3, 4, 5, 6, 7, 9] rfl)
                                · have hF := iff_ hc hF
                                  refine lv_lconst (v := lN 1) hx hb dX3_winter_139 rfl ?_
                                  refine lv_goto (tgt := 147) hx hb dX3_winter_140 (by decide) ?_
                                  exact kJ147 tW x1 x2 x3 x4 x5 x7 x9 x12 x10 (lN 1) _ _ _ hF hP hD hS (lv_sub hl [0, 1, 2, 3, 4, 5, 6, 7, 9] rfl)
                          refine lv_istore (lv' := [(12, .int (nI 0)), (10, .long (lN 1)), (0, .ref (b 0)), (1, .int x1), (2, .int x2), (3, .int x3), (4, .int x4), (5, .long x5), (7, .long x7), (9, .int x9)]) hx hb dX3_winter_119 hl (by decide) rfl (fun ls hl => ?_)
                          exact kJ121 N (tW.1, r115, tW.2.2.1, tW.2.2.2.1, tW.2.2.2.2.1, tW.2.2.2.2.2.1, tW.2.2.2.2.2.2.1, tW.2.2.2.2.2.2.2.1, tW.2.2.2.2.2.2.2.2.1, tW.2.2.2.2.2.2.2.2.2.1, tW.2.2.2.2.2.2.2.2.2.2.1, tW.2.2.2.2.2.2.2.2.2.2.2.1, tW.2.2.2.2.2.2.2.2.2.2.2.2.1, tW.2.2.2.2.2.2.2.2.2.2.2.2.2.1, tW.2.2.2.2.2.2.2.2.2.2.2.2.2.2) x1 x2 x3 x4 x5 x7 x9 (lN 1) (nI 0) _ _ _ hF hP hD hS (lv_sub hl [2, 3, 4, 5, 6, 7, 8, 9, 1, 0] rfl)
                    refine lv_istore (lv' := [(9, .int (nI 0)), (0, .ref (b 0)), (1, .int x1), (2, .int x2), (3, .int x3), (4, .int x4), (5, .long x5), (7, .long x7)]) hx hb dX3_winter_94 hl (by decide) rfl (fun ls hl => ?_)
                    exact kJ96 N tW x1 x2 x3 x4 x5 x7 (nI 0) _ _ _ hF hP hD hS (lv_sub hl [1, 2, 3, 4, 5, 6, 7, 0] rfl)
                  refine lv_icmp_ge (tgt := 93) hx hb dX3_winter_77 (by decide) (fun hc => ?_) (fun hc => ?_)
                  · have hF := ift hc hF
                    exact kJ93 tW x1 x2 x3 x4 x5 x7 _ _ _ hF hP hD hS (lv_sub hl [0, 1, 2, 3, 4, 5, 6] rfl)
                  · have hF := iff_ hc hF
                    refine lv_lload hx hb dX3_winter_80 (lv_at hl 6 rfl) ?_
                    refine lv_iload_n hx hb dX3_winter_82 rfl (lv_at hl 3 rfl) ?_
                    refine lv_i2l (v := x3.toInt64) hx hb dX3_winter_83 rfl ?_
                    refine lv_lmul hx hb dX3_winter_84 ?_
                    refine lv_lstore (lv' := [(7, .long (x7 * x3.toInt64)), (0, .ref (b 0)), (1, .int x1), (2, .int x2), (3, .int x3), (4, .int x4), (5, .long x5), (9, .int x9)]) hx hb dX3_winter_85 hl (by decide) rfl (fun ls hl => ?_)
                    refine lv_iinc (v := x9 + (nI 1)) (lv' := [(9, .int (x9 + (nI 1))), (7, .long (x7 * x3.toInt64)), (0, .ref (b 0)), (1, .int x1), (2, .int x2), (3, .int x3), (4, .int x4), (5, .long x5)]) hx hb dX3_winter_87 hl (k := 7) rfl (by rfl) (by decide) rfl (fun ls hl => ?_)
                    refine lv_goto (tgt := 74) hx hb dX3_winter_90 (by decide) ?_
                    exact ih74 tW x1 x2 x3 x4 x5 (x7 * x3.toInt64) (x9 + (nI 1)) _ _ _ hF hP hD hS (lv_sub hl [2, 3, 4, 5, 6, 7, 1, 0] rfl)
              refine lv_istore (lv' := [(9, .int (nI 0)), (7, .long (lN 1)), (5, .long (lN 0)), (0, .ref (b 0)), (1, .int p1), (2, .int p2), (3, .int p3), (4, .int p4)]) hx hb dX3_winter_72 hl (by decide) rfl (fun ls hl => ?_)
              exact kJ74 N tW p1 p2 p3 p4 (lN 0) (lN 1) (nI 0) _ _ _ hF hP hD hS (lv_sub hl [3, 4, 5, 6, 7, 2, 1, 0] rfl)
            · have hF := iff_ (fun h => h hc) hF
              refine lv_aload_n hx hb dX3_winter_58 rfl (lv_at hl 0 rfl) ?_
              refine lv_bipush (v := (-2)) hx hb dX3_winter_59 (by decide) ?_
              have hPc := hP.sub (ws' := (cwM cI b tW)) [0, 1, 2, 3, 4, 5, 6, 7, 8, 9] rfl
              have hDc := hD.sub (ws' := (cwM cI b tW)) [0, 1, 2, 3, 4, 5, 6, 7, 8, 9] (by decide) rfl
              have hFc := va_free (wc := (cwM cI b tW)) hD hS hA [0, 1, 2, 3, 4, 5, 6, 7, 8, 9] rfl
              refine bd hF (fun r61 hG hF => ?_)
              refine va_calll (va_runV (As := [.int (-2)]) (rest := []) ⟨hx, hb, hml, hown, hts⟩ (c_X3_noWide l dC dI cI sf H.size N b tW (-2) r61 hG) (cwV 1 hts gX3_winter_X3_noWide rfl rfl rfl (by decide +kernel) ⟨Nat.le_of_ble_eq_true rfl, Nat.le_of_ble_eq_true rfl⟩) ⟨fun a U g mk q => ⟨q.1, q.2.call⟩, va_recv hK hP (ci := 3) (q0 := 0) rfl rfl, fun U hU hW => ⟨rfl, PB.of hU hW hPc hK hDc hNN hSF hS hFc⟩⟩ rfl rfl hl.1 rfl (lv_room (Nat.le_of_ble_eq_true rfl)) dX3_winter_61 ⟨Nat.le_of_ble_eq_true rfl, Nat.le_of_ble_eq_true rfl⟩) hS (fun q _ h => hFc q h) hFc (fun z_ u_ t H locs ht hvm hw hB hz1 hk1 hS => ?_)
              subst z_
              obtain ⟨hP1, hD1⟩ := hB
              rw [ht] at hP1
              have hJ := vb_join (ws' := (cwM cI b r61.2)) hP hD [0, 1, 2, 3, 4, 5, 6, 7, 8, 9] [] [0, 1, 2, 3, 4, 5, 6, 7, 8, 9] rfl rfl (by decide) (by decide) hk1 hFc hP1 hD1 rfl (by decide) rfl
              clear hP hD hPc hDc hFc hP1 hD1 hk1 hz1 ht hvm hG
              obtain ⟨hP, hD⟩ := hJ
              obtain rfl := Option.some.inj hF
              exact W.lret (v := r61.1) hx hb hr (fun t ht hW => ⟨⟨r61.1, (), rfl, rfl, QB.of ht hP hD⟩, hS.F ht⟩) hS.2.2 dX3_winter_64
          · have hF := iff_ hc hF
            exact kJ41 tW _ _ _ hF hP hD hS (lv_sub hl [0] rfl)
      · have hF := iff_ hc hF
        exact kJ22 tW _ _ _ hF hP hD hS (lv_sub hl [0] rfl)
  · have hF := iff_ (fun h => h hc) hF
    refine lv_aload_n hx hb dX3_winter_7 rfl (lv_at hl 0 rfl) ?_
    refine lv_iconst (v := (-1)) hx hb dX3_winter_8 (by decide) ?_
    have hPc := hP.sub (ws' := (cwM cI b tW)) [0, 1, 2, 3, 4, 5, 6, 7, 8, 9] rfl
    have hDc := hD.sub (ws' := (cwM cI b tW)) [0, 1, 2, 3, 4, 5, 6, 7, 8, 9] (by decide) rfl
    have hFc := va_free (wc := (cwM cI b tW)) hD hS hA [0, 1, 2, 3, 4, 5, 6, 7, 8, 9] rfl
    refine bd hF (fun r9 hG hF => ?_)
    refine va_calll (va_runV (As := [.int (-1)]) (rest := []) ⟨hx, hb, hml, hown, hts⟩ (c_X3_noWide l dC dI cI sf H.size N b tW (-1) r9 hG) (cwV 1 hts gX3_winter_X3_noWide rfl rfl rfl (by decide +kernel) ⟨Nat.le_of_ble_eq_true rfl, Nat.le_of_ble_eq_true rfl⟩) ⟨fun a U g mk q => ⟨q.1, q.2.call⟩, va_recv hK hP (ci := 3) (q0 := 0) rfl rfl, fun U hU hW => ⟨rfl, PB.of hU hW hPc hK hDc hNN hSF hS hFc⟩⟩ rfl rfl hl.1 rfl (lv_room (Nat.le_of_ble_eq_true rfl)) dX3_winter_9 ⟨Nat.le_of_ble_eq_true rfl, Nat.le_of_ble_eq_true rfl⟩) hS (fun q _ h => hFc q h) hFc (fun z_ u_ t H locs ht hvm hw hB hz1 hk1 hS => ?_)
    subst z_
    obtain ⟨hP1, hD1⟩ := hB
    rw [ht] at hP1
    have hJ := vb_join (ws' := (cwM cI b r9.2)) hP hD [0, 1, 2, 3, 4, 5, 6, 7, 8, 9] [] [0, 1, 2, 3, 4, 5, 6, 7, 8, 9] rfl rfl (by decide) (by decide) hk1 hFc hP1 hD1 rfl (by decide) rfl
    clear hP hD hPc hDc hFc hP1 hD1 hk1 hz1 ht hvm hG
    obtain ⟨hP, hD⟩ := hJ
    obtain rfl := Option.some.inj hF
    exact W.lret (v := r9.1) hx hb hr (fun t ht hW => ⟨⟨r9.1, (), rfl, rfl, QB.of ht hP hD⟩, hS.F ht⟩) hS.2.2 dX3_winter_12
theorem inw_X3_word_X3 : ∀ w ∈ u_ws RX3 TX3 15, w ∈ wsX3_word := fun _ h => List.mem_cons_of_mem _ (List.mem_append_right _ h)
set_option maxHeartbeats 4000000 in
set_option maxRecDepth 100000 in
theorem c_X3_word (l : Launch) (dC : Nat → ClassId) (dI : Nat → Nat → Nat) (cI : ClassId) (sf : SFP) (sz : Nat) (N : Nat) (b : Nat → Nat) (tW : MS) (p1 : Int32) (p2 : Int32) (r : (Int32 × MS)) (hF : F_X3_word N tW p1 p2 = some r) : Met l yX3_word wsX3_word ({ frames := 2, cells := 0, slots := 0, locals := 43 }) (va_Pc [.ref (b 0), .int p1, .int p2] (PB (dC, dI) cI (cwM cI b tW) sz sf)) (va_Qi (fun (z : Int32) (_ : Unit) => z = r.1) (fun _ t => QB (dC, dI) (cwM cI b r.2) (va_A (cwM cI b tW) sz) t) (va_A (cwM cI b tW) sz)) 0 0 (va_A (cwM cI b tW) sz) := by
  refine Met.ofW (cc := cX3_word) (maxL := 3) (ret := (some .int)) (by decide) rfl ?_
  intro p e s m args below meth c s₁ B hml hv
  obtain ⟨rfl, hsz, hP, hK, hD0, hNN, hSF⟩ := hv
  have hx := B.exec
  have hb := B.bytes
  have hr := B.returns
  have hts := atoms_spec (ws := wsX3_word) B.pre
  have hown : s.vm.findClass RX3 = some m.cls := findClass_of_methodNamed B.named
  have hlocks := B.notSynchronized
  subst hsz
  have hD := hD0.self (sz := s.heap.size)
  generalize hAe : va_A (cwM cI b tW) s.heap.size = A at hD hSF ⊢
  have hA : ∀ q : Nat, s.heap.size ≤ q → A q := fun q h => by rw [← hAe]; exact Or.inr h
  clear hAe hD0
  have hS : va_S A s.heap s.heap [] := va_S.rf
  have hl := lv_entry ([.ref (b 0), .int p1, .int p2]) (n := 3) (Nat.le_of_ble_eq_true rfl)
  rw [lg_entry_eq]
  generalize (lg_sl ([.ref (b 0), .int p1, .int p2]) ++ List.replicate (3 - (lg_sl ([.ref (b 0), .int p1, .int p2])).length) Slot.unset).toArray = ls at hl ⊢
  have hl : lv_has ls 3 [(0, .ref (b 0)), (1, .int p1), (2, .int p2)] := hl
  rw [F_X3_word] at hF
  refine lv_aload_n hx hb dX3_word_0 rfl (lv_at hl 0 rfl) ?_
  refine lv_iload_n hx hb dX3_word_1 rfl (lv_at hl 1 rfl) ?_
  have hPc := hP.sub (ws' := (cwM cI b tW)) [0, 1, 2, 3, 4, 5, 6, 7, 8, 9] rfl
  have hDc := hD.sub (ws' := (cwM cI b tW)) [0, 1, 2, 3, 4, 5, 6, 7, 8, 9] (by decide) rfl
  have hFc := va_free (wc := (cwM cI b tW)) hD hS hA [0, 1, 2, 3, 4, 5, 6, 7, 8, 9] rfl
  refine bd hF (fun r2 hG hF => ?_)
  refine va_calli (va_runV (As := [.int p1]) (rest := []) ⟨hx, hb, hml, hown, hts⟩ (c_X3_isCitizen l dC dI cI sf s.heap.size N b tW p1 r2 hG) (cwV 1 hts gX3_word_X3_isCitizen rfl rfl rfl (by decide +kernel) ⟨Nat.le_of_ble_eq_true rfl, Nat.le_of_ble_eq_true rfl⟩) ⟨fun a U g mk q => ⟨q.1, q.2.call⟩, va_recv hK hP (ci := 3) (q0 := 0) rfl rfl, fun U hU hW => ⟨rfl, PB.of hU hW hPc hK hDc hNN hSF hS hFc⟩⟩ rfl rfl hl.1 rfl (lv_room (Nat.le_of_ble_eq_true rfl)) dX3_word_2 ⟨Nat.le_of_ble_eq_true rfl, Nat.le_of_ble_eq_true rfl⟩) hS (fun q _ h => hFc q h) hFc (fun z_ u_ t H locs ht hvm hw hB hz1 hk1 hS => ?_)
  subst z_
  obtain ⟨hP1, hD1⟩ := hB
  rw [ht] at hP1
  have hJ := vb_join (ws' := (cwM cI b tW)) hP hD [0, 1, 2, 3, 4, 5, 6, 7, 8, 9] [] [0, 1, 2, 3, 4, 5, 6, 7, 8, 9] rfl rfl (by decide) (by decide) hk1 hFc hP1 hD1 rfl (by decide) rfl
  clear hP hD hPc hDc hFc hP1 hD1 hk1 hz1 ht hvm hG
  obtain ⟨hP, hD⟩ := hJ
  refine vW_have (fun R av Q => ∀ (tW : MS) (H : Heap) (locs : List Loc) (ls : Array Slot), F_X3_word_30 N tW = some r → va_P (dC, dI) vwCl (cwM cI b tW) H → va_D A (cwM cI b tW) → va_S A s.heap H locs → lv_has ls 3 [(0, .ref (b 0))] → W p l e R s m av below meth c H locs 0 0 Q (F0 m 30 ls [])) ?_ (fun kJ30 => ?_)
  · 
    intro tW H locs ls hF hP hD hS hl
    rw [F_X3_word_30] at hF
    refine lv_aload_n hx hb dX3_word_30 rfl (lv_at hl 0 rfl) ?_
    refine lv_iconst (v := (-1)) hx hb dX3_word_31 (by decide) ?_
    have hPc := hP.sub (ws' := (cwM cI b tW)) [0, 1, 2, 3, 4, 5, 6, 7, 8, 9] rfl
    have hDc := hD.sub (ws' := (cwM cI b tW)) [0, 1, 2, 3, 4, 5, 6, 7, 8, 9] (by decide) rfl
    have hFc := va_free (wc := (cwM cI b tW)) hD hS hA [0, 1, 2, 3, 4, 5, 6, 7, 8, 9] rfl
    refine bd hF (fun r32 hG hF => ?_)
    refine va_calli (va_runV (As := [.int (-1)]) (rest := []) ⟨hx, hb, hml, hown, hts⟩ (c_X3_no l dC dI cI sf H.size N b tW (-1) r32 hG) (cwV 1 hts gX3_word_X3_no rfl rfl rfl (by decide +kernel) ⟨Nat.le_of_ble_eq_true rfl, Nat.le_of_ble_eq_true rfl⟩) ⟨fun a U g mk q => ⟨q.1, q.2.call⟩, va_recv hK hP (ci := 3) (q0 := 0) rfl rfl, fun U hU hW => ⟨rfl, PB.of hU hW hPc hK hDc hNN hSF hS hFc⟩⟩ rfl rfl hl.1 rfl (lv_room (Nat.le_of_ble_eq_true rfl)) dX3_word_32 ⟨Nat.le_of_ble_eq_true rfl, Nat.le_of_ble_eq_true rfl⟩) hS (fun q _ h => hFc q h) hFc (fun z_ u_ t H locs ht hvm hw hB hz1 hk1 hS => ?_)
    subst z_
    obtain ⟨hP1, hD1⟩ := hB
    rw [ht] at hP1
    have hJ := vb_join (ws' := (cwM cI b r32.2)) hP hD [0, 1, 2, 3, 4, 5, 6, 7, 8, 9] [] [0, 1, 2, 3, 4, 5, 6, 7, 8, 9] rfl rfl (by decide) (by decide) hk1 hFc hP1 hD1 rfl (by decide) rfl
    clear hP hD hPc hDc hFc hP1 hD1 hk1 hz1 ht hvm hG
    obtain ⟨hP, hD⟩ := hJ
    obtain rfl := Option.some.inj hF
    exact W.iret (v := r32.1) hx hb hr (fun t ht hW => ⟨⟨r32.1, (), rfl, rfl, QB.of ht hP hD⟩, hS.F ht⟩) hS.2.2 dX3_word_35
  refine lv_if_eq (tgt := 30) hx hb dX3_word_5 (by decide) (fun hc => ?_) (fun hc => ?_)
  · have hF := ift hc hF
    exact kJ30 tW _ _ _ hF hP hD hS (lv_sub hl [0] rfl)
  · have hF := iff_ hc hF
    refine lv_iload_n hx hb dX3_word_8 rfl (lv_at hl 2 rfl) ?_
    have hPc := hP.sub (ws' := ([] : va_W)) [] rfl
    have hDc := hD.sub (ws' := ([] : va_W)) [] (by decide) rfl
    have hFc := va_free (wc := ([] : va_W)) hD hS hA [] rfl
    refine bd hF (fun r9 hG hF => ?_)
    refine va_calli (va_runS (As := [.int p2]) (rest := []) ⟨hx, hb, hml, hown, hts⟩ (c_X3_isTopic l dC dI cI sf H.size N  p2 r9 hG) (va_cwS 1 hts gX3_word_X3_isTopic rfl rfl rfl (by decide +kernel) ⟨Nat.le_of_ble_eq_true rfl, Nat.le_of_ble_eq_true rfl⟩) ⟨fun a U g mk q => ⟨q.1, q.2.call⟩, fun U hU hW => ⟨rfl, PB.of hU hW hPc hK hDc hNN hSF hS hFc⟩⟩ rfl rfl hl.1 rfl (lv_room (Nat.le_of_ble_eq_true rfl)) dX3_word_9 ⟨Nat.le_of_ble_eq_true rfl, Nat.le_of_ble_eq_true rfl⟩) hS (fun q _ h => hFc q h) hFc (fun z_ u_ t H locs ht hvm hw hB hz1 hk1 hS => ?_)
    subst z_
    obtain ⟨hP1, hD1⟩ := hB
    rw [ht] at hP1
    have hJ := vb_join (ws' := (cwM cI b tW)) hP hD [] [0, 1, 2, 3, 4, 5, 6, 7, 8, 9] [0, 1, 2, 3, 4, 5, 6, 7, 8, 9] rfl rfl (by decide) (by decide) hk1 hFc hP1 hD1 rfl (by decide) rfl
    clear hP hD hPc hDc hFc hP1 hD1 hk1 hz1 ht hvm hG
    obtain ⟨hP, hD⟩ := hJ
    refine lv_if_eq (tgt := 30) hx hb dX3_word_12 (by decide) (fun hc => ?_) (fun hc => ?_)
    · have hF := ift hc hF
      exact kJ30 tW _ _ _ hF hP hD hS (lv_sub hl [0] rfl)
    · have hF := iff_ hc hF
      refine lv_aload_n hx hb dX3_word_15 rfl (lv_at hl 0 rfl) ?_
      refine va_get (D := (dC, dI)) (ci := 3) (v := .ref (b 1)) (C := RX3) (T := TX3) (N := 15) hx hb hts inw_X3_word_X3 hown hK hP 0 rfl rfl 0 (by decide) (hts (.fieldLink RX3 9 "DeniedOfEachOtherModel" "s" "[I") (List.mem_of_getElem? (i := 1) rfl)) (fun _ h9 => h9) rfl dX3_word_16 ?_
      refine lv_iload_n hx hb dX3_word_19 rfl (lv_at hl 1 rfl) ?_
      refine lv_iconst (v := nI 4) hx hb dX3_word_20 (by decide) ?_
      refine lv_iload_n hx hb dX3_word_21 rfl (lv_at hl 2 rfl) ?_
      refine lv_iadd hx hb dX3_word_22 ?_
      have hPc := hP.sub (ws' := ([] : va_W)) [] rfl
      have hDc := hD.sub (ws' := ([] : va_W)) [] (by decide) rfl
      have hFc := va_free (wc := ([] : va_W)) hD hS hA [] rfl
      refine bd hF (fun r23 hG hF => ?_)
      refine va_calli (va_runS (As := [.int p1, .int ((nI 4) + p2)]) (rest := [.ref (b 1)]) ⟨hx, hb, hml, hown, hts⟩ (c_X3_of l dC dI cI sf H.size N  p1 ((nI 4) + p2) r23 hG) (va_cwS 2 hts gX3_word_X3_of rfl rfl rfl (by decide +kernel) ⟨Nat.le_of_ble_eq_true rfl, Nat.le_of_ble_eq_true rfl⟩) ⟨fun a U g mk q => ⟨q.1, q.2.call⟩, fun U hU hW => ⟨rfl, PB.of hU hW hPc hK hDc hNN hSF hS hFc⟩⟩ rfl rfl hl.1 rfl (lv_room (Nat.le_of_ble_eq_true rfl)) dX3_word_23 ⟨Nat.le_of_ble_eq_true rfl, Nat.le_of_ble_eq_true rfl⟩) hS (fun q _ h => hFc q h) hFc (fun z_ u_ t H locs ht hvm hw hB hz1 hk1 hS => ?_)
      subst z_
      obtain ⟨hP1, hD1⟩ := hB
      rw [ht] at hP1
      have hJ := vb_join (ws' := (cwM cI b tW)) hP hD [] [0, 1, 2, 3, 4, 5, 6, 7, 8, 9] [0, 1, 2, 3, 4, 5, 6, 7, 8, 9] rfl rfl (by decide) (by decide) hk1 hFc hP1 hD1 rfl (by decide) rfl
      clear hP hD hPc hDc hFc hP1 hD1 hk1 hz1 ht hvm hG
      obtain ⟨hP, hD⟩ := hJ
      refine cki hF (fun hi hF => ?_)
      refine va_iald (D := (dC, dI)) hx hb hK hP 1 0 rfl rfl hi dX3_word_26 ?_
      refine lv_goto (tgt := 35) hx hb dX3_word_27 (by decide) ?_
      obtain rfl := Option.some.inj hF
      exact W.iret (v := (tW.1 r23.toNatClampNeg)) hx hb hr (fun t ht hW => ⟨⟨(tW.1 r23.toNatClampNeg), (), rfl, rfl, QB.of ht hP hD⟩, hS.F ht⟩) hS.2.2 dX3_word_35
theorem inw_X3_wordThen_X3 : ∀ w ∈ u_ws RX3 TX3 15, w ∈ wsX3_wordThen := fun _ h => List.mem_cons_of_mem _ (List.mem_append_right _ h)
set_option maxHeartbeats 4000000 in
set_option maxRecDepth 100000 in
theorem c_X3_wordThen (l : Launch) (dC : Nat → ClassId) (dI : Nat → Nat → Nat) (cI : ClassId) (sf : SFP) (sz : Nat) (N : Nat) (b : Nat → Nat) (tW : MS) (p1 : Int32) (p2 : Int32) (p3 : Int32) (r : (Int32 × MS)) (hF : F_X3_wordThen N tW p1 p2 p3 = some r) : Met l yX3_wordThen wsX3_wordThen ({ frames := 7, cells := 0, slots := 0, locals := 160 }) (va_Pc [.ref (b 0), .int p1, .int p2, .int p3] (PB (dC, dI) cI (cwM cI b tW) sz sf)) (va_Qi (fun (z : Int32) (_ : Unit) => z = r.1) (fun _ t => QB (dC, dI) (cwM cI b r.2) (va_A (cwM cI b tW) sz) t) (va_A (cwM cI b tW) sz)) 0 0 (va_A (cwM cI b tW) sz) := by
  refine Met.ofW (cc := cX3_wordThen) (maxL := 5) (ret := (some .int)) (by decide) rfl ?_
  intro p e s m args below meth c s₁ B hml hv
  obtain ⟨rfl, hsz, hP, hK, hD0, hNN, hSF⟩ := hv
  have hx := B.exec
  have hb := B.bytes
  have hr := B.returns
  have hts := atoms_spec (ws := wsX3_wordThen) B.pre
  have hown : s.vm.findClass RX3 = some m.cls := findClass_of_methodNamed B.named
  have hlocks := B.notSynchronized
  subst hsz
  have hD := hD0.self (sz := s.heap.size)
  generalize hAe : va_A (cwM cI b tW) s.heap.size = A at hD hSF ⊢
  have hA : ∀ q : Nat, s.heap.size ≤ q → A q := fun q h => by rw [← hAe]; exact Or.inr h
  clear hAe hD0
  have hS : va_S A s.heap s.heap [] := va_S.rf
  have hl := lv_entry ([.ref (b 0), .int p1, .int p2, .int p3]) (n := 5) (Nat.le_of_ble_eq_true rfl)
  rw [lg_entry_eq]
  generalize (lg_sl ([.ref (b 0), .int p1, .int p2, .int p3]) ++ List.replicate (5 - (lg_sl ([.ref (b 0), .int p1, .int p2, .int p3])).length) Slot.unset).toArray = ls at hl ⊢
  have hl : lv_has ls 5 [(0, .ref (b 0)), (1, .int p1), (2, .int p2), (3, .int p3)] := hl
  rw [F_X3_wordThen] at hF
  refine lv_aload_n hx hb dX3_wordThen_0 rfl (lv_at hl 0 rfl) ?_
  refine lv_iload_n hx hb dX3_wordThen_1 rfl (lv_at hl 1 rfl) ?_
  have hPc := hP.sub (ws' := (cwM cI b tW)) [0, 1, 2, 3, 4, 5, 6, 7, 8, 9] rfl
  have hDc := hD.sub (ws' := (cwM cI b tW)) [0, 1, 2, 3, 4, 5, 6, 7, 8, 9] (by decide) rfl
  have hFc := va_free (wc := (cwM cI b tW)) hD hS hA [0, 1, 2, 3, 4, 5, 6, 7, 8, 9] rfl
  refine bd hF (fun r2 hG hF => ?_)
  refine va_calli (va_runV (As := [.int p1]) (rest := []) ⟨hx, hb, hml, hown, hts⟩ (c_X3_isCitizen l dC dI cI sf s.heap.size N b tW p1 r2 hG) (cwV 1 hts gX3_wordThen_X3_isCitizen rfl rfl rfl (by decide +kernel) ⟨Nat.le_of_ble_eq_true rfl, Nat.le_of_ble_eq_true rfl⟩) ⟨fun a U g mk q => ⟨q.1, q.2.call⟩, va_recv hK hP (ci := 3) (q0 := 0) rfl rfl, fun U hU hW => ⟨rfl, PB.of hU hW hPc hK hDc hNN hSF hS hFc⟩⟩ rfl rfl hl.1 rfl (lv_room (Nat.le_of_ble_eq_true rfl)) dX3_wordThen_2 ⟨Nat.le_of_ble_eq_true rfl, Nat.le_of_ble_eq_true rfl⟩) hS (fun q _ h => hFc q h) hFc (fun z_ u_ t H locs ht hvm hw hB hz1 hk1 hS => ?_)
  subst z_
  obtain ⟨hP1, hD1⟩ := hB
  rw [ht] at hP1
  have hJ := vb_join (ws' := (cwM cI b tW)) hP hD [0, 1, 2, 3, 4, 5, 6, 7, 8, 9] [] [0, 1, 2, 3, 4, 5, 6, 7, 8, 9] rfl rfl (by decide) (by decide) hk1 hFc hP1 hD1 rfl (by decide) rfl
  clear hP hD hPc hDc hFc hP1 hD1 hk1 hz1 ht hvm hG
  obtain ⟨hP, hD⟩ := hJ
  refine vW_have (fun R av Q => ∀ (tW : MS) (x1 : Int32) (x2 : Int32) (x3 : Int32) (z0 : Int32) (H : Heap) (locs : List Loc) (ls : Array Slot), F_X3_wordThen_25 N tW x1 x2 x3 z0 = some r → va_P (dC, dI) vwCl (cwM cI b tW) H → va_D A (cwM cI b tW) → va_S A s.heap H locs → lv_has ls 5 [(0, .ref (b 0)), (1, .int x1), (2, .int x2), (3, .int x3)] → W p l e R s m av below meth c H locs 0 0 Q (F0 m 25 ls [.int z0])) ?_ (fun kJ25 => ?_)
  · 
    intro tW x1 x2 x3 z0 H locs ls hF hP hD hS hl
    rw [F_X3_wordThen_25] at hF
    refine lv_istore (lv' := [(4, .int z0), (0, .ref (b 0)), (1, .int x1), (2, .int x2), (3, .int x3)]) hx hb dX3_wordThen_25 hl (by decide) rfl (fun ls hl => ?_)
    refine lv_iload hx hb dX3_wordThen_27 (lv_at hl 0 rfl) ?_
    refine lv_if_eq (tgt := 39) hx hb dX3_wordThen_29 (by decide) (fun hc => ?_) (fun hc => ?_)
    · have hF := ift hc hF
      refine lv_aload_n hx hb dX3_wordThen_39 rfl (lv_at hl 1 rfl) ?_
      refine lv_iload_n hx hb dX3_wordThen_40 rfl (lv_at hl 4 rfl) ?_
      have hPc := hP.sub (ws' := (cwM cI b tW)) [0, 1, 2, 3, 4, 5, 6, 7, 8, 9] rfl
      have hDc := hD.sub (ws' := (cwM cI b tW)) [0, 1, 2, 3, 4, 5, 6, 7, 8, 9] (by decide) rfl
      have hFc := va_free (wc := (cwM cI b tW)) hD hS hA [0, 1, 2, 3, 4, 5, 6, 7, 8, 9] rfl
      refine bd hF (fun r41 hG hF => ?_)
      refine va_callv (va_runV (As := [.int x3]) (rest := []) ⟨hx, hb, hml, hown, hts⟩ (c_X3_takes l dC dI cI sf H.size N b tW x3 r41 hG) (cwV 1 hts gX3_wordThen_X3_takes rfl rfl rfl (by decide +kernel) ⟨Nat.le_of_ble_eq_true rfl, Nat.le_of_ble_eq_true rfl⟩) ⟨fun a U g mk q => ⟨q.1, q.2.call⟩, va_recv hK hP (ci := 3) (q0 := 0) rfl rfl, fun U hU hW => ⟨rfl, PB.of hU hW hPc hK hDc hNN hSF hS hFc⟩⟩ rfl rfl hl.1 rfl (lv_room (Nat.le_of_ble_eq_true rfl)) dX3_wordThen_41 ⟨Nat.le_of_ble_eq_true rfl, Nat.le_of_ble_eq_true rfl⟩) hS (fun q _ h => hFc q h) hFc (fun u_ t H locs ht hvm hw hB hz1 hk1 hS => ?_)
      obtain ⟨hP1, hD1⟩ := hB
      rw [ht] at hP1
      have hJ := vb_join (ws' := (cwM cI b r41)) hP hD [0, 1, 2, 3, 4, 5, 6, 7, 8, 9] [] [0, 1, 2, 3, 4, 5, 6, 7, 8, 9] rfl rfl (by decide) (by decide) hk1 hFc hP1 hD1 rfl (by decide) rfl
      clear hP hD hPc hDc hFc hP1 hD1 hk1 hz1 ht hvm hG
      obtain ⟨hP, hD⟩ := hJ
      refine lv_aload_n hx hb dX3_wordThen_44 rfl (lv_at hl 1 rfl) ?_
      refine va_get (D := (dC, dI)) (ci := 3) (v := .ref (b 2)) (C := RX3) (T := TX3) (N := 15) hx hb hts inw_X3_wordThen_X3 hown hK hP 0 rfl rfl 1 (by decide) (hts (.fieldLink RX3 13 "DeniedOfEachOtherModel" "m" "[I") (List.mem_of_getElem? (i := 1) rfl)) (fun _ h9 => h9) rfl dX3_wordThen_45 ?_
      refine lv_iload_n hx hb dX3_wordThen_48 rfl (lv_at hl 2 rfl) ?_
      refine lv_iconst (v := nI 4) hx hb dX3_wordThen_49 (by decide) ?_
      refine lv_iload_n hx hb dX3_wordThen_50 rfl (lv_at hl 3 rfl) ?_
      refine lv_iadd hx hb dX3_wordThen_51 ?_
      have hPc := hP.sub (ws' := ([] : va_W)) [] rfl
      have hDc := hD.sub (ws' := ([] : va_W)) [] (by decide) rfl
      have hFc := va_free (wc := ([] : va_W)) hD hS hA [] rfl
      refine bd hF (fun r52 hG hF => ?_)
      refine va_calli (va_runS (As := [.int x1, .int ((nI 4) + x2)]) (rest := [.ref (b 2)]) ⟨hx, hb, hml, hown, hts⟩ (c_X3_of l dC dI cI sf H.size N  x1 ((nI 4) + x2) r52 hG) (va_cwS 2 hts gX3_wordThen_X3_of rfl rfl rfl (by decide +kernel) ⟨Nat.le_of_ble_eq_true rfl, Nat.le_of_ble_eq_true rfl⟩) ⟨fun a U g mk q => ⟨q.1, q.2.call⟩, fun U hU hW => ⟨rfl, PB.of hU hW hPc hK hDc hNN hSF hS hFc⟩⟩ rfl rfl hl.1 rfl (lv_room (Nat.le_of_ble_eq_true rfl)) dX3_wordThen_52 ⟨Nat.le_of_ble_eq_true rfl, Nat.le_of_ble_eq_true rfl⟩) hS (fun q _ h => hFc q h) hFc (fun z_ u_ t H locs ht hvm hw hB hz1 hk1 hS => ?_)
      subst z_
      obtain ⟨hP1, hD1⟩ := hB
      rw [ht] at hP1
      have hJ := vb_join (ws' := (cwM cI b r41)) hP hD [] [0, 1, 2, 3, 4, 5, 6, 7, 8, 9] [0, 1, 2, 3, 4, 5, 6, 7, 8, 9] rfl rfl (by decide) (by decide) hk1 hFc hP1 hD1 rfl (by decide) rfl
      clear hP hD hPc hDc hFc hP1 hD1 hk1 hz1 ht hvm hG
      obtain ⟨hP, hD⟩ := hJ
      refine cki hF (fun hi hF => ?_)
      refine va_iald (D := (dC, dI)) hx hb hK hP 2 0 rfl rfl hi dX3_wordThen_55 ?_
      obtain rfl := Option.some.inj hF
      exact W.iret (v := (r41.2.1 r52.toNatClampNeg)) hx hb hr (fun t ht hW => ⟨⟨(r41.2.1 r52.toNatClampNeg), (), rfl, rfl, QB.of ht hP hD⟩, hS.F ht⟩) hS.2.2 dX3_wordThen_56
    · have hF := iff_ hc hF
      refine lv_aload_n hx hb dX3_wordThen_32 rfl (lv_at hl 1 rfl) ?_
      refine lv_iload hx hb dX3_wordThen_33 (lv_at hl 0 rfl) ?_
      have hPc := hP.sub (ws' := (cwM cI b tW)) [0, 1, 2, 3, 4, 5, 6, 7, 8, 9] rfl
      have hDc := hD.sub (ws' := (cwM cI b tW)) [0, 1, 2, 3, 4, 5, 6, 7, 8, 9] (by decide) rfl
      have hFc := va_free (wc := (cwM cI b tW)) hD hS hA [0, 1, 2, 3, 4, 5, 6, 7, 8, 9] rfl
      refine bd hF (fun r35 hG hF => ?_)
      refine va_calli (va_runV (As := [.int z0]) (rest := []) ⟨hx, hb, hml, hown, hts⟩ (c_X3_no l dC dI cI sf H.size N b tW z0 r35 hG) (cwV 1 hts gX3_wordThen_X3_no rfl rfl rfl (by decide +kernel) ⟨Nat.le_of_ble_eq_true rfl, Nat.le_of_ble_eq_true rfl⟩) ⟨fun a U g mk q => ⟨q.1, q.2.call⟩, va_recv hK hP (ci := 3) (q0 := 0) rfl rfl, fun U hU hW => ⟨rfl, PB.of hU hW hPc hK hDc hNN hSF hS hFc⟩⟩ rfl rfl hl.1 rfl (lv_room (Nat.le_of_ble_eq_true rfl)) dX3_wordThen_35 ⟨Nat.le_of_ble_eq_true rfl, Nat.le_of_ble_eq_true rfl⟩) hS (fun q _ h => hFc q h) hFc (fun z_ u_ t H locs ht hvm hw hB hz1 hk1 hS => ?_)
      subst z_
      obtain ⟨hP1, hD1⟩ := hB
      rw [ht] at hP1
      have hJ := vb_join (ws' := (cwM cI b r35.2)) hP hD [0, 1, 2, 3, 4, 5, 6, 7, 8, 9] [] [0, 1, 2, 3, 4, 5, 6, 7, 8, 9] rfl rfl (by decide) (by decide) hk1 hFc hP1 hD1 rfl (by decide) rfl
      clear hP hD hPc hDc hFc hP1 hD1 hk1 hz1 ht hvm hG
      obtain ⟨hP, hD⟩ := hJ
      obtain rfl := Option.some.inj hF
      exact W.iret (v := r35.1) hx hb hr (fun t ht hW => ⟨⟨r35.1, (), rfl, rfl, QB.of ht hP hD⟩, hS.F ht⟩) hS.2.2 dX3_wordThen_38
  refine lv_if_eq (tgt := 24) hx hb dX3_wordThen_5 (by decide) (fun hc => ?_) (fun hc => ?_)
  · have hF := ift hc hF
    refine lv_iconst (v := (-1)) hx hb dX3_wordThen_24 (by decide) ?_
    exact kJ25 tW p1 p2 p3 (-1) _ _ _ hF hP hD hS (lv_sub hl [0, 1, 2, 3] rfl)
  · have hF := iff_ hc hF
    refine lv_iload_n hx hb dX3_wordThen_8 rfl (lv_at hl 2 rfl) ?_
    have hPc := hP.sub (ws' := ([] : va_W)) [] rfl
    have hDc := hD.sub (ws' := ([] : va_W)) [] (by decide) rfl
    have hFc := va_free (wc := ([] : va_W)) hD hS hA [] rfl
    refine bd hF (fun r9 hG hF => ?_)
    refine va_calli (va_runS (As := [.int p2]) (rest := []) ⟨hx, hb, hml, hown, hts⟩ (c_X3_isTopic l dC dI cI sf H.size N  p2 r9 hG) (va_cwS 1 hts gX3_wordThen_X3_isTopic rfl rfl rfl (by decide +kernel) ⟨Nat.le_of_ble_eq_true rfl, Nat.le_of_ble_eq_true rfl⟩) ⟨fun a U g mk q => ⟨q.1, q.2.call⟩, fun U hU hW => ⟨rfl, PB.of hU hW hPc hK hDc hNN hSF hS hFc⟩⟩ rfl rfl hl.1 rfl (lv_room (Nat.le_of_ble_eq_true rfl)) dX3_wordThen_9 ⟨Nat.le_of_ble_eq_true rfl, Nat.le_of_ble_eq_true rfl⟩) hS (fun q _ h => hFc q h) hFc (fun z_ u_ t H locs ht hvm hw hB hz1 hk1 hS => ?_)
    subst z_
    obtain ⟨hP1, hD1⟩ := hB
    rw [ht] at hP1
    have hJ := vb_join (ws' := (cwM cI b tW)) hP hD [] [0, 1, 2, 3, 4, 5, 6, 7, 8, 9] [0, 1, 2, 3, 4, 5, 6, 7, 8, 9] rfl rfl (by decide) (by decide) hk1 hFc hP1 hD1 rfl (by decide) rfl
    clear hP hD hPc hDc hFc hP1 hD1 hk1 hz1 ht hvm hG
    obtain ⟨hP, hD⟩ := hJ
    refine lv_if_eq (tgt := 24) hx hb dX3_wordThen_12 (by decide) (fun hc => ?_) (fun hc => ?_)
    · have hF := ift hc hF
      refine lv_iconst (v := (-1)) hx hb dX3_wordThen_24 (by decide) ?_
      exact kJ25 tW p1 p2 p3 (-1) _ _ _ hF hP hD hS (lv_sub hl [0, 1, 2, 3] rfl)
    · have hF := iff_ hc hF
      refine lv_iload_n hx hb dX3_wordThen_15 rfl (lv_at hl 3 rfl) ?_
      refine lv_bipush (v := nI 60) hx hb dX3_wordThen_16 (by decide) ?_
      have hPc := hP.sub (ws' := ([] : va_W)) [] rfl
      have hDc := hD.sub (ws' := ([] : va_W)) [] (by decide) rfl
      have hFc := va_free (wc := ([] : va_W)) hD hS hA [] rfl
      refine bd hF (fun r18 hG hF => ?_)
      refine va_calli (va_runS (As := [.int p3, .int (nI 60)]) (rest := []) ⟨hx, hb, hml, hown, hts⟩ (c_X3_wrongBy l dC dI cI sf H.size N  p3 (nI 60) r18 hG) (va_cwS 2 hts gX3_wordThen_X3_wrongBy rfl rfl rfl (by decide +kernel) ⟨Nat.le_of_ble_eq_true rfl, Nat.le_of_ble_eq_true rfl⟩) ⟨fun a U g mk q => ⟨q.1, q.2.call⟩, fun U hU hW => ⟨rfl, PB.of hU hW hPc hK hDc hNN hSF hS hFc⟩⟩ rfl rfl hl.1 rfl (lv_room (Nat.le_of_ble_eq_true rfl)) dX3_wordThen_18 ⟨Nat.le_of_ble_eq_true rfl, Nat.le_of_ble_eq_true rfl⟩) hS (fun q _ h => hFc q h) hFc (fun z_ u_ t H locs ht hvm hw hB hz1 hk1 hS => ?_)
      subst z_
      obtain ⟨hP1, hD1⟩ := hB
      rw [ht] at hP1
      have hJ := vb_join (ws' := (cwM cI b tW)) hP hD [] [0, 1, 2, 3, 4, 5, 6, 7, 8, 9] [0, 1, 2, 3, 4, 5, 6, 7, 8, 9] rfl rfl (by decide) (by decide) hk1 hFc hP1 hD1 rfl (by decide) rfl
      clear hP hD hPc hDc hFc hP1 hD1 hk1 hz1 ht hvm hG
      obtain ⟨hP, hD⟩ := hJ
      refine lv_goto (tgt := 25) hx hb dX3_wordThen_21 (by decide) ?_
      exact kJ25 tW p1 p2 p3 r18 _ _ _ hF hP hD hS (lv_sub hl [0, 1, 2, 3] rfl)
