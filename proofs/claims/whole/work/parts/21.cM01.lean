theorem inw_X3_chapter_X3 : ∀ w ∈ u_ws RX3 TX3 15, w ∈ wsX3_chapter := fun _ h => List.mem_cons_of_mem _ (List.mem_append_right _ h)
set_option maxHeartbeats 4000000 in
set_option maxRecDepth 100000 in
theorem c_X3_chapter (l : Launch) (dC : Nat → ClassId) (dI : Nat → Nat → Nat) (cI : ClassId) (sf : SFP) (sz : Nat) (N : Nat) (b : Nat → Nat) (tW : MS) (p1 : Int32) (r : (Int32 × MS)) (hF : F_X3_chapter N tW p1 = some r) : Met l yX3_chapter wsX3_chapter ({ frames := 5, cells := 0, slots := 0, locals := 110 }) (va_Pc [.ref (b 0), .int p1] (PB (dC, dI) cI (cwM cI b tW) sz sf)) (va_Qi (fun (z : Int32) (_ : Unit) => z = r.1) (fun _ t => QB (dC, dI) (cwM cI b r.2) (va_A (cwM cI b tW) sz) t) (va_A (cwM cI b tW) sz)) 0 0 (va_A (cwM cI b tW) sz) := by
  refine Met.ofW (cc := cX3_chapter) (maxL := 4) (ret := (some .int)) (by decide) rfl ?_
  intro p e s m args below meth c s₁ B hml hv
  obtain ⟨rfl, hsz, hP, hK, hD0, hNN, hSF⟩ := hv
  have hx := B.exec
  have hb := B.bytes
  have hr := B.returns
  have hts := atoms_spec (ws := wsX3_chapter) B.pre
  have hown : s.vm.findClass RX3 = some m.cls := findClass_of_methodNamed B.named
  have hlocks := B.notSynchronized
  subst hsz
  have hD := hD0.self (sz := s.heap.size)
  generalize hAe : va_A (cwM cI b tW) s.heap.size = A at hD hSF ⊢
  have hA : ∀ q : Nat, s.heap.size ≤ q → A q := fun q h => by rw [← hAe]; exact Or.inr h
  clear hAe hD0
  have hS : va_S A s.heap s.heap [] := va_S.rf
  have hl := lv_entry ([.ref (b 0), .int p1]) (n := 4) (Nat.le_of_ble_eq_true rfl)
  rw [lg_entry_eq]
  generalize (lg_sl ([.ref (b 0), .int p1]) ++ List.replicate (4 - (lg_sl ([.ref (b 0), .int p1])).length) Slot.unset).toArray = ls at hl ⊢
  have hl : lv_has ls 4 [(0, .ref (b 0)), (1, .int p1)] := hl
  rw [F_X3_chapter] at hF
  refine lv_iload_n hx hb dX3_chapter_0 rfl (lv_at hl 1 rfl) ?_
  refine lv_iconst (v := (-1)) hx hb dX3_chapter_1 (by decide) ?_
  refine vW_have (fun R av Q => ∀ (tW : MS) (x1 : Int32) (H : Heap) (locs : List Loc) (ls : Array Slot), F_X3_chapter_19 N tW x1 = some r → va_P (dC, dI) vwCl (cwM cI b tW) H → va_D A (cwM cI b tW) → va_S A s.heap H locs → lv_has ls 4 [(0, .ref (b 0)), (1, .int x1)] → W p l e R s m av below meth c H locs 0 0 Q (F0 m 19 ls [])) ?_ (fun kJ19 => ?_)
  · 
    intro tW x1 H locs ls hF hP hD hS hl
    rw [F_X3_chapter_19] at hF
    refine lv_iload_n hx hb dX3_chapter_19 rfl (lv_at hl 1 rfl) ?_
    refine lv_if_lt (tgt := 32) hx hb dX3_chapter_20 (by decide) (fun hc => ?_) (fun hc => ?_)
    · have hF := ift hc hF
      refine lv_bipush (v := (-9)) hx hb dX3_chapter_32 (by decide) ?_
      refine lv_istore_n (lv' := [(2, .int (-9)), (0, .ref (b 0)), (1, .int x1)]) hx hb dX3_chapter_34 rfl hl (by decide) rfl (fun ls hl => ?_)
      refine lv_iconst (v := nI 0) hx hb dX3_chapter_35 (by decide) ?_
      refine vW_have (fun R av Q => ∀ (n37 : Nat) (tW : MS) (x2 : Int32) (x3 : Int32) (H : Heap) (locs : List Loc) (ls : Array Slot), F_X3_chapter_37 N n37 tW x2 x3 = some r → va_P (dC, dI) vwCl (cwM cI b tW) H → va_D A (cwM cI b tW) → va_S A s.heap H locs → lv_has ls 4 [(0, .ref (b 0)), (2, .int x2), (3, .int x3)] → W p l e R s m av below meth c H locs 0 0 Q (F0 m 37 ls [])) ?_ (fun kJ37 => ?_)
      · intro n37
        induction n37 with
        | zero => intro tW x2 x3 H locs ls hF; exact nn hF
        | succ n37 ih37 =>
          intro tW x2 x3 H locs ls hF hP hD hS hl
          rw [F_X3_chapter_37] at hF
          refine lv_iload_n hx hb dX3_chapter_37 rfl (lv_at hl 2 rfl) ?_
          refine lv_aload_n hx hb dX3_chapter_38 rfl (lv_at hl 0 rfl) ?_
          refine va_get (D := (dC, dI)) (ci := 3) (v := .ref (b 1)) (C := RX3) (T := TX3) (N := 15) hx hb hts inw_X3_chapter_X3 hown hK hP 0 rfl rfl 0 (by decide) (hts (.fieldLink RX3 9 "DeniedOfEachOtherModel" "s" "[I") (List.mem_of_getElem? (i := 1) rfl)) (fun _ h9 => h9) rfl dX3_chapter_39 ?_
          refine lv_iconst (v := nI 0) hx hb dX3_chapter_42 (by decide) ?_
          refine va_iald (D := (dC, dI)) hx hb hK hP 1 0 rfl rfl (vp_in_nI (n := 0) (N := 74) (by decide) (by decide)) dX3_chapter_43 ?_
          refine lv_icmp_ge (tgt := 89) hx hb dX3_chapter_44 (by decide) (fun hc => ?_) (fun hc => ?_)
          · have hF := ift hc hF
            refine lv_iload_n hx hb dX3_chapter_89 rfl (lv_at hl 1 rfl) ?_
            obtain rfl := Option.some.inj hF
            exact W.iret (v := x2) hx hb hr (fun t ht hW => ⟨⟨x2, (), rfl, rfl, QB.of ht hP hD⟩, hS.F ht⟩) hS.2.2 dX3_chapter_90
          · have hF := iff_ hc hF
            refine lv_aload_n hx hb dX3_chapter_47 rfl (lv_at hl 0 rfl) ?_
            refine va_get (D := (dC, dI)) (ci := 3) (v := .ref (b 1)) (C := RX3) (T := TX3) (N := 15) hx hb hts inw_X3_chapter_X3 hown hK hP 0 rfl rfl 0 (by decide) (hts (.fieldLink RX3 9 "DeniedOfEachOtherModel" "s" "[I") (List.mem_of_getElem? (i := 1) rfl)) (fun _ h9 => h9) rfl dX3_chapter_48 ?_
            refine lv_iload_n hx hb dX3_chapter_51 rfl (lv_at hl 2 rfl) ?_
            have hPc := hP.sub (ws' := (cwA cI (b 1) tW.1)) [1] rfl
            have hDc := hD.sub (ws' := (cwA cI (b 1) tW.1)) [1] (by decide) rfl
            have hFc := va_free (wc := (cwA cI (b 1) tW.1)) hD hS hA [1] rfl
            refine bd hF (fun r52 hG hF => ?_)
            refine va_calli (va_runS (As := [.ref (b 1), .int x3]) (rest := []) ⟨hx, hb, hml, hown, hts⟩ (c_X3_isAlive l dC dI cI sf H.size N (b 1) tW.1 x3 r52 hG) (va_cwS 2 hts gX3_chapter_X3_isAlive rfl rfl rfl (by decide +kernel) ⟨Nat.le_of_ble_eq_true rfl, Nat.le_of_ble_eq_true rfl⟩) ⟨fun a U g mk q => ⟨q.1, q.2.call⟩, fun U hU hW => ⟨rfl, PB.of hU hW hPc hK hDc hNN hSF hS hFc⟩⟩ rfl rfl hl.1 rfl (lv_room (Nat.le_of_ble_eq_true rfl)) dX3_chapter_52 ⟨Nat.le_of_ble_eq_true rfl, Nat.le_of_ble_eq_true rfl⟩) hS (fun q _ h => hFc q h) hFc (fun z_ u_ t H locs ht hvm hw hB hz1 hk1 hS => ?_)
            subst z_
            obtain ⟨hP1, hD1⟩ := hB
            rw [ht] at hP1
            have hJ := vb_join (ws' := (cwM cI b tW)) hP hD [1] [0, 2, 3, 4, 5, 6, 7, 8, 9] [0, 9, 1, 2, 3, 4, 5, 6, 7, 8] rfl rfl (by decide) (by decide) hk1 hFc hP1 hD1 rfl (by decide) rfl
            clear hP hD hPc hDc hFc hP1 hD1 hk1 hz1 ht hvm hG
            obtain ⟨hP, hD⟩ := hJ
            refine vW_have (fun R av Q => ∀ (tW : MS) (x2 : Int32) (x3 : Int32) (H : Heap) (locs : List Loc) (ls : Array Slot), F_X3_chapter_83 N (fun ctW cx2 cx3 => F_X3_chapter_37 N n37 ctW cx2 cx3) tW x2 x3 = some r → va_P (dC, dI) vwCl (cwM cI b tW) H → va_D A (cwM cI b tW) → va_S A s.heap H locs → lv_has ls 4 [(0, .ref (b 0)), (2, .int x2), (3, .int x3)] → W p l e R s m av below meth c H locs 0 0 Q (F0 m 83 ls [])) ?_ (fun kJ83 => ?_)
            · 
              intro tW x2 x3 H locs ls hF hP hD hS hl
              rw [F_X3_chapter_83] at hF
              refine lv_iinc (v := x3 + (nI 1)) (lv' := [(3, .int (x3 + (nI 1))), (0, .ref (b 0)), (2, .int x2)]) hx hb dX3_chapter_83 hl (k := 2) rfl (by rfl) (by decide) rfl (fun ls hl => ?_)
              refine lv_goto (tgt := 37) hx hb dX3_chapter_86 (by decide) ?_
              exact ih37 tW x2 (x3 + (nI 1)) _ _ _ hF hP hD hS (lv_sub hl [1, 2, 0] rfl)
            refine lv_if_eq (tgt := 83) hx hb dX3_chapter_55 (by decide) (fun hc => ?_) (fun hc => ?_)
            · have hF := ift hc hF
              exact kJ83 tW x2 x3 _ _ _ hF hP hD hS (lv_sub hl [0, 1, 2] rfl)
            · have hF := iff_ hc hF
              refine lv_iload_n hx hb dX3_chapter_58 rfl (lv_at hl 1 rfl) ?_
              refine vW_have (fun R av Q => ∀ (tW : MS) (x3 : Int32) (H : Heap) (locs : List Loc) (ls : Array Slot), F_X3_chapter_81 N (fun ctW cx2 cx3 => F_X3_chapter_37 N n37 ctW cx2 cx3) tW x3 = some r → va_P (dC, dI) vwCl (cwM cI b tW) H → va_D A (cwM cI b tW) → va_S A s.heap H locs → lv_has ls 4 [(0, .ref (b 0)), (3, .int x3)] → W p l e R s m av below meth c H locs 0 0 Q (F0 m 81 ls [])) ?_ (fun kJ81 => ?_)
              · 
                intro tW x3 H locs ls hF hP hD hS hl
                rw [F_X3_chapter_81] at hF
                refine lv_iload_n hx hb dX3_chapter_81 rfl (lv_at hl 1 rfl) ?_
                refine lv_istore_n (lv' := [(2, .int x3), (0, .ref (b 0)), (3, .int x3)]) hx hb dX3_chapter_82 rfl hl (by decide) rfl (fun ls hl => ?_)
                exact kJ83 tW x3 x3 _ _ _ hF hP hD hS (lv_sub hl [1, 0, 2] rfl)
              refine lv_if_lt (tgt := 81) hx hb dX3_chapter_59 (by decide) (fun hc => ?_) (fun hc => ?_)
              · have hF := ift hc hF
                exact kJ81 tW x3 _ _ _ hF hP hD hS (lv_sub hl [0, 2] rfl)
              · have hF := iff_ hc hF
                refine lv_aload_n hx hb dX3_chapter_62 rfl (lv_at hl 0 rfl) ?_
                refine va_get (D := (dC, dI)) (ci := 3) (v := .ref (b 1)) (C := RX3) (T := TX3) (N := 15) hx hb hts inw_X3_chapter_X3 hown hK hP 0 rfl rfl 0 (by decide) (hts (.fieldLink RX3 9 "DeniedOfEachOtherModel" "s" "[I") (List.mem_of_getElem? (i := 1) rfl)) (fun _ h9 => h9) rfl dX3_chapter_63 ?_
                refine lv_iload_n hx hb dX3_chapter_66 rfl (lv_at hl 2 rfl) ?_
                have hPc := hP.sub (ws' := (cwA cI (b 1) tW.1)) [1] rfl
                have hDc := hD.sub (ws' := (cwA cI (b 1) tW.1)) [1] (by decide) rfl
                have hFc := va_free (wc := (cwA cI (b 1) tW.1)) hD hS hA [1] rfl
                refine bd hF (fun r67 hG hF => ?_)
                refine va_calli (va_runS (As := [.ref (b 1), .int x3]) (rest := []) ⟨hx, hb, hml, hown, hts⟩ (c_X3_chapterOf l dC dI cI sf H.size N (b 1) tW.1 x3 r67 hG) (va_cwS 2 hts gX3_chapter_X3_chapterOf rfl rfl rfl (by decide +kernel) ⟨Nat.le_of_ble_eq_true rfl, Nat.le_of_ble_eq_true rfl⟩) ⟨fun a U g mk q => ⟨q.1, q.2.call⟩, fun U hU hW => ⟨rfl, PB.of hU hW hPc hK hDc hNN hSF hS hFc⟩⟩ rfl rfl hl.1 rfl (lv_room (Nat.le_of_ble_eq_true rfl)) dX3_chapter_67 ⟨Nat.le_of_ble_eq_true rfl, Nat.le_of_ble_eq_true rfl⟩) hS (fun q _ h => hFc q h) hFc (fun z_ u_ t H locs ht hvm hw hB hz1 hk1 hS => ?_)
                subst z_
                obtain ⟨hP1, hD1⟩ := hB
                rw [ht] at hP1
                have hJ := vb_join (ws' := (cwM cI b tW)) hP hD [1] [0, 2, 3, 4, 5, 6, 7, 8, 9] [0, 9, 1, 2, 3, 4, 5, 6, 7, 8] rfl rfl (by decide) (by decide) hk1 hFc hP1 hD1 rfl (by decide) rfl
                clear hP hD hPc hDc hFc hP1 hD1 hk1 hz1 ht hvm hG
                obtain ⟨hP, hD⟩ := hJ
                refine lv_aload_n hx hb dX3_chapter_70 rfl (lv_at hl 0 rfl) ?_
                refine va_get (D := (dC, dI)) (ci := 3) (v := .ref (b 1)) (C := RX3) (T := TX3) (N := 15) hx hb hts inw_X3_chapter_X3 hown hK hP 0 rfl rfl 0 (by decide) (hts (.fieldLink RX3 9 "DeniedOfEachOtherModel" "s" "[I") (List.mem_of_getElem? (i := 1) rfl)) (fun _ h9 => h9) rfl dX3_chapter_71 ?_
                refine lv_iload_n hx hb dX3_chapter_74 rfl (lv_at hl 1 rfl) ?_
                have hPc := hP.sub (ws' := (cwA cI (b 1) tW.1)) [1] rfl
                have hDc := hD.sub (ws' := (cwA cI (b 1) tW.1)) [1] (by decide) rfl
                have hFc := va_free (wc := (cwA cI (b 1) tW.1)) hD hS hA [1] rfl
                refine bd hF (fun r75 hG hF => ?_)
                refine va_calli (va_runS (As := [.ref (b 1), .int x2]) (rest := [.int r67]) ⟨hx, hb, hml, hown, hts⟩ (c_X3_chapterOf l dC dI cI sf H.size N (b 1) tW.1 x2 r75 hG) (va_cwS 2 hts gX3_chapter_X3_chapterOf rfl rfl rfl (by decide +kernel) ⟨Nat.le_of_ble_eq_true rfl, Nat.le_of_ble_eq_true rfl⟩) ⟨fun a U g mk q => ⟨q.1, q.2.call⟩, fun U hU hW => ⟨rfl, PB.of hU hW hPc hK hDc hNN hSF hS hFc⟩⟩ rfl rfl hl.1 rfl (lv_room (Nat.le_of_ble_eq_true rfl)) dX3_chapter_75 ⟨Nat.le_of_ble_eq_true rfl, Nat.le_of_ble_eq_true rfl⟩) hS (fun q _ h => hFc q h) hFc (fun z_ u_ t H locs ht hvm hw hB hz1 hk1 hS => ?_)
                subst z_
                obtain ⟨hP1, hD1⟩ := hB
                rw [ht] at hP1
                have hJ := vb_join (ws' := (cwM cI b tW)) hP hD [1] [0, 2, 3, 4, 5, 6, 7, 8, 9] [0, 9, 1, 2, 3, 4, 5, 6, 7, 8] rfl rfl (by decide) (by decide) hk1 hFc hP1 hD1 rfl (by decide) rfl
                clear hP hD hPc hDc hFc hP1 hD1 hk1 hz1 ht hvm hG
                obtain ⟨hP, hD⟩ := hJ
                refine lv_icmp_le (tgt := 83) hx hb dX3_chapter_78 (by decide) (fun hc => ?_) (fun hc => ?_)
                · have hF := ift hc hF
                  exact kJ83 tW x2 x3 _ _ _ hF hP hD hS (lv_sub hl [0, 1, 2] rfl)
                · have hF := iff_ hc hF
                  exact kJ81 tW x3 _ _ _ hF hP hD hS (lv_sub hl [0, 2] rfl)
      refine lv_istore_n (lv' := [(3, .int (nI 0)), (2, .int (-9)), (0, .ref (b 0)), (1, .int x1)]) hx hb dX3_chapter_36 rfl hl (by decide) rfl (fun ls hl => ?_)
      exact kJ37 N tW (-9) (nI 0) _ _ _ hF hP hD hS (lv_sub hl [2, 1, 0] rfl)
    · have hF := iff_ hc hF
      refine lv_aload_n hx hb dX3_chapter_23 rfl (lv_at hl 0 rfl) ?_
      refine va_get (D := (dC, dI)) (ci := 3) (v := .ref (b 1)) (C := RX3) (T := TX3) (N := 15) hx hb hts inw_X3_chapter_X3 hown hK hP 0 rfl rfl 0 (by decide) (hts (.fieldLink RX3 9 "DeniedOfEachOtherModel" "s" "[I") (List.mem_of_getElem? (i := 1) rfl)) (fun _ h9 => h9) rfl dX3_chapter_24 ?_
      refine lv_iload_n hx hb dX3_chapter_27 rfl (lv_at hl 1 rfl) ?_
      have hPc := hP.sub (ws' := (cwA cI (b 1) tW.1)) [1] rfl
      have hDc := hD.sub (ws' := (cwA cI (b 1) tW.1)) [1] (by decide) rfl
      have hFc := va_free (wc := (cwA cI (b 1) tW.1)) hD hS hA [1] rfl
      refine bd hF (fun r28 hG hF => ?_)
      refine va_calli (va_runS (As := [.ref (b 1), .int x1]) (rest := []) ⟨hx, hb, hml, hown, hts⟩ (c_X3_chapterOf l dC dI cI sf H.size N (b 1) tW.1 x1 r28 hG) (va_cwS 2 hts gX3_chapter_X3_chapterOf rfl rfl rfl (by decide +kernel) ⟨Nat.le_of_ble_eq_true rfl, Nat.le_of_ble_eq_true rfl⟩) ⟨fun a U g mk q => ⟨q.1, q.2.call⟩, fun U hU hW => ⟨rfl, PB.of hU hW hPc hK hDc hNN hSF hS hFc⟩⟩ rfl rfl hl.1 rfl (lv_room (Nat.le_of_ble_eq_true rfl)) dX3_chapter_28 ⟨Nat.le_of_ble_eq_true rfl, Nat.le_of_ble_eq_true rfl⟩) hS (fun q _ h => hFc q h) hFc (fun z_ u_ t H locs ht hvm hw hB hz1 hk1 hS => ?_)
      subst z_
      obtain ⟨hP1, hD1⟩ := hB
      rw [ht] at hP1
      have hJ := vb_join (ws' := (cwM cI b tW)) hP hD [1] [0, 2, 3, 4, 5, 6, 7, 8, 9] [0, 9, 1, 2, 3, 4, 5, 6, 7, 8] rfl rfl (by decide) (by decide) hk1 hFc hP1 hD1 rfl (by decide) rfl
      clear hP hD hPc hDc hFc hP1 hD1 hk1 hz1 ht hvm hG
      obtain ⟨hP, hD⟩ := hJ
      obtain rfl := Option.some.inj hF
      exact W.iret (v := r28) hx hb hr (fun t ht hW => ⟨⟨r28, (), rfl, rfl, QB.of ht hP hD⟩, hS.F ht⟩) hS.2.2 dX3_chapter_31
  refine lv_icmp_eq (tgt := 19) hx hb dX3_chapter_2 (by decide) (fun hc => ?_) (fun hc => ?_)
  · have hF := ift hc hF
    exact kJ19 tW p1 _ _ _ hF hP hD hS (lv_sub hl [0, 1] rfl)
  · have hF := iff_ hc hF
    refine lv_aload_n hx hb dX3_chapter_5 rfl (lv_at hl 0 rfl) ?_
    refine lv_iload_n hx hb dX3_chapter_6 rfl (lv_at hl 1 rfl) ?_
    have hPc := hP.sub (ws' := (cwM cI b tW)) [0, 1, 2, 3, 4, 5, 6, 7, 8, 9] rfl
    have hDc := hD.sub (ws' := (cwM cI b tW)) [0, 1, 2, 3, 4, 5, 6, 7, 8, 9] (by decide) rfl
    have hFc := va_free (wc := (cwM cI b tW)) hD hS hA [0, 1, 2, 3, 4, 5, 6, 7, 8, 9] rfl
    refine bd hF (fun r7 hG hF => ?_)
    refine va_calli (va_runV (As := [.int p1]) (rest := []) ⟨hx, hb, hml, hown, hts⟩ (c_X3_isCitizen l dC dI cI sf s.heap.size N b tW p1 r7 hG) (cwV 1 hts gX3_chapter_X3_isCitizen rfl rfl rfl (by decide +kernel) ⟨Nat.le_of_ble_eq_true rfl, Nat.le_of_ble_eq_true rfl⟩) ⟨fun a U g mk q => ⟨q.1, q.2.call⟩, va_recv hK hP (ci := 3) (q0 := 0) rfl rfl, fun U hU hW => ⟨rfl, PB.of hU hW hPc hK hDc hNN hSF hS hFc⟩⟩ rfl rfl hl.1 rfl (lv_room (Nat.le_of_ble_eq_true rfl)) dX3_chapter_7 ⟨Nat.le_of_ble_eq_true rfl, Nat.le_of_ble_eq_true rfl⟩) hS (fun q _ h => hFc q h) hFc (fun z_ u_ t H locs ht hvm hw hB hz1 hk1 hS => ?_)
    subst z_
    obtain ⟨hP1, hD1⟩ := hB
    rw [ht] at hP1
    have hJ := vb_join (ws' := (cwM cI b tW)) hP hD [0, 1, 2, 3, 4, 5, 6, 7, 8, 9] [] [0, 1, 2, 3, 4, 5, 6, 7, 8, 9] rfl rfl (by decide) (by decide) hk1 hFc hP1 hD1 rfl (by decide) rfl
    clear hP hD hPc hDc hFc hP1 hD1 hk1 hz1 ht hvm hG
    obtain ⟨hP, hD⟩ := hJ
    refine lv_if_ne (tgt := 19) hx hb dX3_chapter_10 (by decide) (fun hc => ?_) (fun hc => ?_)
    · have hF := ift hc hF
      exact kJ19 tW p1 _ _ _ hF hP hD hS (lv_sub hl [0, 1] rfl)
    · have hF := iff_ (fun h => h hc) hF
      refine lv_aload_n hx hb dX3_chapter_13 rfl (lv_at hl 0 rfl) ?_
      refine lv_iconst (v := (-1)) hx hb dX3_chapter_14 (by decide) ?_
      have hPc := hP.sub (ws' := (cwM cI b tW)) [0, 1, 2, 3, 4, 5, 6, 7, 8, 9] rfl
      have hDc := hD.sub (ws' := (cwM cI b tW)) [0, 1, 2, 3, 4, 5, 6, 7, 8, 9] (by decide) rfl
      have hFc := va_free (wc := (cwM cI b tW)) hD hS hA [0, 1, 2, 3, 4, 5, 6, 7, 8, 9] rfl
      refine bd hF (fun r15 hG hF => ?_)
      refine va_calli (va_runV (As := [.int (-1)]) (rest := []) ⟨hx, hb, hml, hown, hts⟩ (c_X3_no l dC dI cI sf H.size N b tW (-1) r15 hG) (cwV 1 hts gX3_chapter_X3_no rfl rfl rfl (by decide +kernel) ⟨Nat.le_of_ble_eq_true rfl, Nat.le_of_ble_eq_true rfl⟩) ⟨fun a U g mk q => ⟨q.1, q.2.call⟩, va_recv hK hP (ci := 3) (q0 := 0) rfl rfl, fun U hU hW => ⟨rfl, PB.of hU hW hPc hK hDc hNN hSF hS hFc⟩⟩ rfl rfl hl.1 rfl (lv_room (Nat.le_of_ble_eq_true rfl)) dX3_chapter_15 ⟨Nat.le_of_ble_eq_true rfl, Nat.le_of_ble_eq_true rfl⟩) hS (fun q _ h => hFc q h) hFc (fun z_ u_ t H locs ht hvm hw hB hz1 hk1 hS => ?_)
      subst z_
      obtain ⟨hP1, hD1⟩ := hB
      rw [ht] at hP1
      have hJ := vb_join (ws' := (cwM cI b r15.2)) hP hD [0, 1, 2, 3, 4, 5, 6, 7, 8, 9] [] [0, 1, 2, 3, 4, 5, 6, 7, 8, 9] rfl rfl (by decide) (by decide) hk1 hFc hP1 hD1 rfl (by decide) rfl
      clear hP hD hPc hDc hFc hP1 hD1 hk1 hz1 ht hvm hG
      obtain ⟨hP, hD⟩ := hJ
      obtain rfl := Option.some.inj hF
      exact W.iret (v := r15.1) hx hb hr (fun t ht hW => ⟨⟨r15.1, (), rfl, rfl, QB.of ht hP hD⟩, hS.F ht⟩) hS.2.2 dX3_chapter_18
set_option maxHeartbeats 4000000 in
set_option maxRecDepth 100000 in
theorem c_X3_copies (l : Launch) (dC : Nat → ClassId) (dI : Nat → Nat → Nat) (cI : ClassId) (sf : SFP) (sz : Nat) (N : Nat) (j00 : Nat) (j10 : Nat) (g0W : FA) (g1W : FA) (r : FA) (hF : F_X3_copies N g0W g1W = some r) : Met l yX3_copies wsX3_copies ({ frames := 0, cells := 0, slots := 0, locals := 0 }) (va_Pc [.ref j00, .ref j10] (PB (dC, dI) cI (cwA cI j00 g0W ++ cwA cI j10 g1W) sz sf)) (va_Qv (fun _ : Unit => True) (fun _ t => QB (dC, dI) (cwA cI j00 g0W ++ cwA cI j10 r) (va_A (cwA cI j00 g0W ++ cwA cI j10 g1W) sz) t) (va_A (cwA cI j00 g0W ++ cwA cI j10 g1W) sz)) 0 0 (va_A (cwA cI j00 g0W ++ cwA cI j10 g1W) sz) := by
  refine Met.ofW (cc := cX3_copies) (maxL := 3) (ret := none) (by decide) rfl ?_
  intro p e s m args below meth c s₁ B hml hv
  obtain ⟨rfl, hsz, hP, hK, hD0, hNN, hSF⟩ := hv
  have hx := B.exec
  have hb := B.bytes
  have hr := B.returns
  have hts := atoms_spec (ws := wsX3_copies) B.pre
  have hown : s.vm.findClass RX3 = some m.cls := findClass_of_methodNamed B.named
  have hlocks := B.notSynchronized
  subst hsz
  have hD := hD0.self (sz := s.heap.size)
  generalize hAe : va_A (cwA cI j00 g0W ++ cwA cI j10 g1W) s.heap.size = A at hD hSF ⊢
  have hA : ∀ q : Nat, s.heap.size ≤ q → A q := fun q h => by rw [← hAe]; exact Or.inr h
  clear hAe hD0
  have hS : va_S A s.heap s.heap [] := va_S.rf
  have hl := lv_entry ([.ref j00, .ref j10]) (n := 3) (Nat.le_of_ble_eq_true rfl)
  rw [lg_entry_eq]
  generalize (lg_sl ([.ref j00, .ref j10]) ++ List.replicate (3 - (lg_sl ([.ref j00, .ref j10])).length) Slot.unset).toArray = ls at hl ⊢
  have hl : lv_has ls 3 [(0, .ref j00), (1, .ref j10)] := hl
  rw [F_X3_copies] at hF
  refine lv_iconst (v := nI 0) hx hb dX3_copies_0 (by decide) ?_
  refine vW_have (fun R av Q => ∀ (n2 : Nat) (g1W : FA) (x2 : Int32) (H : Heap) (locs : List Loc) (ls : Array Slot), F_X3_copies_2 N g0W n2 g1W x2 = some r → va_P (dC, dI) vwCl (cwA cI j00 g0W ++ cwA cI j10 g1W) H → va_D A (cwA cI j00 g0W ++ cwA cI j10 g1W) → va_S A s.heap H locs → lv_has ls 3 [(0, .ref j00), (1, .ref j10), (2, .int x2)] → W p l e R s m av below meth c H locs 0 0 Q (F0 m 2 ls [])) ?_ (fun kJ2 => ?_)
  · intro n2
    induction n2 with
    | zero => intro g1W x2 H locs ls hF; exact nn hF
    | succ n2 ih2 =>
      intro g1W x2 H locs ls hF hP hD hS hl
      rw [F_X3_copies_2] at hF
      refine lv_iload_n hx hb dX3_copies_2 rfl (lv_at hl 2 rfl) ?_
      refine lv_bipush (v := nI 74) hx hb dX3_copies_3 (by decide) ?_
      refine lv_icmp_ge (tgt := 20) hx hb dX3_copies_5 (by decide) (fun hc => ?_) (fun hc => ?_)
      · have hF := ift hc hF
        obtain rfl := Option.some.inj hF
        exact W.vret hx hb hr (fun t ht hW => ⟨⟨(), rfl, trivial, QB.of ht hP hD⟩, hS.F ht⟩) hS.2.2 dX3_copies_20
      · have hF := iff_ hc hF
        refine lv_aload_n hx hb dX3_copies_8 rfl (lv_at hl 1 rfl) ?_
        refine lv_iload_n hx hb dX3_copies_9 rfl (lv_at hl 2 rfl) ?_
        refine lv_aload_n hx hb dX3_copies_10 rfl (lv_at hl 0 rfl) ?_
        refine lv_iload_n hx hb dX3_copies_11 rfl (lv_at hl 2 rfl) ?_
        refine cki hF (fun hi hF => ?_)
        refine va_iald (D := (dC, dI)) hx hb hK hP 0 0 rfl rfl hi dX3_copies_12 ?_
        refine cki hF (fun hi hF => ?_)
        refine va_iast (D := (dC, dI)) hx hb hK hP hD hS 1 0 rfl rfl hi dX3_copies_13 (fun H locs hP hD hS => ?_)
        have hP : va_P (dC, dI) vwCl (cwA cI j00 g0W ++ cwA cI j10 (upd g1W x2.toNatClampNeg (g0W x2.toNatClampNeg))) H := hP
        have hD : va_D A (cwA cI j00 g0W ++ cwA cI j10 (upd g1W x2.toNatClampNeg (g0W x2.toNatClampNeg))) := hD
        refine lv_iinc (v := x2 + (nI 1)) (lv' := [(2, .int (x2 + (nI 1))), (0, .ref j00), (1, .ref j10)]) hx hb dX3_copies_14 hl (k := 2) rfl (by rfl) (by decide) rfl (fun ls hl => ?_)
        refine lv_goto (tgt := 2) hx hb dX3_copies_17 (by decide) ?_
        exact ih2 (upd g1W x2.toNatClampNeg (g0W x2.toNatClampNeg)) (x2 + (nI 1)) _ _ _ hF hP hD hS (lv_sub hl [1, 2, 0] rfl)
  refine lv_istore_n (lv' := [(2, .int (nI 0)), (0, .ref j00), (1, .ref j10)]) hx hb dX3_copies_1 rfl hl (by decide) rfl (fun ls hl => ?_)
  exact kJ2 N g1W (nI 0) _ _ _ hF hP hD hS (lv_sub hl [1, 2, 0] rfl)
set_option maxHeartbeats 4000000 in
set_option maxRecDepth 100000 in
theorem c_X3_least (l : Launch) (dC : Nat → ClassId) (dI : Nat → Nat → Nat) (cI : ClassId) (sf : SFP) (sz : Nat) (N : Nat) (p0 : Int32) (p1 : Int32) (r : Int32) (hF : F_X3_least N p0 p1 = some r) : Met l yX3_least wsX3_least ({ frames := 0, cells := 0, slots := 0, locals := 0 }) (va_Pc [.int p0, .int p1] (PB (dC, dI) cI ([] : va_W) sz sf)) (va_Qi (fun (z : Int32) (_ : Unit) => z = r) (fun _ t => QB (dC, dI) ([] : va_W) (va_A ([] : va_W) sz) t) (va_A ([] : va_W) sz)) 0 0 (va_A ([] : va_W) sz) := by
  refine Met.ofW (cc := cX3_least) (maxL := 2) (ret := (some .int)) (by decide) rfl ?_
  intro p e s m args below meth c s₁ B hml hv
  obtain ⟨rfl, hsz, hP, hK, hD0, hNN, hSF⟩ := hv
  have hx := B.exec
  have hb := B.bytes
  have hr := B.returns
  have hts := atoms_spec (ws := wsX3_least) B.pre
  have hown : s.vm.findClass RX3 = some m.cls := findClass_of_methodNamed B.named
  have hlocks := B.notSynchronized
  subst hsz
  have hD := hD0.self (sz := s.heap.size)
  generalize hAe : va_A ([] : va_W) s.heap.size = A at hD hSF ⊢
  have hA : ∀ q : Nat, s.heap.size ≤ q → A q := fun q h => by rw [← hAe]; exact Or.inr h
  clear hAe hD0
  have hS : va_S A s.heap s.heap [] := va_S.rf
  have hl := lv_entry ([.int p0, .int p1]) (n := 2) (Nat.le_of_ble_eq_true rfl)
  rw [lg_entry_eq]
  generalize (lg_sl ([.int p0, .int p1]) ++ List.replicate (2 - (lg_sl ([.int p0, .int p1])).length) Slot.unset).toArray = ls at hl ⊢
  have hl : lv_has ls 2 [(0, .int p0), (1, .int p1)] := hl
  rw [F_X3_least] at hF
  refine lv_iload_n hx hb dX3_least_0 rfl (lv_at hl 0 rfl) ?_
  refine lv_iload_n hx hb dX3_least_1 rfl (lv_at hl 1 rfl) ?_
  refine lv_icmp_ge (tgt := 9) hx hb dX3_least_2 (by decide) (fun hc => ?_) (fun hc => ?_)
  · have hF := ift hc hF
    refine lv_iload_n hx hb dX3_least_9 rfl (lv_at hl 1 rfl) ?_
    obtain rfl := Option.some.inj hF
    exact W.iret (v := p1) hx hb hr (fun t ht hW => ⟨⟨p1, (), rfl, rfl, QB.of ht hP hD⟩, hS.F ht⟩) hS.2.2 dX3_least_10
  · have hF := iff_ hc hF
    refine lv_iload_n hx hb dX3_least_5 rfl (lv_at hl 0 rfl) ?_
    refine lv_goto (tgt := 10) hx hb dX3_least_6 (by decide) ?_
    obtain rfl := Option.some.inj hF
    exact W.iret (v := p0) hx hb hr (fun t ht hW => ⟨⟨p0, (), rfl, rfl, QB.of ht hP hD⟩, hS.F ht⟩) hS.2.2 dX3_least_10
set_option maxHeartbeats 4000000 in
set_option maxRecDepth 100000 in
theorem c_X3_life (l : Launch) (dC : Nat → ClassId) (dI : Nat → Nat → Nat) (cI : ClassId) (sf : SFP) (sz : Nat) (N : Nat) (p0 : Int32) (p1 : Int32) (r : Int32) (hF : F_X3_life N p0 p1 = some r) : Met l yX3_life wsX3_life ({ frames := 0, cells := 0, slots := 0, locals := 0 }) (va_Pc [.int p0, .int p1] (PB (dC, dI) cI ([] : va_W) sz sf)) (va_Qi (fun (z : Int32) (_ : Unit) => z = r) (fun _ t => QB (dC, dI) ([] : va_W) (va_A ([] : va_W) sz) t) (va_A ([] : va_W) sz)) 0 0 (va_A ([] : va_W) sz) := by
  refine Met.ofW (cc := cX3_life) (maxL := 2) (ret := (some .int)) (by decide) rfl ?_
  intro p e s m args below meth c s₁ B hml hv
  obtain ⟨rfl, hsz, hP, hK, hD0, hNN, hSF⟩ := hv
  have hx := B.exec
  have hb := B.bytes
  have hr := B.returns
  have hts := atoms_spec (ws := wsX3_life) B.pre
  have hown : s.vm.findClass RX3 = some m.cls := findClass_of_methodNamed B.named
  have hlocks := B.notSynchronized
  subst hsz
  have hD := hD0.self (sz := s.heap.size)
  generalize hAe : va_A ([] : va_W) s.heap.size = A at hD hSF ⊢
  have hA : ∀ q : Nat, s.heap.size ≤ q → A q := fun q h => by rw [← hAe]; exact Or.inr h
  clear hAe hD0
  have hS : va_S A s.heap s.heap [] := va_S.rf
  have hl := lv_entry ([.int p0, .int p1]) (n := 2) (Nat.le_of_ble_eq_true rfl)
  rw [lg_entry_eq]
  generalize (lg_sl ([.int p0, .int p1]) ++ List.replicate (2 - (lg_sl ([.int p0, .int p1])).length) Slot.unset).toArray = ls at hl ⊢
  have hl : lv_has ls 2 [(0, .int p0), (1, .int p1)] := hl
  rw [F_X3_life] at hF
  refine lv_iload_n hx hb dX3_life_0 rfl (lv_at hl 0 rfl) ?_
  by_cases hc1 : p0 = nI 1
  · have hF := ift hc1 hF
    refine lv_tableIn (off := 35) (tgt := 36) hx hb dX3_life_1 (by rw [hc1]; decide) (by rw [hc1]; decide) (by rw [hc1]; rfl) (by decide) ?_
    refine lv_bipush (v := nI 50) hx hb dX3_life_36 (by decide) ?_
    refine lv_iload_n hx hb dX3_life_38 rfl (lv_at hl 1 rfl) ?_
    refine lv_iadd hx hb dX3_life_39 ?_
    obtain rfl := Option.some.inj hF
    exact W.iret (v := ((nI 50) + p1)) hx hb hr (fun t ht hW => ⟨⟨((nI 50) + p1), (), rfl, rfl, QB.of ht hP hD⟩, hS.F ht⟩) hS.2.2 dX3_life_40
  · have hF := iff_ hc1 hF
    by_cases hc2 : p0 = nI 2
    · have hF := ift hc2 hF
      refine lv_tableIn (off := 40) (tgt := 41) hx hb dX3_life_1 (by rw [hc2]; decide) (by rw [hc2]; decide) (by rw [hc2]; rfl) (by decide) ?_
      refine lv_bipush (v := nI 80) hx hb dX3_life_41 (by decide) ?_
      refine lv_iload_n hx hb dX3_life_43 rfl (lv_at hl 1 rfl) ?_
      refine lv_iadd hx hb dX3_life_44 ?_
      obtain rfl := Option.some.inj hF
      exact W.iret (v := ((nI 80) + p1)) hx hb hr (fun t ht hW => ⟨⟨((nI 80) + p1), (), rfl, rfl, QB.of ht hP hD⟩, hS.F ht⟩) hS.2.2 dX3_life_45
    · have hF := iff_ hc2 hF
      by_cases hc3 : p0 = nI 3
      · have hF := ift hc3 hF
        refine lv_tableIn (off := 55) (tgt := 56) hx hb dX3_life_1 (by rw [hc3]; decide) (by rw [hc3]; decide) (by rw [hc3]; rfl) (by decide) ?_
        refine lv_bipush (v := nI 60) hx hb dX3_life_56 (by decide) ?_
        refine lv_iload_n hx hb dX3_life_58 rfl (lv_at hl 1 rfl) ?_
        refine lv_iadd hx hb dX3_life_59 ?_
        obtain rfl := Option.some.inj hF
        exact W.iret (v := ((nI 60) + p1)) hx hb hr (fun t ht hW => ⟨⟨((nI 60) + p1), (), rfl, rfl, QB.of ht hP hD⟩, hS.F ht⟩) hS.2.2 dX3_life_60
      · have hF := iff_ hc3 hF
        by_cases hc4 : p0 = nI 4
        · have hF := ift hc4 hF
          refine lv_tableIn (off := 45) (tgt := 46) hx hb dX3_life_1 (by rw [hc4]; decide) (by rw [hc4]; decide) (by rw [hc4]; rfl) (by decide) ?_
          refine lv_bipush (v := nI 65) hx hb dX3_life_46 (by decide) ?_
          refine lv_iload_n hx hb dX3_life_48 rfl (lv_at hl 1 rfl) ?_
          refine lv_iadd hx hb dX3_life_49 ?_
          obtain rfl := Option.some.inj hF
          exact W.iret (v := ((nI 65) + p1)) hx hb hr (fun t ht hW => ⟨⟨((nI 65) + p1), (), rfl, rfl, QB.of ht hP hD⟩, hS.F ht⟩) hS.2.2 dX3_life_50
        · have hF := iff_ hc4 hF
          by_cases hc5 : p0 = nI 5
          · have hF := ift hc5 hF
            refine lv_tableIn (off := 50) (tgt := 51) hx hb dX3_life_1 (by rw [hc5]; decide) (by rw [hc5]; decide) (by rw [hc5]; rfl) (by decide) ?_
            refine lv_bipush (v := nI 85) hx hb dX3_life_51 (by decide) ?_
            refine lv_iload_n hx hb dX3_life_53 rfl (lv_at hl 1 rfl) ?_
            refine lv_iadd hx hb dX3_life_54 ?_
            obtain rfl := Option.some.inj hF
            exact W.iret (v := ((nI 85) + p1)) hx hb hr (fun t ht hW => ⟨⟨((nI 85) + p1), (), rfl, rfl, QB.of ht hP hD⟩, hS.F ht⟩) hS.2.2 dX3_life_55
          · have hF := iff_ hc5 hF
            refine lv_tableOut (tgt := 56) hx hb dX3_life_1 (tb_out (lo := 1) (hi := 5) (by decide) (fun k h1 h2 => by rcases (show k = 1 ∨ k = 2 ∨ k = 3 ∨ k = 4 ∨ k = 5 by omega) with rfl | rfl | rfl | rfl | rfl <;> assumption)) (by decide) ?_
            refine lv_bipush (v := nI 60) hx hb dX3_life_56 (by decide) ?_
            refine lv_iload_n hx hb dX3_life_58 rfl (lv_at hl 1 rfl) ?_
            refine lv_iadd hx hb dX3_life_59 ?_
            obtain rfl := Option.some.inj hF
            exact W.iret (v := ((nI 60) + p1)) hx hb hr (fun t ht hW => ⟨⟨((nI 60) + p1), (), rfl, rfl, QB.of ht hP hD⟩, hS.F ht⟩) hS.2.2 dX3_life_60
set_option maxHeartbeats 4000000 in
set_option maxRecDepth 100000 in
theorem c_X3_then (l : Launch) (dC : Nat → ClassId) (dI : Nat → Nat → Nat) (cI : ClassId) (sf : SFP) (sz : Nat) (N : Nat) (j00 : Nat) (g0W : FA) (p1 : Int32) (p2 : Int32) (r : Int32) (hF : F_X3_then N g0W p1 p2 = some r) : Met l yX3_then wsX3_then ({ frames := 3, cells := 0, slots := 0, locals := 66 }) (va_Pc [.ref j00, .int p1, .int p2] (PB (dC, dI) cI (cwA cI j00 g0W) sz sf)) (va_Qi (fun (z : Int32) (_ : Unit) => z = r) (fun _ t => QB (dC, dI) (cwA cI j00 g0W) (va_A (cwA cI j00 g0W) sz) t) (va_A (cwA cI j00 g0W) sz)) 0 0 (va_A (cwA cI j00 g0W) sz) := by
  refine Met.ofW (cc := cX3_then) (maxL := 7) (ret := (some .int)) (by decide) rfl ?_
  intro p e s m args below meth c s₁ B hml hv
  obtain ⟨rfl, hsz, hP, hK, hD0, hNN, hSF⟩ := hv
  have hx := B.exec
  have hb := B.bytes
  have hr := B.returns
  have hts := atoms_spec (ws := wsX3_then) B.pre
  have hown : s.vm.findClass RX3 = some m.cls := findClass_of_methodNamed B.named
  have hlocks := B.notSynchronized
  subst hsz
  have hD := hD0.self (sz := s.heap.size)
  generalize hAe : va_A (cwA cI j00 g0W) s.heap.size = A at hD hSF ⊢
  have hA : ∀ q : Nat, s.heap.size ≤ q → A q := fun q h => by rw [← hAe]; exact Or.inr h
  clear hAe hD0
  have hS : va_S A s.heap s.heap [] := va_S.rf
  have hl := lv_entry ([.ref j00, .int p1, .int p2]) (n := 7) (Nat.le_of_ble_eq_true rfl)
  rw [lg_entry_eq]
  generalize (lg_sl ([.ref j00, .int p1, .int p2]) ++ List.replicate (7 - (lg_sl ([.ref j00, .int p1, .int p2])).length) Slot.unset).toArray = ls at hl ⊢
  have hl : lv_has ls 7 [(0, .ref j00), (1, .int p1), (2, .int p2)] := hl
  rw [F_X3_then] at hF
  refine lv_aload_n hx hb dX3_then_0 rfl (lv_at hl 0 rfl) ?_
  refine lv_iload_n hx hb dX3_then_1 rfl (lv_at hl 1 rfl) ?_
  refine lv_iconst (v := nI 4) hx hb dX3_then_2 (by decide) ?_
  refine lv_iload_n hx hb dX3_then_3 rfl (lv_at hl 2 rfl) ?_
  refine lv_iadd hx hb dX3_then_4 ?_
  have hPc := hP.sub (ws' := ([] : va_W)) [] rfl
  have hDc := hD.sub (ws' := ([] : va_W)) [] (by decide) rfl
  have hFc := va_free (wc := ([] : va_W)) hD hS hA [] rfl
  refine bd hF (fun r5 hG hF => ?_)
  refine va_calli (va_runS (As := [.int p1, .int ((nI 4) + p2)]) (rest := [.ref j00]) ⟨hx, hb, hml, hown, hts⟩ (c_X3_of l dC dI cI sf s.heap.size N  p1 ((nI 4) + p2) r5 hG) (va_cwS 2 hts gX3_then_X3_of rfl rfl rfl (by decide +kernel) ⟨Nat.le_of_ble_eq_true rfl, Nat.le_of_ble_eq_true rfl⟩) ⟨fun a U g mk q => ⟨q.1, q.2.call⟩, fun U hU hW => ⟨rfl, PB.of hU hW hPc hK hDc hNN hSF hS hFc⟩⟩ rfl rfl hl.1 rfl (lv_room (Nat.le_of_ble_eq_true rfl)) dX3_then_5 ⟨Nat.le_of_ble_eq_true rfl, Nat.le_of_ble_eq_true rfl⟩) hS (fun q _ h => hFc q h) hFc (fun z_ u_ t H locs ht hvm hw hB hz1 hk1 hS => ?_)
  subst z_
  obtain ⟨hP1, hD1⟩ := hB
  rw [ht] at hP1
  have hJ := vb_join (ws' := (cwA cI j00 g0W)) hP hD [] [0] [0] rfl rfl (by decide) (by decide) hk1 hFc hP1 hD1 rfl (by decide) rfl
  clear hP hD hPc hDc hFc hP1 hD1 hk1 hz1 ht hvm hG
  obtain ⟨hP, hD⟩ := hJ
  refine cki hF (fun hi hF => ?_)
  refine va_iald (D := (dC, dI)) hx hb hK hP 0 0 rfl rfl hi dX3_then_8 ?_
  refine lv_istore_n (lv' := [(3, .int (g0W r5.toNatClampNeg)), (0, .ref j00), (1, .int p1), (2, .int p2)]) hx hb dX3_then_9 rfl hl (by decide) rfl (fun ls hl => ?_)
  refine lv_aload_n hx hb dX3_then_10 rfl (lv_at hl 1 rfl) ?_
  refine lv_iload_n hx hb dX3_then_11 rfl (lv_at hl 2 rfl) ?_
  refine lv_iconst (v := nI 1) hx hb dX3_then_12 (by decide) ?_
  have hPc := hP.sub (ws' := ([] : va_W)) [] rfl
  have hDc := hD.sub (ws' := ([] : va_W)) [] (by decide) rfl
  have hFc := va_free (wc := ([] : va_W)) hD hS hA [] rfl
  refine bd hF (fun r13 hG hF => ?_)
  refine va_calli (va_runS (As := [.int p1, .int (nI 1)]) (rest := [.ref j00]) ⟨hx, hb, hml, hown, hts⟩ (c_X3_of l dC dI cI sf H.size N  p1 (nI 1) r13 hG) (va_cwS 2 hts gX3_then_X3_of rfl rfl rfl (by decide +kernel) ⟨Nat.le_of_ble_eq_true rfl, Nat.le_of_ble_eq_true rfl⟩) ⟨fun a U g mk q => ⟨q.1, q.2.call⟩, fun U hU hW => ⟨rfl, PB.of hU hW hPc hK hDc hNN hSF hS hFc⟩⟩ rfl rfl hl.1 rfl (lv_room (Nat.le_of_ble_eq_true rfl)) dX3_then_13 ⟨Nat.le_of_ble_eq_true rfl, Nat.le_of_ble_eq_true rfl⟩) hS (fun q _ h => hFc q h) hFc (fun z_ u_ t H locs ht hvm hw hB hz1 hk1 hS => ?_)
  subst z_
  obtain ⟨hP1, hD1⟩ := hB
  rw [ht] at hP1
  have hJ := vb_join (ws' := (cwA cI j00 g0W)) hP hD [] [0] [0] rfl rfl (by decide) (by decide) hk1 hFc hP1 hD1 rfl (by decide) rfl
  clear hP hD hPc hDc hFc hP1 hD1 hk1 hz1 ht hvm hG
  obtain ⟨hP, hD⟩ := hJ
  refine cki hF (fun hi hF => ?_)
  refine va_iald (D := (dC, dI)) hx hb hK hP 0 0 rfl rfl hi dX3_then_16 ?_
  refine lv_istore (lv' := [(4, .int (g0W r13.toNatClampNeg)), (3, .int (g0W r5.toNatClampNeg)), (0, .ref j00), (1, .int p1), (2, .int p2)]) hx hb dX3_then_17 hl (by decide) rfl (fun ls hl => ?_)
  refine lv_aload_n hx hb dX3_then_19 rfl (lv_at hl 2 rfl) ?_
  refine lv_iload_n hx hb dX3_then_20 rfl (lv_at hl 4 rfl) ?_
  refine lv_iconst (v := nI 3) hx hb dX3_then_21 (by decide) ?_
  refine lv_iload_n hx hb dX3_then_22 rfl (lv_at hl 1 rfl) ?_
  refine lv_isub hx hb dX3_then_23 ?_
  have hPc := hP.sub (ws' := (cwA cI j00 g0W)) [0] rfl
  have hDc := hD.sub (ws' := (cwA cI j00 g0W)) [0] (by decide) rfl
  have hFc := va_free (wc := (cwA cI j00 g0W)) hD hS hA [0] rfl
  refine bd hF (fun r24 hG hF => ?_)
  refine va_calli (va_runS (As := [.ref j00, .int p2, .int ((nI 3) - (g0W r5.toNatClampNeg))]) (rest := []) ⟨hx, hb, hml, hown, hts⟩ (c_X3_saying l dC dI cI sf H.size N j00 g0W p2 ((nI 3) - (g0W r5.toNatClampNeg)) r24 hG) (va_cwS 3 hts gX3_then_X3_saying rfl rfl rfl (by decide +kernel) ⟨Nat.le_of_ble_eq_true rfl, Nat.le_of_ble_eq_true rfl⟩) ⟨fun a U g mk q => ⟨q.1, q.2.call⟩, fun U hU hW => ⟨rfl, PB.of hU hW hPc hK hDc hNN hSF hS hFc⟩⟩ rfl rfl hl.1 rfl (lv_room (Nat.le_of_ble_eq_true rfl)) dX3_then_24 ⟨Nat.le_of_ble_eq_true rfl, Nat.le_of_ble_eq_true rfl⟩) hS (fun q _ h => hFc q h) hFc (fun z_ u_ t H locs ht hvm hw hB hz1 hk1 hS => ?_)
  subst z_
  obtain ⟨hP1, hD1⟩ := hB
  rw [ht] at hP1
  have hJ := vb_join (ws' := (cwA cI j00 g0W)) hP hD [0] [] [0] rfl rfl (by decide) (by decide) hk1 hFc hP1 hD1 rfl (by decide) rfl
  clear hP hD hPc hDc hFc hP1 hD1 hk1 hz1 ht hvm hG
  obtain ⟨hP, hD⟩ := hJ
  refine lv_istore (lv' := [(5, .int r24), (4, .int (g0W r13.toNatClampNeg)), (3, .int (g0W r5.toNatClampNeg)), (0, .ref j00), (1, .int p1), (2, .int p2)]) hx hb dX3_then_27 hl (by decide) rfl (fun ls hl => ?_)
  refine lv_aload_n hx hb dX3_then_29 rfl (lv_at hl 3 rfl) ?_
  refine lv_iload_n hx hb dX3_then_30 rfl (lv_at hl 5 rfl) ?_
  refine lv_iload_n hx hb dX3_then_31 rfl (lv_at hl 2 rfl) ?_
  have hPc := hP.sub (ws' := (cwA cI j00 g0W)) [0] rfl
  have hDc := hD.sub (ws' := (cwA cI j00 g0W)) [0] (by decide) rfl
  have hFc := va_free (wc := (cwA cI j00 g0W)) hD hS hA [0] rfl
  refine bd hF (fun r32 hG hF => ?_)
  refine va_calli (va_runS (As := [.ref j00, .int p2, .int (g0W r5.toNatClampNeg)]) (rest := []) ⟨hx, hb, hml, hown, hts⟩ (c_X3_saying l dC dI cI sf H.size N j00 g0W p2 (g0W r5.toNatClampNeg) r32 hG) (va_cwS 3 hts gX3_then_X3_saying rfl rfl rfl (by decide +kernel) ⟨Nat.le_of_ble_eq_true rfl, Nat.le_of_ble_eq_true rfl⟩) ⟨fun a U g mk q => ⟨q.1, q.2.call⟩, fun U hU hW => ⟨rfl, PB.of hU hW hPc hK hDc hNN hSF hS hFc⟩⟩ rfl rfl hl.1 rfl (lv_room (Nat.le_of_ble_eq_true rfl)) dX3_then_32 ⟨Nat.le_of_ble_eq_true rfl, Nat.le_of_ble_eq_true rfl⟩) hS (fun q _ h => hFc q h) hFc (fun z_ u_ t H locs ht hvm hw hB hz1 hk1 hS => ?_)
  subst z_
  obtain ⟨hP1, hD1⟩ := hB
  rw [ht] at hP1
  have hJ := vb_join (ws' := (cwA cI j00 g0W)) hP hD [0] [] [0] rfl rfl (by decide) (by decide) hk1 hFc hP1 hD1 rfl (by decide) rfl
  clear hP hD hPc hDc hFc hP1 hD1 hk1 hz1 ht hvm hG
  obtain ⟨hP, hD⟩ := hJ
  refine lv_iconst (v := nI 1) hx hb dX3_then_35 (by decide) ?_
  refine vW_have (fun R av Q => ∀ (x1 : Int32) (x3 : Int32) (x4 : Int32) (x5 : Int32) (z0 : Int32) (H : Heap) (locs : List Loc) (ls : Array Slot), F_X3_then_50 N g0W x1 x3 x4 x5 z0 = some r → va_P (dC, dI) vwCl (cwA cI j00 g0W) H → va_D A (cwA cI j00 g0W) → va_S A s.heap H locs → lv_has ls 7 [(0, .ref j00), (1, .int x1), (3, .int x3), (4, .int x4), (5, .int x5)] → W p l e R s m av below meth c H locs 0 0 Q (F0 m 50 ls [.int z0])) ?_ (fun kJ50 => ?_)
  · 
    intro x1 x3 x4 x5 z0 H locs ls hF hP hD hS hl
    rw [F_X3_then_50] at hF
    refine lv_istore (lv' := [(6, .int z0), (0, .ref j00), (1, .int x1), (3, .int x3), (4, .int x4), (5, .int x5)]) hx hb dX3_then_50 hl (by decide) rfl (fun ls hl => ?_)
    refine lv_aload_n hx hb dX3_then_52 rfl (lv_at hl 1 rfl) ?_
    refine lv_iload_n hx hb dX3_then_53 rfl (lv_at hl 2 rfl) ?_
    refine lv_iconst (v := nI 0) hx hb dX3_then_54 (by decide) ?_
    have hPc := hP.sub (ws' := ([] : va_W)) [] rfl
    have hDc := hD.sub (ws' := ([] : va_W)) [] (by decide) rfl
    have hFc := va_free (wc := ([] : va_W)) hD hS hA [] rfl
    refine bd hF (fun r55 hG hF => ?_)
    refine va_calli (va_runS (As := [.int x1, .int (nI 0)]) (rest := [.ref j00]) ⟨hx, hb, hml, hown, hts⟩ (c_X3_of l dC dI cI sf H.size N  x1 (nI 0) r55 hG) (va_cwS 2 hts gX3_then_X3_of rfl rfl rfl (by decide +kernel) ⟨Nat.le_of_ble_eq_true rfl, Nat.le_of_ble_eq_true rfl⟩) ⟨fun a U g mk q => ⟨q.1, q.2.call⟩, fun U hU hW => ⟨rfl, PB.of hU hW hPc hK hDc hNN hSF hS hFc⟩⟩ rfl rfl hl.1 rfl (lv_room (Nat.le_of_ble_eq_true rfl)) dX3_then_55 ⟨Nat.le_of_ble_eq_true rfl, Nat.le_of_ble_eq_true rfl⟩) hS (fun q _ h => hFc q h) hFc (fun z_ u_ t H locs ht hvm hw hB hz1 hk1 hS => ?_)
    subst z_
    obtain ⟨hP1, hD1⟩ := hB
    rw [ht] at hP1
    have hJ := vb_join (ws' := (cwA cI j00 g0W)) hP hD [] [0] [0] rfl rfl (by decide) (by decide) hk1 hFc hP1 hD1 rfl (by decide) rfl
    clear hP hD hPc hDc hFc hP1 hD1 hk1 hz1 ht hvm hG
    obtain ⟨hP, hD⟩ := hJ
    refine cki hF (fun hi hF => ?_)
    refine va_iald (D := (dC, dI)) hx hb hK hP 0 0 rfl rfl hi dX3_then_58 ?_
    by_cases hc1 : (g0W r55.toNatClampNeg) = nI 1
    · have hF := ift hc1 hF
      refine lv_tableIn (off := 33) (tgt := 92) hx hb dX3_then_59 (by rw [hc1]; decide) (by rw [hc1]; decide) (by rw [hc1]; rfl) (by decide) ?_
      refine lv_aload_n hx hb dX3_then_92 rfl (lv_at hl 1 rfl) ?_
      refine lv_iconst (v := nI 1) hx hb dX3_then_93 (by decide) ?_
      refine va_iald (D := (dC, dI)) hx hb hK hP 0 0 rfl rfl (vp_in_nI (n := 1) (N := 74) (by decide) (by decide)) dX3_then_94 ?_
      refine lv_iload hx hb dX3_then_95 (lv_at hl 4 rfl) ?_
      refine lv_iconst (v := nI 1) hx hb dX3_then_97 (by decide) ?_
      refine lv_iadd hx hb dX3_then_98 ?_
      refine ckz hF (fun hz hF => ?_)
      refine lv_irem hx hb dX3_then_99 hz ?_
      refine lv_if_eq (tgt := 108) hx hb dX3_then_100 (by decide) (fun hc => ?_) (fun hc => ?_)
      · have hF := ift hc hF
        refine lv_iconst (v := nI 0) hx hb dX3_then_108 (by decide) ?_
        refine lv_goto (tgt := 113) hx hb dX3_then_109 (by decide) ?_
        obtain rfl := Option.some.inj hF
        exact W.iret (v := (nI 0)) hx hb hr (fun t ht hW => ⟨⟨(nI 0), (), rfl, rfl, QB.of ht hP hD⟩, hS.F ht⟩) hS.2.2 dX3_then_113
      · have hF := iff_ hc hF
        refine lv_iload hx hb dX3_then_103 (lv_at hl 0 rfl) ?_
        refine lv_if_eq (tgt := 112) hx hb dX3_then_105 (by decide) (fun hc => ?_) (fun hc => ?_)
        · have hF := ift hc hF
          refine lv_iload_n hx hb dX3_then_112 rfl (lv_at hl 3 rfl) ?_
          obtain rfl := Option.some.inj hF
          exact W.iret (v := x3) hx hb hr (fun t ht hW => ⟨⟨x3, (), rfl, rfl, QB.of ht hP hD⟩, hS.F ht⟩) hS.2.2 dX3_then_113
        · have hF := iff_ hc hF
          refine lv_iconst (v := nI 0) hx hb dX3_then_108 (by decide) ?_
          refine lv_goto (tgt := 113) hx hb dX3_then_109 (by decide) ?_
          obtain rfl := Option.some.inj hF
          exact W.iret (v := (nI 0)) hx hb hr (fun t ht hW => ⟨⟨(nI 0), (), rfl, rfl, QB.of ht hP hD⟩, hS.F ht⟩) hS.2.2 dX3_then_113
    · have hF := iff_ hc1 hF
      by_cases hc2 : (g0W r55.toNatClampNeg) = nI 2
      · have hF := ift hc2 hF
        refine lv_tableIn (off := 55) (tgt := 114) hx hb dX3_then_59 (by rw [hc2]; decide) (by rw [hc2]; decide) (by rw [hc2]; rfl) (by decide) ?_
        refine lv_iload_n hx hb dX3_then_114 rfl (lv_at hl 3 rfl) ?_
        obtain rfl := Option.some.inj hF
        exact W.iret (v := x3) hx hb hr (fun t ht hW => ⟨⟨x3, (), rfl, rfl, QB.of ht hP hD⟩, hS.F ht⟩) hS.2.2 dX3_then_115
      · have hF := iff_ hc2 hF
        by_cases hc3 : (g0W r55.toNatClampNeg) = nI 3
        · have hF := ift hc3 hF
          refine lv_tableIn (off := 57) (tgt := 116) hx hb dX3_then_59 (by rw [hc3]; decide) (by rw [hc3]; decide) (by rw [hc3]; rfl) (by decide) ?_
          refine lv_iload hx hb dX3_then_116 (lv_at hl 0 rfl) ?_
          refine lv_if_eq (tgt := 127) hx hb dX3_then_118 (by decide) (fun hc => ?_) (fun hc => ?_)
          · have hF := ift hc hF
            refine lv_iload_n hx hb dX3_then_127 rfl (lv_at hl 3 rfl) ?_
            obtain rfl := Option.some.inj hF
            exact W.iret (v := x3) hx hb hr (fun t ht hW => ⟨⟨x3, (), rfl, rfl, QB.of ht hP hD⟩, hS.F ht⟩) hS.2.2 dX3_then_128
          · have hF := iff_ hc hF
            refine lv_iconst (v := nI 3) hx hb dX3_then_121 (by decide) ?_
            refine lv_iload_n hx hb dX3_then_122 rfl (lv_at hl 3 rfl) ?_
            refine lv_isub hx hb dX3_then_123 ?_
            refine lv_goto (tgt := 128) hx hb dX3_then_124 (by decide) ?_
            obtain rfl := Option.some.inj hF
            exact W.iret (v := ((nI 3) - x3)) hx hb hr (fun t ht hW => ⟨⟨((nI 3) - x3), (), rfl, rfl, QB.of ht hP hD⟩, hS.F ht⟩) hS.2.2 dX3_then_128
        · have hF := iff_ hc3 hF
          by_cases hc4 : (g0W r55.toNatClampNeg) = nI 4
          · have hF := ift hc4 hF
            refine lv_tableIn (off := 70) (tgt := 129) hx hb dX3_then_59 (by rw [hc4]; decide) (by rw [hc4]; decide) (by rw [hc4]; rfl) (by decide) ?_
            refine lv_aload_n hx hb dX3_then_129 rfl (lv_at hl 1 rfl) ?_
            refine lv_iconst (v := nI 1) hx hb dX3_then_130 (by decide) ?_
            refine va_iald (D := (dC, dI)) hx hb hK hP 0 0 rfl rfl (vp_in_nI (n := 1) (N := 74) (by decide) (by decide)) dX3_then_131 ?_
            refine lv_iload hx hb dX3_then_132 (lv_at hl 4 rfl) ?_
            refine lv_iconst (v := nI 2) hx hb dX3_then_134 (by decide) ?_
            refine lv_iadd hx hb dX3_then_135 ?_
            refine ckz hF (fun hz hF => ?_)
            refine lv_irem hx hb dX3_then_136 hz ?_
            refine vW_have (fun R av Q => ∀ (x3 : Int32) (H : Heap) (locs : List Loc) (ls : Array Slot), F_X3_then_145 N g0W x3 = some r → va_P (dC, dI) vwCl (cwA cI j00 g0W) H → va_D A (cwA cI j00 g0W) → va_S A s.heap H locs → lv_has ls 7 [(3, .int x3)] → W p l e R s m av below meth c H locs 0 0 Q (F0 m 145 ls [])) ?_ (fun kJ145 => ?_)
            · 
              intro x3 H locs ls hF hP hD hS hl
              rw [F_X3_then_145] at hF
              refine lv_iconst (v := nI 3) hx hb dX3_then_145 (by decide) ?_
              refine lv_iload_n hx hb dX3_then_146 rfl (lv_at hl 0 rfl) ?_
              refine lv_isub hx hb dX3_then_147 ?_
              refine lv_goto (tgt := 152) hx hb dX3_then_148 (by decide) ?_
              obtain rfl := Option.some.inj hF
              exact W.iret (v := ((nI 3) - x3)) hx hb hr (fun t ht hW => ⟨⟨((nI 3) - x3), (), rfl, rfl, QB.of ht hP hD⟩, hS.F ht⟩) hS.2.2 dX3_then_152
            refine lv_if_eq (tgt := 145) hx hb dX3_then_137 (by decide) (fun hc => ?_) (fun hc => ?_)
            · have hF := ift hc hF
              exact kJ145 x3 _ _ _ hF hP hD hS (lv_sub hl [3] rfl)
            · have hF := iff_ hc hF
              refine lv_iload hx hb dX3_then_140 (lv_at hl 0 rfl) ?_
              refine lv_if_eq (tgt := 151) hx hb dX3_then_142 (by decide) (fun hc => ?_) (fun hc => ?_)
              · have hF := ift hc hF
                refine lv_iload_n hx hb dX3_then_151 rfl (lv_at hl 3 rfl) ?_
                obtain rfl := Option.some.inj hF
                exact W.iret (v := x3) hx hb hr (fun t ht hW => ⟨⟨x3, (), rfl, rfl, QB.of ht hP hD⟩, hS.F ht⟩) hS.2.2 dX3_then_152
              · have hF := iff_ hc hF
                exact kJ145 x3 _ _ _ hF hP hD hS (lv_sub hl [3] rfl)
          · have hF := iff_ hc4 hF
            by_cases hc5 : (g0W r55.toNatClampNeg) = nI 5
            · have hF := ift hc5 hF
              refine lv_tableIn (off := 94) (tgt := 153) hx hb dX3_then_59 (by rw [hc5]; decide) (by rw [hc5]; decide) (by rw [hc5]; rfl) (by decide) ?_
              refine lv_iload hx hb dX3_then_153 (lv_at hl 5 rfl) ?_
              refine lv_if_ne (tgt := 162) hx hb dX3_then_155 (by decide) (fun hc => ?_) (fun hc => ?_)
              · have hF := ift hc hF
                refine lv_iload_n hx hb dX3_then_162 rfl (lv_at hl 3 rfl) ?_
                obtain rfl := Option.some.inj hF
                exact W.iret (v := x3) hx hb hr (fun t ht hW => ⟨⟨x3, (), rfl, rfl, QB.of ht hP hD⟩, hS.F ht⟩) hS.2.2 dX3_then_163
              · have hF := iff_ (fun h => h hc) hF
                refine lv_iconst (v := nI 0) hx hb dX3_then_158 (by decide) ?_
                refine lv_goto (tgt := 163) hx hb dX3_then_159 (by decide) ?_
                obtain rfl := Option.some.inj hF
                exact W.iret (v := (nI 0)) hx hb hr (fun t ht hW => ⟨⟨(nI 0), (), rfl, rfl, QB.of ht hP hD⟩, hS.F ht⟩) hS.2.2 dX3_then_163
            · have hF := iff_ hc5 hF
              refine lv_tableOut (tgt := 164) hx hb dX3_then_59 (tb_out (lo := 1) (hi := 5) (by decide) (fun k h1 h2 => by rcases (show k = 1 ∨ k = 2 ∨ k = 3 ∨ k = 4 ∨ k = 5 by omega) with rfl | rfl | rfl | rfl | rfl <;> assumption)) (by decide) ?_
              refine lv_iload hx hb dX3_then_164 (lv_at hl 0 rfl) ?_
              refine lv_if_eq (tgt := 173) hx hb dX3_then_166 (by decide) (fun hc => ?_) (fun hc => ?_)
              · have hF := ift hc hF
                refine lv_iload_n hx hb dX3_then_173 rfl (lv_at hl 3 rfl) ?_
                obtain rfl := Option.some.inj hF
                exact W.iret (v := x3) hx hb hr (fun t ht hW => ⟨⟨x3, (), rfl, rfl, QB.of ht hP hD⟩, hS.F ht⟩) hS.2.2 dX3_then_174
              · have hF := iff_ hc hF
                refine lv_iconst (v := nI 0) hx hb dX3_then_169 (by decide) ?_
                refine lv_goto (tgt := 174) hx hb dX3_then_170 (by decide) ?_
                obtain rfl := Option.some.inj hF
                exact W.iret (v := (nI 0)) hx hb hr (fun t ht hW => ⟨⟨(nI 0), (), rfl, rfl, QB.of ht hP hD⟩, hS.F ht⟩) hS.2.2 dX3_then_174
  refine lv_icmp_ne (tgt := 49) hx hb dX3_then_36 (by decide) (fun hc => ?_) (fun hc => ?_)
  · have hF := ift hc hF
    refine lv_iconst (v := nI 0) hx hb dX3_then_49 (by decide) ?_
    exact kJ50 p1 (g0W r5.toNatClampNeg) (g0W r13.toNatClampNeg) r24 (nI 0) _ _ _ hF hP hD hS (lv_sub hl [3, 4, 2, 1, 0] rfl)
  · have hF := iff_ (fun h => h hc) hF
    refine lv_iload hx hb dX3_then_39 (lv_at hl 0 rfl) ?_
    refine lv_iconst (v := nI 2) hx hb dX3_then_41 (by decide) ?_
    refine lv_icmp_lt (tgt := 49) hx hb dX3_then_42 (by decide) (fun hc => ?_) (fun hc => ?_)
    · have hF := ift hc hF
      refine lv_iconst (v := nI 0) hx hb dX3_then_49 (by decide) ?_
      exact kJ50 p1 (g0W r5.toNatClampNeg) (g0W r13.toNatClampNeg) r24 (nI 0) _ _ _ hF hP hD hS (lv_sub hl [3, 4, 2, 1, 0] rfl)
    · have hF := iff_ hc hF
      refine lv_iconst (v := nI 1) hx hb dX3_then_45 (by decide) ?_
      refine lv_goto (tgt := 50) hx hb dX3_then_46 (by decide) ?_
      exact kJ50 p1 (g0W r5.toNatClampNeg) (g0W r13.toNatClampNeg) r24 (nI 1) _ _ _ hF hP hD hS (lv_sub hl [3, 4, 2, 1, 0] rfl)
set_option maxHeartbeats 4000000 in
set_option maxRecDepth 100000 in
theorem c_X3_year (l : Launch) (dC : Nat → ClassId) (dI : Nat → Nat → Nat) (cI : ClassId) (sf : SFP) (sz : Nat) (N : Nat) (j00 : Nat) (g0W : FA) (r : (Int32 × FA)) (hF : F_X3_year N g0W = some r) : Met l yX3_year wsX3_year ({ frames := 4, cells := 0, slots := 0, locals := 92 }) (va_Pc [.ref j00] (PB (dC, dI) cI (cwA cI j00 g0W) sz sf)) (va_Qi (fun (z : Int32) (_ : Unit) => z = r.1) (fun _ t => QB (dC, dI) (cwA cI j00 r.2) (va_A (cwA cI j00 g0W) sz) t) (va_A (cwA cI j00 g0W) sz)) 0 0 (va_A (cwA cI j00 g0W) sz) := by
  refine Met.ofW (cc := cX3_year) (maxL := 5) (ret := (some .boolean)) (by decide) rfl ?_
  intro p e s m args below meth c s₁ B hml hv
  obtain ⟨rfl, hsz, hP, hK, hD0, hNN, hSF⟩ := hv
  have hx := B.exec
  have hb := B.bytes
  have hr := B.returns
  have hts := atoms_spec (ws := wsX3_year) B.pre
  have hown : s.vm.findClass RX3 = some m.cls := findClass_of_methodNamed B.named
  have hlocks := B.notSynchronized
  subst hsz
  have hD := hD0.self (sz := s.heap.size)
  generalize hAe : va_A (cwA cI j00 g0W) s.heap.size = A at hD hSF ⊢
  have hA : ∀ q : Nat, s.heap.size ≤ q → A q := fun q h => by rw [← hAe]; exact Or.inr h
  clear hAe hD0
  have hS : va_S A s.heap s.heap [] := va_S.rf
  have hl := lv_entry ([.ref j00]) (n := 5) (Nat.le_of_ble_eq_true rfl)
  rw [lg_entry_eq]
  generalize (lg_sl ([.ref j00]) ++ List.replicate (5 - (lg_sl ([.ref j00])).length) Slot.unset).toArray = ls at hl ⊢
  have hl : lv_has ls 5 [(0, .ref j00)] := hl
  rw [F_X3_year] at hF
  refine lv_iconst (v := nI 1) hx hb dX3_year_0 (by decide) ?_
  refine lv_istore_n (lv' := [(1, .int (nI 1)), (0, .ref j00)]) hx hb dX3_year_1 rfl hl (by decide) rfl (fun ls hl => ?_)
  refine lv_aload_n hx hb dX3_year_2 rfl (lv_at hl 1 rfl) ?_
  refine lv_iconst (v := nI 1) hx hb dX3_year_3 (by decide) ?_
  refine lv_dup2_11 hx hb dX3_year_4 rfl rfl ?_
  refine va_iald (D := (dC, dI)) hx hb hK hP 0 0 rfl rfl (vp_in_nI (n := 1) (N := 74) (by decide) (by decide)) dX3_year_5 ?_
  refine lv_iconst (v := nI 1) hx hb dX3_year_6 (by decide) ?_
  refine lv_iadd hx hb dX3_year_7 ?_
  refine va_iast (D := (dC, dI)) hx hb hK hP hD hS 0 0 rfl rfl (vp_in_nI (n := 1) (N := 74) (by decide) (by decide)) dX3_year_8 (fun H locs hP hD hS => ?_)
  have hP : va_P (dC, dI) vwCl (cwA cI j00 (upd g0W (nI 1).toNatClampNeg ((g0W (nI 1).toNatClampNeg) + (nI 1)))) H := hP
  have hD : va_D A (cwA cI j00 (upd g0W (nI 1).toNatClampNeg ((g0W (nI 1).toNatClampNeg) + (nI 1)))) := hD
  refine lv_iconst (v := nI 0) hx hb dX3_year_9 (by decide) ?_
  refine vW_have (fun R av Q => ∀ (n11 : Nat) (g0W : FA) (x1 : Int32) (x2 : Int32) (H : Heap) (locs : List Loc) (ls : Array Slot), F_X3_year_11 N n11 g0W x1 x2 = some r → va_P (dC, dI) vwCl (cwA cI j00 g0W) H → va_D A (cwA cI j00 g0W) → va_S A s.heap H locs → lv_has ls 5 [(0, .ref j00), (1, .int x1), (2, .int x2)] → W p l e R s m av below meth c H locs 0 0 Q (F0 m 11 ls [])) ?_ (fun kJ11 => ?_)
  · intro n11
    induction n11 with
    | zero => intro g0W x1 x2 H locs ls hF; exact nn hF
    | succ n11 ih11 =>
      intro g0W x1 x2 H locs ls hF hP hD hS hl
      rw [F_X3_year_11] at hF
      refine lv_iload_n hx hb dX3_year_11 rfl (lv_at hl 2 rfl) ?_
      refine lv_aload_n hx hb dX3_year_12 rfl (lv_at hl 0 rfl) ?_
      refine lv_iconst (v := nI 0) hx hb dX3_year_13 (by decide) ?_
      refine va_iald (D := (dC, dI)) hx hb hK hP 0 0 rfl rfl (vp_in_nI (n := 0) (N := 74) (by decide) (by decide)) dX3_year_14 ?_
      refine vW_have (fun R av Q => ∀ (g0W : FA) (x1 : Int32) (H : Heap) (locs : List Loc) (ls : Array Slot), F_X3_year_96 N g0W x1 = some r → va_P (dC, dI) vwCl (cwA cI j00 g0W) H → va_D A (cwA cI j00 g0W) → va_S A s.heap H locs → lv_has ls 5 [(0, .ref j00), (1, .int x1)] → W p l e R s m av below meth c H locs 0 0 Q (F0 m 96 ls [])) ?_ (fun kJ96 => ?_)
      · 
        intro g0W x1 H locs ls hF hP hD hS hl
        rw [F_X3_year_96] at hF
        refine lv_iconst (v := nI 0) hx hb dX3_year_96 (by decide) ?_
        refine vW_have (fun R av Q => ∀ (n98 : Nat) (g0W : FA) (x1 : Int32) (x2 : Int32) (H : Heap) (locs : List Loc) (ls : Array Slot), F_X3_year_98 N n98 g0W x1 x2 = some r → va_P (dC, dI) vwCl (cwA cI j00 g0W) H → va_D A (cwA cI j00 g0W) → va_S A s.heap H locs → lv_has ls 5 [(0, .ref j00), (1, .int x1), (2, .int x2)] → W p l e R s m av below meth c H locs 0 0 Q (F0 m 98 ls [])) ?_ (fun kJ98 => ?_)
        · intro n98
          induction n98 with
          | zero => intro g0W x1 x2 H locs ls hF; exact nn hF
          | succ n98 ih98 =>
            intro g0W x1 x2 H locs ls hF hP hD hS hl
            rw [F_X3_year_98] at hF
            refine lv_iload_n hx hb dX3_year_98 rfl (lv_at hl 2 rfl) ?_
            refine lv_aload_n hx hb dX3_year_99 rfl (lv_at hl 0 rfl) ?_
            refine lv_iconst (v := nI 0) hx hb dX3_year_100 (by decide) ?_
            refine va_iald (D := (dC, dI)) hx hb hK hP 0 0 rfl rfl (vp_in_nI (n := 0) (N := 74) (by decide) (by decide)) dX3_year_101 ?_
            refine lv_icmp_ge (tgt := 189) hx hb dX3_year_102 (by decide) (fun hc => ?_) (fun hc => ?_)
            · have hF := ift hc hF
              refine lv_iload_n hx hb dX3_year_189 rfl (lv_at hl 1 rfl) ?_
              refine ckb hF (fun hB hF => ?_)
              obtain rfl := Option.some.inj hF
              exact W.zret (v := x1) (ty := .boolean) hx hb hr hB.1 (fun t ht hW => ⟨⟨x1, (), rfl, rfl, QB.of ht hP hD⟩, hS.F ht⟩) hS.2.2 dX3_year_190
            · have hF := iff_ hc hF
              refine lv_iconst (v := nI 0) hx hb dX3_year_105 (by decide) ?_
              refine vW_have (fun R av Q => ∀ (n107 : Nat) (g0W : FA) (x1 : Int32) (x2 : Int32) (x3 : Int32) (H : Heap) (locs : List Loc) (ls : Array Slot), F_X3_year_107 N (fun cg0W cx1 cx2 => F_X3_year_98 N n98 cg0W cx1 cx2) n107 g0W x1 x2 x3 = some r → va_P (dC, dI) vwCl (cwA cI j00 g0W) H → va_D A (cwA cI j00 g0W) → va_S A s.heap H locs → lv_has ls 5 [(0, .ref j00), (1, .int x1), (2, .int x2), (3, .int x3)] → W p l e R s m av below meth c H locs 0 0 Q (F0 m 107 ls [])) ?_ (fun kJ107 => ?_)
              · intro n107
                induction n107 with
                | zero => intro g0W x1 x2 x3 H locs ls hF; exact nn hF
                | succ n107 ih107 =>
                  intro g0W x1 x2 x3 H locs ls hF hP hD hS hl
                  rw [F_X3_year_107] at hF
                  refine lv_iload_n hx hb dX3_year_107 rfl (lv_at hl 3 rfl) ?_
                  refine lv_bipush (v := nI 8) hx hb dX3_year_108 (by decide) ?_
                  refine vW_have (fun R av Q => ∀ (g0W : FA) (x1 : Int32) (x2 : Int32) (H : Heap) (locs : List Loc) (ls : Array Slot), F_X3_year_183 N (fun cg0W cx1 cx2 => F_X3_year_98 N n98 cg0W cx1 cx2) g0W x1 x2 = some r → va_P (dC, dI) vwCl (cwA cI j00 g0W) H → va_D A (cwA cI j00 g0W) → va_S A s.heap H locs → lv_has ls 5 [(0, .ref j00), (1, .int x1), (2, .int x2)] → W p l e R s m av below meth c H locs 0 0 Q (F0 m 183 ls [])) ?_ (fun kJ183 => ?_)
                  · 
                    intro g0W x1 x2 H locs ls hF hP hD hS hl
                    rw [F_X3_year_183] at hF
                    refine lv_iinc (v := x2 + (nI 1)) (lv' := [(2, .int (x2 + (nI 1))), (0, .ref j00), (1, .int x1)]) hx hb dX3_year_183 hl (k := 2) rfl (by rfl) (by decide) rfl (fun ls hl => ?_)
                    refine lv_goto (tgt := 98) hx hb dX3_year_186 (by decide) ?_
                    exact ih98 g0W x1 (x2 + (nI 1)) _ _ _ hF hP hD hS (lv_sub hl [1, 2, 0] rfl)
                  refine lv_icmp_ge (tgt := 183) hx hb dX3_year_110 (by decide) (fun hc => ?_) (fun hc => ?_)
                  · have hF := ift hc hF
                    exact kJ183 g0W x1 x2 _ _ _ hF hP hD hS (lv_sub hl [0, 1, 2] rfl)
                  · have hF := iff_ hc hF
                    refine lv_aload_n hx hb dX3_year_113 rfl (lv_at hl 0 rfl) ?_
                    refine lv_iload_n hx hb dX3_year_114 rfl (lv_at hl 2 rfl) ?_
                    have hPc := hP.sub (ws' := (cwA cI j00 g0W)) [0] rfl
                    have hDc := hD.sub (ws' := (cwA cI j00 g0W)) [0] (by decide) rfl
                    have hFc := va_free (wc := (cwA cI j00 g0W)) hD hS hA [0] rfl
                    refine bd hF (fun r115 hG hF => ?_)
                    refine va_calli (va_runS (As := [.ref j00, .int x2]) (rest := []) ⟨hx, hb, hml, hown, hts⟩ (c_X3_isAlive l dC dI cI sf H.size N j00 g0W x2 r115 hG) (va_cwS 2 hts gX3_year_X3_isAlive rfl rfl rfl (by decide +kernel) ⟨Nat.le_of_ble_eq_true rfl, Nat.le_of_ble_eq_true rfl⟩) ⟨fun a U g mk q => ⟨q.1, q.2.call⟩, fun U hU hW => ⟨rfl, PB.of hU hW hPc hK hDc hNN hSF hS hFc⟩⟩ rfl rfl hl.1 rfl (lv_room (Nat.le_of_ble_eq_true rfl)) dX3_year_115 ⟨Nat.le_of_ble_eq_true rfl, Nat.le_of_ble_eq_true rfl⟩) hS (fun q _ h => hFc q h) hFc (fun z_ u_ t H locs ht hvm hw hB hz1 hk1 hS => ?_)
                    subst z_
                    obtain ⟨hP1, hD1⟩ := hB
                    rw [ht] at hP1
                    have hJ := vb_join (ws' := (cwA cI j00 g0W)) hP hD [0] [] [0] rfl rfl (by decide) (by decide) hk1 hFc hP1 hD1 rfl (by decide) rfl
                    clear hP hD hPc hDc hFc hP1 hD1 hk1 hz1 ht hvm hG
                    obtain ⟨hP, hD⟩ := hJ
                    refine vW_have (fun R av Q => ∀ (g0W : FA) (x1 : Int32) (x2 : Int32) (x3 : Int32) (H : Heap) (locs : List Loc) (ls : Array Slot), F_X3_year_177 N (fun cg0W cx1 cx2 => F_X3_year_98 N n98 cg0W cx1 cx2) (fun cg0W cx1 cx2 cx3 => F_X3_year_107 N (fun cg0W cx1 cx2 => F_X3_year_98 N n98 cg0W cx1 cx2) n107 cg0W cx1 cx2 cx3) g0W x1 x2 x3 = some r → va_P (dC, dI) vwCl (cwA cI j00 g0W) H → va_D A (cwA cI j00 g0W) → va_S A s.heap H locs → lv_has ls 5 [(0, .ref j00), (1, .int x1), (2, .int x2), (3, .int x3)] → W p l e R s m av below meth c H locs 0 0 Q (F0 m 177 ls [])) ?_ (fun kJ177 => ?_)
                    · 
                      intro g0W x1 x2 x3 H locs ls hF hP hD hS hl
                      rw [F_X3_year_177] at hF
                      refine lv_iinc (v := x3 + (nI 1)) (lv' := [(3, .int (x3 + (nI 1))), (0, .ref j00), (1, .int x1), (2, .int x2)]) hx hb dX3_year_177 hl (k := 3) rfl (by rfl) (by decide) rfl (fun ls hl => ?_)
                      refine lv_goto (tgt := 107) hx hb dX3_year_180 (by decide) ?_
                      exact ih107 g0W x1 x2 (x3 + (nI 1)) _ _ _ hF hP hD hS (lv_sub hl [1, 2, 3, 0] rfl)
                    refine lv_if_eq (tgt := 177) hx hb dX3_year_118 (by decide) (fun hc => ?_) (fun hc => ?_)
                    · have hF := ift hc hF
                      exact kJ177 g0W x1 x2 x3 _ _ _ hF hP hD hS (lv_sub hl [0, 1, 2, 3] rfl)
                    · have hF := iff_ hc hF
                      refine lv_aload_n hx hb dX3_year_121 rfl (lv_at hl 0 rfl) ?_
                      refine lv_iload_n hx hb dX3_year_122 rfl (lv_at hl 2 rfl) ?_
                      refine lv_iconst (v := nI 4) hx hb dX3_year_123 (by decide) ?_
                      refine lv_iload_n hx hb dX3_year_124 rfl (lv_at hl 3 rfl) ?_
                      refine lv_iadd hx hb dX3_year_125 ?_
                      have hPc := hP.sub (ws' := ([] : va_W)) [] rfl
                      have hDc := hD.sub (ws' := ([] : va_W)) [] (by decide) rfl
                      have hFc := va_free (wc := ([] : va_W)) hD hS hA [] rfl
                      refine bd hF (fun r126 hG hF => ?_)
                      refine va_calli (va_runS (As := [.int x2, .int ((nI 4) + x3)]) (rest := [.ref j00]) ⟨hx, hb, hml, hown, hts⟩ (c_X3_of l dC dI cI sf H.size N  x2 ((nI 4) + x3) r126 hG) (va_cwS 2 hts gX3_year_X3_of rfl rfl rfl (by decide +kernel) ⟨Nat.le_of_ble_eq_true rfl, Nat.le_of_ble_eq_true rfl⟩) ⟨fun a U g mk q => ⟨q.1, q.2.call⟩, fun U hU hW => ⟨rfl, PB.of hU hW hPc hK hDc hNN hSF hS hFc⟩⟩ rfl rfl hl.1 rfl (lv_room (Nat.le_of_ble_eq_true rfl)) dX3_year_126 ⟨Nat.le_of_ble_eq_true rfl, Nat.le_of_ble_eq_true rfl⟩) hS (fun q _ h => hFc q h) hFc (fun z_ u_ t H locs ht hvm hw hB hz1 hk1 hS => ?_)
                      subst z_
                      obtain ⟨hP1, hD1⟩ := hB
                      rw [ht] at hP1
                      have hJ := vb_join (ws' := (cwA cI j00 g0W)) hP hD [] [0] [0] rfl rfl (by decide) (by decide) hk1 hFc hP1 hD1 rfl (by decide) rfl
                      clear hP hD hPc hDc hFc hP1 hD1 hk1 hz1 ht hvm hG
                      obtain ⟨hP, hD⟩ := hJ
                      refine cki hF (fun hi hF => ?_)
                      refine va_iald (D := (dC, dI)) hx hb hK hP 0 0 rfl rfl hi dX3_year_129 ?_
                      refine lv_if_ne (tgt := 136) hx hb dX3_year_130 (by decide) (fun hc => ?_) (fun hc => ?_)
                      · have hF := ift hc hF
                        refine lv_aload_n hx hb dX3_year_136 rfl (lv_at hl 0 rfl) ?_
                        refine lv_iload_n hx hb dX3_year_137 rfl (lv_at hl 2 rfl) ?_
                        refine lv_iload_n hx hb dX3_year_138 rfl (lv_at hl 3 rfl) ?_
                        have hPc := hP.sub (ws' := (cwA cI j00 g0W)) [0] rfl
                        have hDc := hD.sub (ws' := (cwA cI j00 g0W)) [0] (by decide) rfl
                        have hFc := va_free (wc := (cwA cI j00 g0W)) hD hS hA [0] rfl
                        refine bd hF (fun r139 hG hF => ?_)
                        refine va_calli (va_runS (As := [.ref j00, .int x2, .int x3]) (rest := []) ⟨hx, hb, hml, hown, hts⟩ (c_X3_then l dC dI cI sf H.size N j00 g0W x2 x3 r139 hG) (va_cwS 3 hts gX3_year_X3_then rfl rfl rfl (by decide +kernel) ⟨Nat.le_of_ble_eq_true rfl, Nat.le_of_ble_eq_true rfl⟩) ⟨fun a U g mk q => ⟨q.1, q.2.call⟩, fun U hU hW => ⟨rfl, PB.of hU hW hPc hK hDc hNN hSF hS hFc⟩⟩ rfl rfl hl.1 rfl (lv_room (Nat.le_of_ble_eq_true rfl)) dX3_year_139 ⟨Nat.le_of_ble_eq_true rfl, Nat.le_of_ble_eq_true rfl⟩) hS (fun q _ h => hFc q h) hFc (fun z_ u_ t H locs ht hvm hw hB hz1 hk1 hS => ?_)
                        subst z_
                        obtain ⟨hP1, hD1⟩ := hB
                        rw [ht] at hP1
                        have hJ := vb_join (ws' := (cwA cI j00 g0W)) hP hD [0] [] [0] rfl rfl (by decide) (by decide) hk1 hFc hP1 hD1 rfl (by decide) rfl
                        clear hP hD hPc hDc hFc hP1 hD1 hk1 hz1 ht hvm hG
                        obtain ⟨hP, hD⟩ := hJ
                        refine lv_istore (lv' := [(4, .int r139), (0, .ref j00), (1, .int x1), (2, .int x2), (3, .int x3)]) hx hb dX3_year_142 hl (by decide) rfl (fun ls hl => ?_)
                        refine lv_iload_n hx hb dX3_year_144 rfl (lv_at hl 2 rfl) ?_
                        refine lv_iload hx hb dX3_year_145 (lv_at hl 0 rfl) ?_
                        refine lv_aload_n hx hb dX3_year_147 rfl (lv_at hl 1 rfl) ?_
                        refine lv_iload_n hx hb dX3_year_148 rfl (lv_at hl 3 rfl) ?_
                        refine lv_iconst (v := nI 4) hx hb dX3_year_149 (by decide) ?_
                        refine lv_iload_n hx hb dX3_year_150 rfl (lv_at hl 4 rfl) ?_
                        refine lv_iadd hx hb dX3_year_151 ?_
                        have hPc := hP.sub (ws' := ([] : va_W)) [] rfl
                        have hDc := hD.sub (ws' := ([] : va_W)) [] (by decide) rfl
                        have hFc := va_free (wc := ([] : va_W)) hD hS hA [] rfl
                        refine bd hF (fun r152 hG hF => ?_)
                        refine va_calli (va_runS (As := [.int x2, .int ((nI 4) + x3)]) (rest := [.ref j00, .int r139, .int x1]) ⟨hx, hb, hml, hown, hts⟩ (c_X3_of l dC dI cI sf H.size N  x2 ((nI 4) + x3) r152 hG) (va_cwS 2 hts gX3_year_X3_of rfl rfl rfl (by decide +kernel) ⟨Nat.le_of_ble_eq_true rfl, Nat.le_of_ble_eq_true rfl⟩) ⟨fun a U g mk q => ⟨q.1, q.2.call⟩, fun U hU hW => ⟨rfl, PB.of hU hW hPc hK hDc hNN hSF hS hFc⟩⟩ rfl rfl hl.1 rfl (lv_room (Nat.le_of_ble_eq_true rfl)) dX3_year_152 ⟨Nat.le_of_ble_eq_true rfl, Nat.le_of_ble_eq_true rfl⟩) hS (fun q _ h => hFc q h) hFc (fun z_ u_ t H locs ht hvm hw hB hz1 hk1 hS => ?_)
                        subst z_
                        obtain ⟨hP1, hD1⟩ := hB
                        rw [ht] at hP1
                        have hJ := vb_join (ws' := (cwA cI j00 g0W)) hP hD [] [0] [0] rfl rfl (by decide) (by decide) hk1 hFc hP1 hD1 rfl (by decide) rfl
                        clear hP hD hPc hDc hFc hP1 hD1 hk1 hz1 ht hvm hG
                        obtain ⟨hP, hD⟩ := hJ
                        refine cki hF (fun hi hF => ?_)
                        refine va_iald (D := (dC, dI)) hx hb hK hP 0 0 rfl rfl hi dX3_year_155 ?_
                        refine vW_have (fun R av Q => ∀ (g0W : FA) (x2 : Int32) (x3 : Int32) (x4 : Int32) (z0 : Int32) (z1 : Int32) (H : Heap) (locs : List Loc) (ls : Array Slot), F_X3_year_164 N (fun cg0W cx1 cx2 => F_X3_year_98 N n98 cg0W cx1 cx2) (fun cg0W cx1 cx2 cx3 => F_X3_year_107 N (fun cg0W cx1 cx2 => F_X3_year_98 N n98 cg0W cx1 cx2) n107 cg0W cx1 cx2 cx3) g0W x2 x3 x4 z0 z1 = some r → va_P (dC, dI) vwCl (cwA cI j00 g0W) H → va_D A (cwA cI j00 g0W) → va_S A s.heap H locs → lv_has ls 5 [(0, .ref j00), (2, .int x2), (3, .int x3), (4, .int x4)] → W p l e R s m av below meth c H locs 0 0 Q (F0 m 164 ls [.int z1, .int z0])) ?_ (fun kJ164 => ?_)
                        · 
                          intro g0W x2 x3 x4 z0 z1 H locs ls hF hP hD hS hl
                          rw [F_X3_year_164] at hF
                          refine lv_iand hx hb dX3_year_164 ?_
                          refine lv_istore_n (lv' := [(1, .int (z0 &&& z1)), (0, .ref j00), (2, .int x2), (3, .int x3), (4, .int x4)]) hx hb dX3_year_165 rfl hl (by decide) rfl (fun ls hl => ?_)
                          refine lv_aload_n hx hb dX3_year_166 rfl (lv_at hl 1 rfl) ?_
                          refine lv_iload_n hx hb dX3_year_167 rfl (lv_at hl 2 rfl) ?_
                          refine lv_iconst (v := nI 4) hx hb dX3_year_168 (by decide) ?_
                          refine lv_iload_n hx hb dX3_year_169 rfl (lv_at hl 3 rfl) ?_
                          refine lv_iadd hx hb dX3_year_170 ?_
                          have hPc := hP.sub (ws' := ([] : va_W)) [] rfl
                          have hDc := hD.sub (ws' := ([] : va_W)) [] (by decide) rfl
                          have hFc := va_free (wc := ([] : va_W)) hD hS hA [] rfl
                          refine bd hF (fun r171 hG hF => ?_)
                          refine va_calli (va_runS (As := [.int x2, .int ((nI 4) + x3)]) (rest := [.ref j00]) ⟨hx, hb, hml, hown, hts⟩ (c_X3_of l dC dI cI sf H.size N  x2 ((nI 4) + x3) r171 hG) (va_cwS 2 hts gX3_year_X3_of rfl rfl rfl (by decide +kernel) ⟨Nat.le_of_ble_eq_true rfl, Nat.le_of_ble_eq_true rfl⟩) ⟨fun a U g mk q => ⟨q.1, q.2.call⟩, fun U hU hW => ⟨rfl, PB.of hU hW hPc hK hDc hNN hSF hS hFc⟩⟩ rfl rfl hl.1 rfl (lv_room (Nat.le_of_ble_eq_true rfl)) dX3_year_171 ⟨Nat.le_of_ble_eq_true rfl, Nat.le_of_ble_eq_true rfl⟩) hS (fun q _ h => hFc q h) hFc (fun z_ u_ t H locs ht hvm hw hB hz1 hk1 hS => ?_)
                          subst z_
                          obtain ⟨hP1, hD1⟩ := hB
                          rw [ht] at hP1
                          have hJ := vb_join (ws' := (cwA cI j00 g0W)) hP hD [] [0] [0] rfl rfl (by decide) (by decide) hk1 hFc hP1 hD1 rfl (by decide) rfl
                          clear hP hD hPc hDc hFc hP1 hD1 hk1 hz1 ht hvm hG
                          obtain ⟨hP, hD⟩ := hJ
                          refine lv_iload hx hb dX3_year_174 (lv_at hl 4 rfl) ?_
                          refine cki hF (fun hi hF => ?_)
                          refine va_iast (D := (dC, dI)) hx hb hK hP hD hS 0 0 rfl rfl hi dX3_year_176 (fun H locs hP hD hS => ?_)
                          have hP : va_P (dC, dI) vwCl (cwA cI j00 (upd g0W r171.toNatClampNeg x4)) H := hP
                          have hD : va_D A (cwA cI j00 (upd g0W r171.toNatClampNeg x4)) := hD
                          exact kJ177 (upd g0W r171.toNatClampNeg x4) (z0 &&& z1) x2 x3 _ _ _ hF hP hD hS (lv_sub hl [1, 0, 2, 3] rfl)
                        refine lv_icmp_ne (tgt := 163) hx hb dX3_year_156 (by decide) (fun hc => ?_) (fun hc => ?_)
                        · have hF := ift hc hF
                          refine lv_iconst (v := nI 0) hx hb dX3_year_163 (by decide) ?_
                          exact kJ164 g0W x2 x3 r139 x1 (nI 0) _ _ _ hF hP hD hS (lv_sub hl [1, 3, 4, 0] rfl)
                        · have hF := iff_ (fun h => h hc) hF
                          refine lv_iconst (v := nI 1) hx hb dX3_year_159 (by decide) ?_
                          refine lv_goto (tgt := 164) hx hb dX3_year_160 (by decide) ?_
                          exact kJ164 g0W x2 x3 r139 x1 (nI 1) _ _ _ hF hP hD hS (lv_sub hl [1, 3, 4, 0] rfl)
                      · have hF := iff_ (fun h => h hc) hF
                        refine lv_goto (tgt := 177) hx hb dX3_year_133 (by decide) ?_
                        exact kJ177 g0W x1 x2 x3 _ _ _ hF hP hD hS (lv_sub hl [0, 1, 2, 3] rfl)
              refine lv_istore_n (lv' := [(3, .int (nI 0)), (0, .ref j00), (1, .int x1), (2, .int x2)]) hx hb dX3_year_106 rfl hl (by decide) rfl (fun ls hl => ?_)
              exact kJ107 N g0W x1 x2 (nI 0) _ _ _ hF hP hD hS (lv_sub hl [1, 2, 3, 0] rfl)
        refine lv_istore_n (lv' := [(2, .int (nI 0)), (0, .ref j00), (1, .int x1)]) hx hb dX3_year_97 rfl hl (by decide) rfl (fun ls hl => ?_)
        exact kJ98 N g0W x1 (nI 0) _ _ _ hF hP hD hS (lv_sub hl [1, 2, 0] rfl)
      refine lv_icmp_ge (tgt := 96) hx hb dX3_year_15 (by decide) (fun hc => ?_) (fun hc => ?_)
      · have hF := ift hc hF
        exact kJ96 g0W x1 _ _ _ hF hP hD hS (lv_sub hl [0, 1] rfl)
      · have hF := iff_ hc hF
        refine lv_aload_n hx hb dX3_year_18 rfl (lv_at hl 0 rfl) ?_
        refine lv_iload_n hx hb dX3_year_19 rfl (lv_at hl 2 rfl) ?_
        have hPc := hP.sub (ws' := (cwA cI j00 g0W)) [0] rfl
        have hDc := hD.sub (ws' := (cwA cI j00 g0W)) [0] (by decide) rfl
        have hFc := va_free (wc := (cwA cI j00 g0W)) hD hS hA [0] rfl
        refine bd hF (fun r20 hG hF => ?_)
        refine va_calli (va_runS (As := [.ref j00, .int x2]) (rest := []) ⟨hx, hb, hml, hown, hts⟩ (c_X3_isAlive l dC dI cI sf H.size N j00 g0W x2 r20 hG) (va_cwS 2 hts gX3_year_X3_isAlive rfl rfl rfl (by decide +kernel) ⟨Nat.le_of_ble_eq_true rfl, Nat.le_of_ble_eq_true rfl⟩) ⟨fun a U g mk q => ⟨q.1, q.2.call⟩, fun U hU hW => ⟨rfl, PB.of hU hW hPc hK hDc hNN hSF hS hFc⟩⟩ rfl rfl hl.1 rfl (lv_room (Nat.le_of_ble_eq_true rfl)) dX3_year_20 ⟨Nat.le_of_ble_eq_true rfl, Nat.le_of_ble_eq_true rfl⟩) hS (fun q _ h => hFc q h) hFc (fun z_ u_ t H locs ht hvm hw hB hz1 hk1 hS => ?_)
        subst z_
        obtain ⟨hP1, hD1⟩ := hB
        rw [ht] at hP1
        have hJ := vb_join (ws' := (cwA cI j00 g0W)) hP hD [0] [] [0] rfl rfl (by decide) (by decide) hk1 hFc hP1 hD1 rfl (by decide) rfl
        clear hP hD hPc hDc hFc hP1 hD1 hk1 hz1 ht hvm hG
        obtain ⟨hP, hD⟩ := hJ
        refine vW_have (fun R av Q => ∀ (g0W : FA) (x1 : Int32) (x2 : Int32) (H : Heap) (locs : List Loc) (ls : Array Slot), F_X3_year_90 N (fun cg0W cx1 cx2 => F_X3_year_11 N n11 cg0W cx1 cx2) g0W x1 x2 = some r → va_P (dC, dI) vwCl (cwA cI j00 g0W) H → va_D A (cwA cI j00 g0W) → va_S A s.heap H locs → lv_has ls 5 [(0, .ref j00), (1, .int x1), (2, .int x2)] → W p l e R s m av below meth c H locs 0 0 Q (F0 m 90 ls [])) ?_ (fun kJ90 => ?_)
        · 
          intro g0W x1 x2 H locs ls hF hP hD hS hl
          rw [F_X3_year_90] at hF
          refine lv_iinc (v := x2 + (nI 1)) (lv' := [(2, .int (x2 + (nI 1))), (0, .ref j00), (1, .int x1)]) hx hb dX3_year_90 hl (k := 2) rfl (by rfl) (by decide) rfl (fun ls hl => ?_)
          refine lv_goto (tgt := 11) hx hb dX3_year_93 (by decide) ?_
          exact ih11 g0W x1 (x2 + (nI 1)) _ _ _ hF hP hD hS (lv_sub hl [1, 2, 0] rfl)
        refine lv_if_ne (tgt := 29) hx hb dX3_year_23 (by decide) (fun hc => ?_) (fun hc => ?_)
        · have hF := ift hc hF
          refine lv_aload_n hx hb dX3_year_29 rfl (lv_at hl 0 rfl) ?_
          refine lv_iload_n hx hb dX3_year_30 rfl (lv_at hl 2 rfl) ?_
          refine lv_iconst (v := nI 2) hx hb dX3_year_31 (by decide) ?_
          have hPc := hP.sub (ws' := ([] : va_W)) [] rfl
          have hDc := hD.sub (ws' := ([] : va_W)) [] (by decide) rfl
          have hFc := va_free (wc := ([] : va_W)) hD hS hA [] rfl
          refine bd hF (fun r32 hG hF => ?_)
          refine va_calli (va_runS (As := [.int x2, .int (nI 2)]) (rest := [.ref j00]) ⟨hx, hb, hml, hown, hts⟩ (c_X3_of l dC dI cI sf H.size N  x2 (nI 2) r32 hG) (va_cwS 2 hts gX3_year_X3_of rfl rfl rfl (by decide +kernel) ⟨Nat.le_of_ble_eq_true rfl, Nat.le_of_ble_eq_true rfl⟩) ⟨fun a U g mk q => ⟨q.1, q.2.call⟩, fun U hU hW => ⟨rfl, PB.of hU hW hPc hK hDc hNN hSF hS hFc⟩⟩ rfl rfl hl.1 rfl (lv_room (Nat.le_of_ble_eq_true rfl)) dX3_year_32 ⟨Nat.le_of_ble_eq_true rfl, Nat.le_of_ble_eq_true rfl⟩) hS (fun q _ h => hFc q h) hFc (fun z_ u_ t H locs ht hvm hw hB hz1 hk1 hS => ?_)
          subst z_
          obtain ⟨hP1, hD1⟩ := hB
          rw [ht] at hP1
          have hJ := vb_join (ws' := (cwA cI j00 g0W)) hP hD [] [0] [0] rfl rfl (by decide) (by decide) hk1 hFc hP1 hD1 rfl (by decide) rfl
          clear hP hD hPc hDc hFc hP1 hD1 hk1 hz1 ht hvm hG
          obtain ⟨hP, hD⟩ := hJ
          refine lv_bipush (v := nI 99) hx hb dX3_year_35 (by decide) ?_
          refine lv_aload_n hx hb dX3_year_37 rfl (lv_at hl 0 rfl) ?_
          refine lv_iload_n hx hb dX3_year_38 rfl (lv_at hl 2 rfl) ?_
          refine lv_iconst (v := nI 2) hx hb dX3_year_39 (by decide) ?_
          have hPc := hP.sub (ws' := ([] : va_W)) [] rfl
          have hDc := hD.sub (ws' := ([] : va_W)) [] (by decide) rfl
          have hFc := va_free (wc := ([] : va_W)) hD hS hA [] rfl
          refine bd hF (fun r40 hG hF => ?_)
          refine va_calli (va_runS (As := [.int x2, .int (nI 2)]) (rest := [.ref j00, .int (nI 99), .int r32, .ref j00]) ⟨hx, hb, hml, hown, hts⟩ (c_X3_of l dC dI cI sf H.size N  x2 (nI 2) r40 hG) (va_cwS 2 hts gX3_year_X3_of rfl rfl rfl (by decide +kernel) ⟨Nat.le_of_ble_eq_true rfl, Nat.le_of_ble_eq_true rfl⟩) ⟨fun a U g mk q => ⟨q.1, q.2.call⟩, fun U hU hW => ⟨rfl, PB.of hU hW hPc hK hDc hNN hSF hS hFc⟩⟩ rfl rfl hl.1 rfl (lv_room (Nat.le_of_ble_eq_true rfl)) dX3_year_40 ⟨Nat.le_of_ble_eq_true rfl, Nat.le_of_ble_eq_true rfl⟩) hS (fun q _ h => hFc q h) hFc (fun z_ u_ t H locs ht hvm hw hB hz1 hk1 hS => ?_)
          subst z_
          obtain ⟨hP1, hD1⟩ := hB
          rw [ht] at hP1
          have hJ := vb_join (ws' := (cwA cI j00 g0W)) hP hD [] [0] [0] rfl rfl (by decide) (by decide) hk1 hFc hP1 hD1 rfl (by decide) rfl
          clear hP hD hPc hDc hFc hP1 hD1 hk1 hz1 ht hvm hG
          obtain ⟨hP, hD⟩ := hJ
          refine cki hF (fun hi hF => ?_)
          refine va_iald (D := (dC, dI)) hx hb hK hP 0 0 rfl rfl hi dX3_year_43 ?_
          refine lv_iconst (v := nI 1) hx hb dX3_year_44 (by decide) ?_
          refine lv_iadd hx hb dX3_year_45 ?_
          have hPc := hP.sub (ws' := ([] : va_W)) [] rfl
          have hDc := hD.sub (ws' := ([] : va_W)) [] (by decide) rfl
          have hFc := va_free (wc := ([] : va_W)) hD hS hA [] rfl
          refine bd hF (fun r46 hG hF => ?_)
          refine va_calli (va_runS (As := [.int (nI 99), .int ((g0W r40.toNatClampNeg) + (nI 1))]) (rest := [.int r32, .ref j00]) ⟨hx, hb, hml, hown, hts⟩ (c_X3_least l dC dI cI sf H.size N  (nI 99) ((g0W r40.toNatClampNeg) + (nI 1)) r46 hG) (va_cwS 2 hts gX3_year_X3_least rfl rfl rfl (by decide +kernel) ⟨Nat.le_of_ble_eq_true rfl, Nat.le_of_ble_eq_true rfl⟩) ⟨fun a U g mk q => ⟨q.1, q.2.call⟩, fun U hU hW => ⟨rfl, PB.of hU hW hPc hK hDc hNN hSF hS hFc⟩⟩ rfl rfl hl.1 rfl (lv_room (Nat.le_of_ble_eq_true rfl)) dX3_year_46 ⟨Nat.le_of_ble_eq_true rfl, Nat.le_of_ble_eq_true rfl⟩) hS (fun q _ h => hFc q h) hFc (fun z_ u_ t H locs ht hvm hw hB hz1 hk1 hS => ?_)
          subst z_
          obtain ⟨hP1, hD1⟩ := hB
          rw [ht] at hP1
          have hJ := vb_join (ws' := (cwA cI j00 g0W)) hP hD [] [0] [0] rfl rfl (by decide) (by decide) hk1 hFc hP1 hD1 rfl (by decide) rfl
          clear hP hD hPc hDc hFc hP1 hD1 hk1 hz1 ht hvm hG
          obtain ⟨hP, hD⟩ := hJ
          refine cki hF (fun hi hF => ?_)
          refine va_iast (D := (dC, dI)) hx hb hK hP hD hS 0 0 rfl rfl hi dX3_year_49 (fun H locs hP hD hS => ?_)
          have hP : va_P (dC, dI) vwCl (cwA cI j00 (upd g0W r32.toNatClampNeg r46)) H := hP
          have hD : va_D A (cwA cI j00 (upd g0W r32.toNatClampNeg r46)) := hD
          refine lv_aload_n hx hb dX3_year_50 rfl (lv_at hl 0 rfl) ?_
          refine lv_iload_n hx hb dX3_year_51 rfl (lv_at hl 2 rfl) ?_
          refine lv_iconst (v := nI 2) hx hb dX3_year_52 (by decide) ?_
          have hPc := hP.sub (ws' := ([] : va_W)) [] rfl
          have hDc := hD.sub (ws' := ([] : va_W)) [] (by decide) rfl
          have hFc := va_free (wc := ([] : va_W)) hD hS hA [] rfl
          refine bd hF (fun r53 hG hF => ?_)
          refine va_calli (va_runS (As := [.int x2, .int (nI 2)]) (rest := [.ref j00]) ⟨hx, hb, hml, hown, hts⟩ (c_X3_of l dC dI cI sf H.size N  x2 (nI 2) r53 hG) (va_cwS 2 hts gX3_year_X3_of rfl rfl rfl (by decide +kernel) ⟨Nat.le_of_ble_eq_true rfl, Nat.le_of_ble_eq_true rfl⟩) ⟨fun a U g mk q => ⟨q.1, q.2.call⟩, fun U hU hW => ⟨rfl, PB.of hU hW hPc hK hDc hNN hSF hS hFc⟩⟩ rfl rfl hl.1 rfl (lv_room (Nat.le_of_ble_eq_true rfl)) dX3_year_53 ⟨Nat.le_of_ble_eq_true rfl, Nat.le_of_ble_eq_true rfl⟩) hS (fun q _ h => hFc q h) hFc (fun z_ u_ t H locs ht hvm hw hB hz1 hk1 hS => ?_)
          subst z_
          obtain ⟨hP1, hD1⟩ := hB
          rw [ht] at hP1
          have hJ := vb_join (ws' := (cwA cI j00 (upd g0W r32.toNatClampNeg r46))) hP hD [] [0] [0] rfl rfl (by decide) (by decide) hk1 hFc hP1 hD1 rfl (by decide) rfl
          clear hP hD hPc hDc hFc hP1 hD1 hk1 hz1 ht hvm hG
          obtain ⟨hP, hD⟩ := hJ
          refine cki hF (fun hi hF => ?_)
          refine va_iald (D := (dC, dI)) hx hb hK hP 0 0 rfl rfl hi dX3_year_56 ?_
          refine lv_aload_n hx hb dX3_year_57 rfl (lv_at hl 0 rfl) ?_
          refine lv_iload_n hx hb dX3_year_58 rfl (lv_at hl 2 rfl) ?_
          refine lv_iconst (v := nI 0) hx hb dX3_year_59 (by decide) ?_
          have hPc := hP.sub (ws' := ([] : va_W)) [] rfl
          have hDc := hD.sub (ws' := ([] : va_W)) [] (by decide) rfl
          have hFc := va_free (wc := ([] : va_W)) hD hS hA [] rfl
          refine bd hF (fun r60 hG hF => ?_)
          refine va_calli (va_runS (As := [.int x2, .int (nI 0)]) (rest := [.ref j00, .int ((upd g0W r32.toNatClampNeg r46) r53.toNatClampNeg)]) ⟨hx, hb, hml, hown, hts⟩ (c_X3_of l dC dI cI sf H.size N  x2 (nI 0) r60 hG) (va_cwS 2 hts gX3_year_X3_of rfl rfl rfl (by decide +kernel) ⟨Nat.le_of_ble_eq_true rfl, Nat.le_of_ble_eq_true rfl⟩) ⟨fun a U g mk q => ⟨q.1, q.2.call⟩, fun U hU hW => ⟨rfl, PB.of hU hW hPc hK hDc hNN hSF hS hFc⟩⟩ rfl rfl hl.1 rfl (lv_room (Nat.le_of_ble_eq_true rfl)) dX3_year_60 ⟨Nat.le_of_ble_eq_true rfl, Nat.le_of_ble_eq_true rfl⟩) hS (fun q _ h => hFc q h) hFc (fun z_ u_ t H locs ht hvm hw hB hz1 hk1 hS => ?_)
          subst z_
          obtain ⟨hP1, hD1⟩ := hB
          rw [ht] at hP1
          have hJ := vb_join (ws' := (cwA cI j00 (upd g0W r32.toNatClampNeg r46))) hP hD [] [0] [0] rfl rfl (by decide) (by decide) hk1 hFc hP1 hD1 rfl (by decide) rfl
          clear hP hD hPc hDc hFc hP1 hD1 hk1 hz1 ht hvm hG
          obtain ⟨hP, hD⟩ := hJ
          refine cki hF (fun hi hF => ?_)
          refine va_iald (D := (dC, dI)) hx hb hK hP 0 0 rfl rfl hi dX3_year_63 ?_
          refine lv_aload_n hx hb dX3_year_64 rfl (lv_at hl 0 rfl) ?_
          refine lv_iload_n hx hb dX3_year_65 rfl (lv_at hl 2 rfl) ?_
          refine lv_iconst (v := nI 1) hx hb dX3_year_66 (by decide) ?_
          have hPc := hP.sub (ws' := ([] : va_W)) [] rfl
          have hDc := hD.sub (ws' := ([] : va_W)) [] (by decide) rfl
          have hFc := va_free (wc := ([] : va_W)) hD hS hA [] rfl
          refine bd hF (fun r67 hG hF => ?_)
          refine va_calli (va_runS (As := [.int x2, .int (nI 1)]) (rest := [.ref j00, .int ((upd g0W r32.toNatClampNeg r46) r60.toNatClampNeg), .int ((upd g0W r32.toNatClampNeg r46) r53.toNatClampNeg)]) ⟨hx, hb, hml, hown, hts⟩ (c_X3_of l dC dI cI sf H.size N  x2 (nI 1) r67 hG) (va_cwS 2 hts gX3_year_X3_of rfl rfl rfl (by decide +kernel) ⟨Nat.le_of_ble_eq_true rfl, Nat.le_of_ble_eq_true rfl⟩) ⟨fun a U g mk q => ⟨q.1, q.2.call⟩, fun U hU hW => ⟨rfl, PB.of hU hW hPc hK hDc hNN hSF hS hFc⟩⟩ rfl rfl hl.1 rfl (lv_room (Nat.le_of_ble_eq_true rfl)) dX3_year_67 ⟨Nat.le_of_ble_eq_true rfl, Nat.le_of_ble_eq_true rfl⟩) hS (fun q _ h => hFc q h) hFc (fun z_ u_ t H locs ht hvm hw hB hz1 hk1 hS => ?_)
          subst z_
          obtain ⟨hP1, hD1⟩ := hB
          rw [ht] at hP1
          have hJ := vb_join (ws' := (cwA cI j00 (upd g0W r32.toNatClampNeg r46))) hP hD [] [0] [0] rfl rfl (by decide) (by decide) hk1 hFc hP1 hD1 rfl (by decide) rfl
          clear hP hD hPc hDc hFc hP1 hD1 hk1 hz1 ht hvm hG
          obtain ⟨hP, hD⟩ := hJ
          refine cki hF (fun hi hF => ?_)
          refine va_iald (D := (dC, dI)) hx hb hK hP 0 0 rfl rfl hi dX3_year_70 ?_
          have hPc := hP.sub (ws' := ([] : va_W)) [] rfl
          have hDc := hD.sub (ws' := ([] : va_W)) [] (by decide) rfl
          have hFc := va_free (wc := ([] : va_W)) hD hS hA [] rfl
          refine bd hF (fun r71 hG hF => ?_)
          refine va_calli (va_runS (As := [.int ((upd g0W r32.toNatClampNeg r46) r60.toNatClampNeg), .int ((upd g0W r32.toNatClampNeg r46) r67.toNatClampNeg)]) (rest := [.int ((upd g0W r32.toNatClampNeg r46) r53.toNatClampNeg)]) ⟨hx, hb, hml, hown, hts⟩ (c_X3_life l dC dI cI sf H.size N  ((upd g0W r32.toNatClampNeg r46) r60.toNatClampNeg) ((upd g0W r32.toNatClampNeg r46) r67.toNatClampNeg) r71 hG) (va_cwS 2 hts gX3_year_X3_life rfl rfl rfl (by decide +kernel) ⟨Nat.le_of_ble_eq_true rfl, Nat.le_of_ble_eq_true rfl⟩) ⟨fun a U g mk q => ⟨q.1, q.2.call⟩, fun U hU hW => ⟨rfl, PB.of hU hW hPc hK hDc hNN hSF hS hFc⟩⟩ rfl rfl hl.1 rfl (lv_room (Nat.le_of_ble_eq_true rfl)) dX3_year_71 ⟨Nat.le_of_ble_eq_true rfl, Nat.le_of_ble_eq_true rfl⟩) hS (fun q _ h => hFc q h) hFc (fun z_ u_ t H locs ht hvm hw hB hz1 hk1 hS => ?_)
          subst z_
          obtain ⟨hP1, hD1⟩ := hB
          rw [ht] at hP1
          have hJ := vb_join (ws' := (cwA cI j00 (upd g0W r32.toNatClampNeg r46))) hP hD [] [0] [0] rfl rfl (by decide) (by decide) hk1 hFc hP1 hD1 rfl (by decide) rfl
          clear hP hD hPc hDc hFc hP1 hD1 hk1 hz1 ht hvm hG
          obtain ⟨hP, hD⟩ := hJ
          refine lv_icmp_ge (tgt := 80) hx hb dX3_year_74 (by decide) (fun hc => ?_) (fun hc => ?_)
          · have hF := ift hc hF
            refine lv_aload_n hx hb dX3_year_80 rfl (lv_at hl 0 rfl) ?_
            refine lv_iload_n hx hb dX3_year_81 rfl (lv_at hl 2 rfl) ?_
            refine lv_iconst (v := nI 3) hx hb dX3_year_82 (by decide) ?_
            have hPc := hP.sub (ws' := ([] : va_W)) [] rfl
            have hDc := hD.sub (ws' := ([] : va_W)) [] (by decide) rfl
            have hFc := va_free (wc := ([] : va_W)) hD hS hA [] rfl
            refine bd hF (fun r83 hG hF => ?_)
            refine va_calli (va_runS (As := [.int x2, .int (nI 3)]) (rest := [.ref j00]) ⟨hx, hb, hml, hown, hts⟩ (c_X3_of l dC dI cI sf H.size N  x2 (nI 3) r83 hG) (va_cwS 2 hts gX3_year_X3_of rfl rfl rfl (by decide +kernel) ⟨Nat.le_of_ble_eq_true rfl, Nat.le_of_ble_eq_true rfl⟩) ⟨fun a U g mk q => ⟨q.1, q.2.call⟩, fun U hU hW => ⟨rfl, PB.of hU hW hPc hK hDc hNN hSF hS hFc⟩⟩ rfl rfl hl.1 rfl (lv_room (Nat.le_of_ble_eq_true rfl)) dX3_year_83 ⟨Nat.le_of_ble_eq_true rfl, Nat.le_of_ble_eq_true rfl⟩) hS (fun q _ h => hFc q h) hFc (fun z_ u_ t H locs ht hvm hw hB hz1 hk1 hS => ?_)
            subst z_
            obtain ⟨hP1, hD1⟩ := hB
            rw [ht] at hP1
            have hJ := vb_join (ws' := (cwA cI j00 (upd g0W r32.toNatClampNeg r46))) hP hD [] [0] [0] rfl rfl (by decide) (by decide) hk1 hFc hP1 hD1 rfl (by decide) rfl
            clear hP hD hPc hDc hFc hP1 hD1 hk1 hz1 ht hvm hG
            obtain ⟨hP, hD⟩ := hJ
            refine lv_iconst (v := nI 1) hx hb dX3_year_86 (by decide) ?_
            refine cki hF (fun hi hF => ?_)
            refine va_iast (D := (dC, dI)) hx hb hK hP hD hS 0 0 rfl rfl hi dX3_year_87 (fun H locs hP hD hS => ?_)
            have hP : va_P (dC, dI) vwCl (cwA cI j00 (upd (upd g0W r32.toNatClampNeg r46) r83.toNatClampNeg (nI 1))) H := hP
            have hD : va_D A (cwA cI j00 (upd (upd g0W r32.toNatClampNeg r46) r83.toNatClampNeg (nI 1))) := hD
            refine lv_iconst (v := nI 0) hx hb dX3_year_88 (by decide) ?_
            refine lv_istore_n (lv' := [(1, .int (nI 0)), (0, .ref j00), (2, .int x2)]) hx hb dX3_year_89 rfl hl (by decide) rfl (fun ls hl => ?_)
            exact kJ90 (upd (upd g0W r32.toNatClampNeg r46) r83.toNatClampNeg (nI 1)) (nI 0) x2 _ _ _ hF hP hD hS (lv_sub hl [1, 0, 2] rfl)
          · have hF := iff_ hc hF
            refine lv_goto (tgt := 90) hx hb dX3_year_77 (by decide) ?_
            exact kJ90 (upd g0W r32.toNatClampNeg r46) x1 x2 _ _ _ hF hP hD hS (lv_sub hl [0, 1, 2] rfl)
        · have hF := iff_ (fun h => h hc) hF
          refine lv_goto (tgt := 90) hx hb dX3_year_26 (by decide) ?_
          exact kJ90 g0W x1 x2 _ _ _ hF hP hD hS (lv_sub hl [0, 1, 2] rfl)
  refine lv_istore_n (lv' := [(2, .int (nI 0)), (1, .int (nI 1)), (0, .ref j00)]) hx hb dX3_year_10 rfl hl (by decide) rfl (fun ls hl => ?_)
  exact kJ11 N (upd g0W (nI 1).toNatClampNeg ((g0W (nI 1).toNatClampNeg) + (nI 1))) (nI 1) (nI 0) _ _ _ hF hP hD hS (lv_sub hl [2, 1, 0] rfl)
set_option maxHeartbeats 4000000 in
set_option maxRecDepth 100000 in
theorem c_X3_yearsOn (l : Launch) (dC : Nat → ClassId) (dI : Nat → Nat → Nat) (cI : ClassId) (sf : SFP) (sz : Nat) (N : Nat) (j00 : Nat) (g0W : FA) (p1 : Int32) (r : FA) (hF : F_X3_yearsOn N g0W p1 = some r) : Met l yX3_yearsOn wsX3_yearsOn ({ frames := 5, cells := 0, slots := 0, locals := 116 }) (va_Pc [.ref j00, .int p1] (PB (dC, dI) cI (cwA cI j00 g0W) sz sf)) (va_Qv (fun _ : Unit => True) (fun _ t => QB (dC, dI) (cwA cI j00 r) (va_A (cwA cI j00 g0W) sz) t) (va_A (cwA cI j00 g0W) sz)) 0 0 (va_A (cwA cI j00 g0W) sz) := by
  refine Met.ofW (cc := cX3_yearsOn) (maxL := 4) (ret := none) (by decide) rfl ?_
  intro p e s m args below meth c s₁ B hml hv
  obtain ⟨rfl, hsz, hP, hK, hD0, hNN, hSF⟩ := hv
  have hx := B.exec
  have hb := B.bytes
  have hr := B.returns
  have hts := atoms_spec (ws := wsX3_yearsOn) B.pre
  have hown : s.vm.findClass RX3 = some m.cls := findClass_of_methodNamed B.named
  have hlocks := B.notSynchronized
  subst hsz
  have hD := hD0.self (sz := s.heap.size)
  generalize hAe : va_A (cwA cI j00 g0W) s.heap.size = A at hD hSF ⊢
  have hA : ∀ q : Nat, s.heap.size ≤ q → A q := fun q h => by rw [← hAe]; exact Or.inr h
  clear hAe hD0
  have hS : va_S A s.heap s.heap [] := va_S.rf
  have hl := lv_entry ([.ref j00, .int p1]) (n := 4) (Nat.le_of_ble_eq_true rfl)
  rw [lg_entry_eq]
  generalize (lg_sl ([.ref j00, .int p1]) ++ List.replicate (4 - (lg_sl ([.ref j00, .int p1])).length) Slot.unset).toArray = ls at hl ⊢
  have hl : lv_has ls 4 [(0, .ref j00), (1, .int p1)] := hl
  rw [F_X3_yearsOn] at hF
  refine lv_iconst (v := nI 0) hx hb dX3_yearsOn_0 (by decide) ?_
  refine vW_have (fun R av Q => ∀ (n2 : Nat) (g0W : FA) (x1 : Int32) (x2 : Int32) (H : Heap) (locs : List Loc) (ls : Array Slot), F_X3_yearsOn_2 N n2 g0W x1 x2 = some r → va_P (dC, dI) vwCl (cwA cI j00 g0W) H → va_D A (cwA cI j00 g0W) → va_S A s.heap H locs → lv_has ls 4 [(0, .ref j00), (1, .int x1), (2, .int x2)] → W p l e R s m av below meth c H locs 0 0 Q (F0 m 2 ls [])) ?_ (fun kJ2 => ?_)
  · intro n2
    induction n2 with
    | zero => intro g0W x1 x2 H locs ls hF; exact nn hF
    | succ n2 ih2 =>
      intro g0W x1 x2 H locs ls hF hP hD hS hl
      rw [F_X3_yearsOn_2] at hF
      refine lv_iload_n hx hb dX3_yearsOn_2 rfl (lv_at hl 2 rfl) ?_
      refine lv_iload_n hx hb dX3_yearsOn_3 rfl (lv_at hl 1 rfl) ?_
      refine lv_icmp_ge (tgt := 18) hx hb dX3_yearsOn_4 (by decide) (fun hc => ?_) (fun hc => ?_)
      · have hF := ift hc hF
        obtain rfl := Option.some.inj hF
        exact W.vret hx hb hr (fun t ht hW => ⟨⟨(), rfl, trivial, QB.of ht hP hD⟩, hS.F ht⟩) hS.2.2 dX3_yearsOn_18
      · have hF := iff_ hc hF
        refine lv_aload_n hx hb dX3_yearsOn_7 rfl (lv_at hl 0 rfl) ?_
        have hPc := hP.sub (ws' := (cwA cI j00 g0W)) [0] rfl
        have hDc := hD.sub (ws' := (cwA cI j00 g0W)) [0] (by decide) rfl
        have hFc := va_free (wc := (cwA cI j00 g0W)) hD hS hA [0] rfl
        refine bd hF (fun r8 hG hF => ?_)
        refine va_calli (va_runS (As := [.ref j00]) (rest := []) ⟨hx, hb, hml, hown, hts⟩ (c_X3_year l dC dI cI sf H.size N j00 g0W r8 hG) (va_cwS 1 hts gX3_yearsOn_X3_year rfl rfl rfl (by decide +kernel) ⟨Nat.le_of_ble_eq_true rfl, Nat.le_of_ble_eq_true rfl⟩) ⟨fun a U g mk q => ⟨q.1, q.2.call⟩, fun U hU hW => ⟨rfl, PB.of hU hW hPc hK hDc hNN hSF hS hFc⟩⟩ rfl rfl hl.1 rfl (lv_room (Nat.le_of_ble_eq_true rfl)) dX3_yearsOn_8 ⟨Nat.le_of_ble_eq_true rfl, Nat.le_of_ble_eq_true rfl⟩) hS (fun q _ h => hFc q h) hFc (fun z_ u_ t H locs ht hvm hw hB hz1 hk1 hS => ?_)
        subst z_
        obtain ⟨hP1, hD1⟩ := hB
        rw [ht] at hP1
        have hJ := vb_join (ws' := (cwA cI j00 r8.2)) hP hD [0] [] [0] rfl rfl (by decide) (by decide) hk1 hFc hP1 hD1 rfl (by decide) rfl
        clear hP hD hPc hDc hFc hP1 hD1 hk1 hz1 ht hvm hG
        obtain ⟨hP, hD⟩ := hJ
        refine lv_istore_n (lv' := [(3, .int r8.1), (0, .ref j00), (1, .int x1), (2, .int x2)]) hx hb dX3_yearsOn_11 rfl hl (by decide) rfl (fun ls hl => ?_)
        refine lv_iinc (v := x2 + (nI 1)) (lv' := [(2, .int (x2 + (nI 1))), (3, .int r8.1), (0, .ref j00), (1, .int x1)]) hx hb dX3_yearsOn_12 hl (k := 3) rfl (by rfl) (by decide) rfl (fun ls hl => ?_)
        refine lv_goto (tgt := 2) hx hb dX3_yearsOn_15 (by decide) ?_
        exact ih2 r8.2 x1 (x2 + (nI 1)) _ _ _ hF hP hD hS (lv_sub hl [2, 3, 0] rfl)
  refine lv_istore_n (lv' := [(2, .int (nI 0)), (0, .ref j00), (1, .int p1)]) hx hb dX3_yearsOn_1 rfl hl (by decide) rfl (fun ls hl => ?_)
  exact kJ2 N g0W p1 (nI 0) _ _ _ hF hP hD hS (lv_sub hl [1, 2, 0] rfl)
