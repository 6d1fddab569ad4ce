theorem inw_X1_denials_X1 : ∀ w ∈ u_ws RX1 TX1 8, w ∈ wsX1_denials := fun _ h => List.mem_cons_of_mem _ (List.mem_append_right _ h)
set_option maxHeartbeats 4000000 in
set_option maxRecDepth 100000 in
theorem c_X1_denials (l : Launch) (dC : Nat → ClassId) (dI : Nat → Nat → Nat) (cI : ClassId) (sf : SFP) (sz : Nat) (N : Nat) (h0 h1 h2 h3 h4 h5 : Nat) (tW : TownS) (p1 : Int32) (p2 : Int32) (r : Int32) (hF : F_X1_denials N tW p1 p2 = some r) : Met l yX1_denials wsX1_denials ({ frames := 1, cells := 0, slots := 0, locals := 22 }) (va_Pc [.ref h0, .int p1, .int p2] (PB (dC, dI) cI (cwT cI h0 h1 h2 h3 h4 h5 tW) sz sf)) (va_Qi (fun (z : Int32) (_ : Unit) => z = r) (fun _ t => QB (dC, dI) (cwT cI h0 h1 h2 h3 h4 h5 tW) (va_A (cwT cI h0 h1 h2 h3 h4 h5 tW) sz) t) (va_A (cwT cI h0 h1 h2 h3 h4 h5 tW) sz)) 0 0 (va_A (cwT cI h0 h1 h2 h3 h4 h5 tW) sz) := by
  refine Met.ofW (cc := cX1_denials) (maxL := 5) (ret := (some .int)) (by decide) rfl ?_
  intro p e s m args below meth c s₁ B hml hv
  obtain ⟨rfl, hsz, hP, hK, hD0, hNN, hSF⟩ := hv
  have hx := B.exec
  have hb := B.bytes
  have hr := B.returns
  have hts := atoms_spec (ws := wsX1_denials) B.pre
  have hown : s.vm.findClass RX1 = some m.cls := findClass_of_methodNamed B.named
  have hlocks := B.notSynchronized
  subst hsz
  have hD := hD0.self (sz := s.heap.size)
  generalize hAe : va_A (cwT cI h0 h1 h2 h3 h4 h5 tW) s.heap.size = A at hD hSF ⊢
  have hA : ∀ q : Nat, s.heap.size ≤ q → A q := fun q h => by rw [← hAe]; exact Or.inr h
  clear hAe hD0
  have hS : va_S A s.heap s.heap [] := va_S.rf
  have hl := lv_entry ([.ref h0, .int p1, .int p2]) (n := 5) (Nat.le_of_ble_eq_true rfl)
  rw [lg_entry_eq]
  generalize (lg_sl ([.ref h0, .int p1, .int p2]) ++ List.replicate (5 - (lg_sl ([.ref h0, .int p1, .int p2])).length) Slot.unset).toArray = ls at hl ⊢
  have hl : lv_has ls 5 [(0, .ref h0), (1, .int p1), (2, .int p2)] := hl
  rw [F_X1_denials] at hF
  refine lv_iconst (v := nI 0) hx hb dX1_denials_0 (by decide) ?_
  refine lv_istore_n (lv' := [(3, .int (nI 0)), (0, .ref h0), (1, .int p1), (2, .int p2)]) hx hb dX1_denials_1 rfl hl (by decide) rfl (fun ls hl => ?_)
  refine lv_iconst (v := nI 0) hx hb dX1_denials_2 (by decide) ?_
  refine vW_have (fun R av Q => ∀ (n5 : Nat) (x1 : Int32) (x2 : Int32) (x3 : Int32) (x4 : Int32) (H : Heap) (locs : List Loc) (ls : Array Slot), F_X1_denials_5 N tW n5 x1 x2 x3 x4 = some r → va_P (dC, dI) vwCl (cwT cI h0 h1 h2 h3 h4 h5 tW) H → va_D A (cwT cI h0 h1 h2 h3 h4 h5 tW) → va_S A s.heap H locs → lv_has ls 5 [(0, .ref h0), (1, .int x1), (2, .int x2), (3, .int x3), (4, .int x4)] → W p l e R s m av below meth c H locs 0 0 Q (F0 m 5 ls [])) ?_ (fun kJ5 => ?_)
  · intro n5
    induction n5 with
    | zero => intro x1 x2 x3 x4 H locs ls hF; exact nn hF
    | succ n5 ih5 =>
      intro x1 x2 x3 x4 H locs ls hF hP hD hS hl
      rw [F_X1_denials_5] at hF
      refine lv_iload hx hb dX1_denials_5 (lv_at hl 4 rfl) ?_
      refine lv_bipush (v := nI 8) hx hb dX1_denials_7 (by decide) ?_
      refine lv_icmp_ge (tgt := 60) hx hb dX1_denials_9 (by decide) (fun hc => ?_) (fun hc => ?_)
      · have hF := ift hc hF
        refine lv_iload_n hx hb dX1_denials_60 rfl (lv_at hl 3 rfl) ?_
        obtain rfl := Option.some.inj hF
        exact W.iret (v := x3) hx hb hr (fun t ht hW => ⟨⟨x3, (), rfl, rfl, QB.of ht hP hD⟩, hS.F ht⟩) hS.2.2 dX1_denials_61
      · have hF := iff_ hc hF
        refine lv_aload_n hx hb dX1_denials_12 rfl (lv_at hl 0 rfl) ?_
        refine lv_iload_n hx hb dX1_denials_13 rfl (lv_at hl 1 rfl) ?_
        refine lv_iload hx hb dX1_denials_14 (lv_at hl 4 rfl) ?_
        have hPc := hP.sub (ws' := (cwT cI h0 h1 h2 h3 h4 h5 tW)) [0, 1, 2, 3, 4, 5] rfl
        have hDc := hD.sub (ws' := (cwT cI h0 h1 h2 h3 h4 h5 tW)) [0, 1, 2, 3, 4, 5] (by decide) rfl
        have hFc := va_free (wc := (cwT cI h0 h1 h2 h3 h4 h5 tW)) hD hS hA [0, 1, 2, 3, 4, 5] rfl
        refine bd hF (fun r16 hG hF => ?_)
        refine va_calli (va_runV (As := [.int x1, .int x4]) (rest := []) ⟨hx, hb, hml, hown, hts⟩ (c_X1_wordOf l dC dI cI sf H.size N h0 h1 h2 h3 h4 h5 tW x1 x4 r16 hG) (cwV 2 hts gX1_denials_X1_wordOf rfl rfl rfl (by decide +kernel) ⟨Nat.le_of_ble_eq_true rfl, Nat.le_of_ble_eq_true rfl⟩) ⟨fun a U g mk q => ⟨q.1, q.2.call⟩, va_recv hK hP (ci := 1) (q0 := 0) rfl rfl, fun U hU hW => ⟨rfl, PB.of hU hW hPc hK hDc hNN hSF hS hFc⟩⟩ rfl rfl hl.1 rfl (lv_room (Nat.le_of_ble_eq_true rfl)) dX1_denials_16 ⟨Nat.le_of_ble_eq_true rfl, Nat.le_of_ble_eq_true rfl⟩) hS (fun q _ h => hFc q h) hFc (fun z_ u_ t H locs ht hvm hw hB hz1 hk1 hS => ?_)
        subst z_
        obtain ⟨hP1, hD1⟩ := hB
        rw [ht] at hP1
        have hJ := vb_join (ws' := (cwT cI h0 h1 h2 h3 h4 h5 tW)) hP hD [0, 1, 2, 3, 4, 5] [] [0, 1, 2, 3, 4, 5] rfl rfl (by decide) (by decide) hk1 hFc hP1 hD1 rfl (by decide) rfl
        clear hP hD hPc hDc hFc hP1 hD1 hk1 hz1 ht hvm hG
        obtain ⟨hP, hD⟩ := hJ
        refine lv_aload_n hx hb dX1_denials_19 rfl (lv_at hl 0 rfl) ?_
        refine lv_iload_n hx hb dX1_denials_20 rfl (lv_at hl 2 rfl) ?_
        refine lv_iload hx hb dX1_denials_21 (lv_at hl 4 rfl) ?_
        have hPc := hP.sub (ws' := (cwT cI h0 h1 h2 h3 h4 h5 tW)) [0, 1, 2, 3, 4, 5] rfl
        have hDc := hD.sub (ws' := (cwT cI h0 h1 h2 h3 h4 h5 tW)) [0, 1, 2, 3, 4, 5] (by decide) rfl
        have hFc := va_free (wc := (cwT cI h0 h1 h2 h3 h4 h5 tW)) hD hS hA [0, 1, 2, 3, 4, 5] rfl
        refine bd hF (fun r23 hG hF => ?_)
        refine va_calli (va_runV (As := [.int x2, .int x4]) (rest := [.int r16]) ⟨hx, hb, hml, hown, hts⟩ (c_X1_wordOf l dC dI cI sf H.size N h0 h1 h2 h3 h4 h5 tW x2 x4 r23 hG) (cwV 2 hts gX1_denials_X1_wordOf rfl rfl rfl (by decide +kernel) ⟨Nat.le_of_ble_eq_true rfl, Nat.le_of_ble_eq_true rfl⟩) ⟨fun a U g mk q => ⟨q.1, q.2.call⟩, va_recv hK hP (ci := 1) (q0 := 0) rfl rfl, fun U hU hW => ⟨rfl, PB.of hU hW hPc hK hDc hNN hSF hS hFc⟩⟩ rfl rfl hl.1 rfl (lv_room (Nat.le_of_ble_eq_true rfl)) dX1_denials_23 ⟨Nat.le_of_ble_eq_true rfl, Nat.le_of_ble_eq_true rfl⟩) hS (fun q _ h => hFc q h) hFc (fun z_ u_ t H locs ht hvm hw hB hz1 hk1 hS => ?_)
        subst z_
        obtain ⟨hP1, hD1⟩ := hB
        rw [ht] at hP1
        have hJ := vb_join (ws' := (cwT cI h0 h1 h2 h3 h4 h5 tW)) hP hD [0, 1, 2, 3, 4, 5] [] [0, 1, 2, 3, 4, 5] rfl rfl (by decide) (by decide) hk1 hFc hP1 hD1 rfl (by decide) rfl
        clear hP hD hPc hDc hFc hP1 hD1 hk1 hz1 ht hvm hG
        obtain ⟨hP, hD⟩ := hJ
        refine lv_iadd hx hb dX1_denials_26 ?_
        refine lv_iconst (v := nI 3) hx hb dX1_denials_27 (by decide) ?_
        refine vW_have (fun R av Q => ∀ (x1 : Int32) (x2 : Int32) (x3 : Int32) (x4 : Int32) (H : Heap) (locs : List Loc) (ls : Array Slot), F_X1_denials_54 N tW (fun cx1 cx2 cx3 cx4 => F_X1_denials_5 N tW n5 cx1 cx2 cx3 cx4) x1 x2 x3 x4 = some r → va_P (dC, dI) vwCl (cwT cI h0 h1 h2 h3 h4 h5 tW) H → va_D A (cwT cI h0 h1 h2 h3 h4 h5 tW) → va_S A s.heap H locs → lv_has ls 5 [(0, .ref h0), (1, .int x1), (2, .int x2), (3, .int x3), (4, .int x4)] → W p l e R s m av below meth c H locs 0 0 Q (F0 m 54 ls [])) ?_ (fun kJ54 => ?_)
        · 
          intro x1 x2 x3 x4 H locs ls hF hP hD hS hl
          rw [F_X1_denials_54] at hF
          refine lv_iinc (v := x4 + (nI 1)) (lv' := [(4, .int (x4 + (nI 1))), (0, .ref h0), (1, .int x1), (2, .int x2), (3, .int x3)]) hx hb dX1_denials_54 hl (k := 4) rfl (by rfl) (by decide) rfl (fun ls hl => ?_)
          refine lv_goto (tgt := 5) hx hb dX1_denials_57 (by decide) ?_
          exact ih5 x1 x2 x3 (x4 + (nI 1)) _ _ _ hF hP hD hS (lv_sub hl [1, 2, 3, 4, 0] rfl)
        refine lv_icmp_ne (tgt := 54) hx hb dX1_denials_28 (by decide) (fun hc => ?_) (fun hc => ?_)
        · have hF := ift hc hF
          exact kJ54 x1 x2 x3 x4 _ _ _ hF hP hD hS (lv_sub hl [0, 1, 2, 3, 4] rfl)
        · have hF := iff_ (fun h => h hc) hF
          refine lv_aload_n hx hb dX1_denials_31 rfl (lv_at hl 0 rfl) ?_
          refine lv_iload_n hx hb dX1_denials_32 rfl (lv_at hl 1 rfl) ?_
          refine lv_iload hx hb dX1_denials_33 (lv_at hl 4 rfl) ?_
          have hPc := hP.sub (ws' := (cwT cI h0 h1 h2 h3 h4 h5 tW)) [0, 1, 2, 3, 4, 5] rfl
          have hDc := hD.sub (ws' := (cwT cI h0 h1 h2 h3 h4 h5 tW)) [0, 1, 2, 3, 4, 5] (by decide) rfl
          have hFc := va_free (wc := (cwT cI h0 h1 h2 h3 h4 h5 tW)) hD hS hA [0, 1, 2, 3, 4, 5] rfl
          refine bd hF (fun r35 hG hF => ?_)
          refine va_calli (va_runV (As := [.int x1, .int x4]) (rest := []) ⟨hx, hb, hml, hown, hts⟩ (c_X1_wordOf l dC dI cI sf H.size N h0 h1 h2 h3 h4 h5 tW x1 x4 r35 hG) (cwV 2 hts gX1_denials_X1_wordOf rfl rfl rfl (by decide +kernel) ⟨Nat.le_of_ble_eq_true rfl, Nat.le_of_ble_eq_true rfl⟩) ⟨fun a U g mk q => ⟨q.1, q.2.call⟩, va_recv hK hP (ci := 1) (q0 := 0) rfl rfl, fun U hU hW => ⟨rfl, PB.of hU hW hPc hK hDc hNN hSF hS hFc⟩⟩ rfl rfl hl.1 rfl (lv_room (Nat.le_of_ble_eq_true rfl)) dX1_denials_35 ⟨Nat.le_of_ble_eq_true rfl, Nat.le_of_ble_eq_true rfl⟩) hS (fun q _ h => hFc q h) hFc (fun z_ u_ t H locs ht hvm hw hB hz1 hk1 hS => ?_)
          subst z_
          obtain ⟨hP1, hD1⟩ := hB
          rw [ht] at hP1
          have hJ := vb_join (ws' := (cwT cI h0 h1 h2 h3 h4 h5 tW)) hP hD [0, 1, 2, 3, 4, 5] [] [0, 1, 2, 3, 4, 5] rfl rfl (by decide) (by decide) hk1 hFc hP1 hD1 rfl (by decide) rfl
          clear hP hD hPc hDc hFc hP1 hD1 hk1 hz1 ht hvm hG
          obtain ⟨hP, hD⟩ := hJ
          refine lv_if_eq (tgt := 54) hx hb dX1_denials_38 (by decide) (fun hc => ?_) (fun hc => ?_)
          · have hF := ift hc hF
            exact kJ54 x1 x2 x3 x4 _ _ _ hF hP hD hS (lv_sub hl [0, 1, 2, 3, 4] rfl)
          · have hF := iff_ hc hF
            refine lv_aload_n hx hb dX1_denials_41 rfl (lv_at hl 0 rfl) ?_
            refine lv_iload_n hx hb dX1_denials_42 rfl (lv_at hl 2 rfl) ?_
            refine lv_iload hx hb dX1_denials_43 (lv_at hl 4 rfl) ?_
            have hPc := hP.sub (ws' := (cwT cI h0 h1 h2 h3 h4 h5 tW)) [0, 1, 2, 3, 4, 5] rfl
            have hDc := hD.sub (ws' := (cwT cI h0 h1 h2 h3 h4 h5 tW)) [0, 1, 2, 3, 4, 5] (by decide) rfl
            have hFc := va_free (wc := (cwT cI h0 h1 h2 h3 h4 h5 tW)) hD hS hA [0, 1, 2, 3, 4, 5] rfl
            refine bd hF (fun r45 hG hF => ?_)
            refine va_calli (va_runV (As := [.int x2, .int x4]) (rest := []) ⟨hx, hb, hml, hown, hts⟩ (c_X1_wordOf l dC dI cI sf H.size N h0 h1 h2 h3 h4 h5 tW x2 x4 r45 hG) (cwV 2 hts gX1_denials_X1_wordOf rfl rfl rfl (by decide +kernel) ⟨Nat.le_of_ble_eq_true rfl, Nat.le_of_ble_eq_true rfl⟩) ⟨fun a U g mk q => ⟨q.1, q.2.call⟩, va_recv hK hP (ci := 1) (q0 := 0) rfl rfl, fun U hU hW => ⟨rfl, PB.of hU hW hPc hK hDc hNN hSF hS hFc⟩⟩ rfl rfl hl.1 rfl (lv_room (Nat.le_of_ble_eq_true rfl)) dX1_denials_45 ⟨Nat.le_of_ble_eq_true rfl, Nat.le_of_ble_eq_true rfl⟩) hS (fun q _ h => hFc q h) hFc (fun z_ u_ t H locs ht hvm hw hB hz1 hk1 hS => ?_)
            subst z_
            obtain ⟨hP1, hD1⟩ := hB
            rw [ht] at hP1
            have hJ := vb_join (ws' := (cwT cI h0 h1 h2 h3 h4 h5 tW)) hP hD [0, 1, 2, 3, 4, 5] [] [0, 1, 2, 3, 4, 5] rfl rfl (by decide) (by decide) hk1 hFc hP1 hD1 rfl (by decide) rfl
            clear hP hD hPc hDc hFc hP1 hD1 hk1 hz1 ht hvm hG
            obtain ⟨hP, hD⟩ := hJ
            refine lv_if_eq (tgt := 54) hx hb dX1_denials_48 (by decide) (fun hc => ?_) (fun hc => ?_)
            · have hF := ift hc hF
              exact kJ54 x1 x2 x3 x4 _ _ _ hF hP hD hS (lv_sub hl [0, 1, 2, 3, 4] rfl)
            · have hF := iff_ hc hF
              refine lv_iinc (v := x3 + (nI 1)) (lv' := [(3, .int (x3 + (nI 1))), (0, .ref h0), (1, .int x1), (2, .int x2), (4, .int x4)]) hx hb dX1_denials_51 hl (k := 3) rfl (by rfl) (by decide) rfl (fun ls hl => ?_)
              exact kJ54 x1 x2 (x3 + (nI 1)) x4 _ _ _ hF hP hD hS (lv_sub hl [1, 2, 3, 0, 4] rfl)
  refine lv_istore (lv' := [(4, .int (nI 0)), (3, .int (nI 0)), (0, .ref h0), (1, .int p1), (2, .int p2)]) hx hb dX1_denials_3 hl (by decide) rfl (fun ls hl => ?_)
  exact kJ5 N p1 p2 (nI 0) (nI 0) _ _ _ hF hP hD hS (lv_sub hl [2, 3, 4, 1, 0] rfl)
theorem inw_X1_drawWords_X1 : ∀ w ∈ u_ws RX1 TX1 8, w ∈ wsX1_drawWords := fun _ h => List.mem_cons_of_mem _ (List.mem_append_right _ h)
set_option maxHeartbeats 4000000 in
set_option maxRecDepth 100000 in
theorem c_X1_drawWords (l : Launch) (dC : Nat → ClassId) (dI : Nat → Nat → Nat) (cI : ClassId) (sf : SFP) (sz : Nat) (N : Nat) (h0 h1 h2 h3 h4 h5 : Nat) (tW : TownS) (p1 : Int32) (r : (Int32 × TownS)) (hF : F_X1_drawWords N tW p1 = some r) : Met l yX1_drawWords wsX1_drawWords ({ frames := 1, cells := 0, slots := 0, locals := 24 }) (va_Pc [.ref h0, .int p1] (PB (dC, dI) cI (cwT cI h0 h1 h2 h3 h4 h5 tW) sz sf)) (va_Qi (fun (z : Int32) (_ : Unit) => z = r.1) (fun _ t => QB (dC, dI) (cwT cI h0 h1 h2 h3 h4 h5 r.2) (va_A (cwT cI h0 h1 h2 h3 h4 h5 tW) sz) t) (va_A (cwT cI h0 h1 h2 h3 h4 h5 tW) sz)) 0 0 (va_A (cwT cI h0 h1 h2 h3 h4 h5 tW) sz) := by
  refine Met.ofW (cc := cX1_drawWords) (maxL := 5) (ret := (some .int)) (by decide) rfl ?_
  intro p e s m args below meth c s₁ B hml hv
  obtain ⟨rfl, hsz, hP, hK, hD0, hNN, hSF⟩ := hv
  have hx := B.exec
  have hb := B.bytes
  have hr := B.returns
  have hts := atoms_spec (ws := wsX1_drawWords) B.pre
  have hown : s.vm.findClass RX1 = some m.cls := findClass_of_methodNamed B.named
  have hlocks := B.notSynchronized
  subst hsz
  have hD := hD0.self (sz := s.heap.size)
  generalize hAe : va_A (cwT cI h0 h1 h2 h3 h4 h5 tW) s.heap.size = A at hD hSF ⊢
  have hA : ∀ q : Nat, s.heap.size ≤ q → A q := fun q h => by rw [← hAe]; exact Or.inr h
  clear hAe hD0
  have hS : va_S A s.heap s.heap [] := va_S.rf
  have hl := lv_entry ([.ref h0, .int p1]) (n := 5) (Nat.le_of_ble_eq_true rfl)
  rw [lg_entry_eq]
  generalize (lg_sl ([.ref h0, .int p1]) ++ List.replicate (5 - (lg_sl ([.ref h0, .int p1])).length) Slot.unset).toArray = ls at hl ⊢
  have hl : lv_has ls 5 [(0, .ref h0), (1, .int p1)] := hl
  rw [F_X1_drawWords] at hF
  refine lv_iload_n hx hb dX1_drawWords_0 rfl (lv_at hl 1 rfl) ?_
  refine lv_istore_n (lv' := [(2, .int p1), (0, .ref h0), (1, .int p1)]) hx hb dX1_drawWords_1 rfl hl (by decide) rfl (fun ls hl => ?_)
  refine lv_iconst (v := nI 0) hx hb dX1_drawWords_2 (by decide) ?_
  refine vW_have (fun R av Q => ∀ (n4 : Nat) (tW : TownS) (x2 : Int32) (x3 : Int32) (H : Heap) (locs : List Loc) (ls : Array Slot), F_X1_drawWords_4 N n4 tW x2 x3 = some r → va_P (dC, dI) vwCl (cwT cI h0 h1 h2 h3 h4 h5 tW) H → va_D A (cwT cI h0 h1 h2 h3 h4 h5 tW) → va_S A s.heap H locs → lv_has ls 5 [(0, .ref h0), (2, .int x2), (3, .int x3)] → W p l e R s m av below meth c H locs 0 0 Q (F0 m 4 ls [])) ?_ (fun kJ4 => ?_)
  · intro n4
    induction n4 with
    | zero => intro tW x2 x3 H locs ls hF; exact nn hF
    | succ n4 ih4 =>
      intro tW x2 x3 H locs ls hF hP hD hS hl
      rw [F_X1_drawWords_4] at hF
      refine lv_iload_n hx hb dX1_drawWords_4 rfl (lv_at hl 2 rfl) ?_
      refine lv_aload_n hx hb dX1_drawWords_5 rfl (lv_at hl 0 rfl) ?_
      refine va_get (D := (dC, dI)) (ci := 1) (v := .int tW.2.2.2.2.2.1) (C := RX1) (T := TX1) (N := 8) hx hb hts inw_X1_drawWords_X1 hown hK hP 0 rfl rfl 5 (by decide) (hts (.fieldLink RX1 27 "DeniedOfEachOther$Town" "size" "I") (List.mem_of_getElem? (i := 1) rfl)) (fun _ h9 => h9) rfl dX1_drawWords_6 ?_
      refine lv_icmp_ge (tgt := 70) hx hb dX1_drawWords_9 (by decide) (fun hc => ?_) (fun hc => ?_)
      · have hF := ift hc hF
        refine lv_iload_n hx hb dX1_drawWords_70 rfl (lv_at hl 1 rfl) ?_
        obtain rfl := Option.some.inj hF
        exact W.iret (v := x2) hx hb hr (fun t ht hW => ⟨⟨x2, (), rfl, rfl, QB.of ht hP hD⟩, hS.F ht⟩) hS.2.2 dX1_drawWords_71
      · have hF := iff_ hc hF
        refine lv_aload_n hx hb dX1_drawWords_12 rfl (lv_at hl 0 rfl) ?_
        refine lv_iload_n hx hb dX1_drawWords_13 rfl (lv_at hl 2 rfl) ?_
        have hPc := hP.sub (ws' := (cwT cI h0 h1 h2 h3 h4 h5 tW)) [0, 1, 2, 3, 4, 5] rfl
        have hDc := hD.sub (ws' := (cwT cI h0 h1 h2 h3 h4 h5 tW)) [0, 1, 2, 3, 4, 5] (by decide) rfl
        have hFc := va_free (wc := (cwT cI h0 h1 h2 h3 h4 h5 tW)) hD hS hA [0, 1, 2, 3, 4, 5] rfl
        refine bd hF (fun r14 hG hF => ?_)
        refine va_calli (va_runV (As := [.int x3]) (rest := []) ⟨hx, hb, hml, hown, hts⟩ (c_X1_isLiving l dC dI cI sf H.size N h0 h1 h2 h3 h4 h5 tW x3 r14 hG) (cwV 1 hts gX1_drawWords_X1_isLiving rfl rfl rfl (by decide +kernel) ⟨Nat.le_of_ble_eq_true rfl, Nat.le_of_ble_eq_true rfl⟩) ⟨fun a U g mk q => ⟨q.1, q.2.call⟩, va_recv hK hP (ci := 1) (q0 := 0) rfl rfl, fun U hU hW => ⟨rfl, PB.of hU hW hPc hK hDc hNN hSF hS hFc⟩⟩ rfl rfl hl.1 rfl (lv_room (Nat.le_of_ble_eq_true rfl)) dX1_drawWords_14 ⟨Nat.le_of_ble_eq_true rfl, Nat.le_of_ble_eq_true rfl⟩) hS (fun q _ h => hFc q h) hFc (fun z_ u_ t H locs ht hvm hw hB hz1 hk1 hS => ?_)
        subst z_
        obtain ⟨hP1, hD1⟩ := hB
        rw [ht] at hP1
        have hJ := vb_join (ws' := (cwT cI h0 h1 h2 h3 h4 h5 tW)) hP hD [0, 1, 2, 3, 4, 5] [] [0, 1, 2, 3, 4, 5] rfl rfl (by decide) (by decide) hk1 hFc hP1 hD1 rfl (by decide) rfl
        clear hP hD hPc hDc hFc hP1 hD1 hk1 hz1 ht hvm hG
        obtain ⟨hP, hD⟩ := hJ
        refine vW_have (fun R av Q => ∀ (tW : TownS) (x2 : Int32) (x3 : Int32) (H : Heap) (locs : List Loc) (ls : Array Slot), F_X1_drawWords_64 N (fun ctW cx2 cx3 => F_X1_drawWords_4 N n4 ctW cx2 cx3) tW x2 x3 = some r → va_P (dC, dI) vwCl (cwT cI h0 h1 h2 h3 h4 h5 tW) H → va_D A (cwT cI h0 h1 h2 h3 h4 h5 tW) → va_S A s.heap H locs → lv_has ls 5 [(0, .ref h0), (2, .int x2), (3, .int x3)] → W p l e R s m av below meth c H locs 0 0 Q (F0 m 64 ls [])) ?_ (fun kJ64 => ?_)
        · 
          intro tW x2 x3 H locs ls hF hP hD hS hl
          rw [F_X1_drawWords_64] at hF
          refine lv_iinc (v := x3 + (nI 1)) (lv' := [(3, .int (x3 + (nI 1))), (0, .ref h0), (2, .int x2)]) hx hb dX1_drawWords_64 hl (k := 2) rfl (by rfl) (by decide) rfl (fun ls hl => ?_)
          refine lv_goto (tgt := 4) hx hb dX1_drawWords_67 (by decide) ?_
          exact ih4 tW x2 (x3 + (nI 1)) _ _ _ hF hP hD hS (lv_sub hl [1, 2, 0] rfl)
        refine lv_if_ne (tgt := 23) hx hb dX1_drawWords_17 (by decide) (fun hc => ?_) (fun hc => ?_)
        · have hF := ift hc hF
          refine lv_iconst (v := nI 0) hx hb dX1_drawWords_23 (by decide) ?_
          refine vW_have (fun R av Q => ∀ (n26 : Nat) (tW : TownS) (x2 : Int32) (x3 : Int32) (x4 : Int32) (H : Heap) (locs : List Loc) (ls : Array Slot), F_X1_drawWords_26 N (fun ctW cx2 cx3 => F_X1_drawWords_4 N n4 ctW cx2 cx3) n26 tW x2 x3 x4 = some r → va_P (dC, dI) vwCl (cwT cI h0 h1 h2 h3 h4 h5 tW) H → va_D A (cwT cI h0 h1 h2 h3 h4 h5 tW) → va_S A s.heap H locs → lv_has ls 5 [(0, .ref h0), (2, .int x2), (3, .int x3), (4, .int x4)] → W p l e R s m av below meth c H locs 0 0 Q (F0 m 26 ls [])) ?_ (fun kJ26 => ?_)
          · intro n26
            induction n26 with
            | zero => intro tW x2 x3 x4 H locs ls hF; exact nn hF
            | succ n26 ih26 =>
              intro tW x2 x3 x4 H locs ls hF hP hD hS hl
              rw [F_X1_drawWords_26] at hF
              refine lv_iload hx hb dX1_drawWords_26 (lv_at hl 3 rfl) ?_
              refine lv_bipush (v := nI 8) hx hb dX1_drawWords_28 (by decide) ?_
              refine lv_icmp_ge (tgt := 64) hx hb dX1_drawWords_30 (by decide) (fun hc => ?_) (fun hc => ?_)
              · have hF := ift hc hF
                exact kJ64 tW x2 x3 _ _ _ hF hP hD hS (lv_sub hl [0, 1, 2] rfl)
              · have hF := iff_ hc hF
                refine lv_iload_n hx hb dX1_drawWords_33 rfl (lv_at hl 1 rfl) ?_
                refine lv_ldc (v := nI 1664525) hx hb hown (hts (.constant RX1 80 (1664525)) (List.mem_of_getElem? (i := 2) rfl)) dX1_drawWords_34 ?_
                refine lv_imul hx hb dX1_drawWords_36 ?_
                refine lv_ldc (v := nI 1013904223) hx hb hown (hts (.constant RX1 81 (1013904223)) (List.mem_of_getElem? (i := 3) rfl)) dX1_drawWords_37 ?_
                refine lv_iadd hx hb dX1_drawWords_39 ?_
                refine lv_istore_n (lv' := [(2, .int ((x2 * (nI 1664525)) + (nI 1013904223))), (0, .ref h0), (3, .int x3), (4, .int x4)]) hx hb dX1_drawWords_40 rfl hl (by decide) rfl (fun ls hl => ?_)
                refine lv_aload_n hx hb dX1_drawWords_41 rfl (lv_at hl 1 rfl) ?_
                refine lv_iload_n hx hb dX1_drawWords_42 rfl (lv_at hl 2 rfl) ?_
                refine lv_iload hx hb dX1_drawWords_43 (lv_at hl 3 rfl) ?_
                refine lv_iload_n hx hb dX1_drawWords_45 rfl (lv_at hl 0 rfl) ?_
                refine lv_ldc (v := nI 2147483647) hx hb hown (hts (.constant RX1 82 (2147483647)) (List.mem_of_getElem? (i := 4) rfl)) dX1_drawWords_46 ?_
                refine lv_iand hx hb dX1_drawWords_48 ?_
                refine lv_sipush (v := nI 256) hx hb dX1_drawWords_49 (by decide) ?_
                refine lv_idiv hx hb dX1_drawWords_52 (by decide) ?_
                refine lv_iconst (v := nI 3) hx hb dX1_drawWords_53 (by decide) ?_
                refine lv_irem hx hb dX1_drawWords_54 (by decide) ?_
                have hPc := hP.sub (ws' := (cwT cI h0 h1 h2 h3 h4 h5 tW)) [0, 1, 2, 3, 4, 5] rfl
                have hDc := hD.sub (ws' := (cwT cI h0 h1 h2 h3 h4 h5 tW)) [0, 1, 2, 3, 4, 5] (by decide) rfl
                have hFc := va_free (wc := (cwT cI h0 h1 h2 h3 h4 h5 tW)) hD hS hA [0, 1, 2, 3, 4, 5] rfl
                refine bd hF (fun r55 hG hF => ?_)
                refine va_callv (va_runV (As := [.int x3, .int x4, .int (((((x2 * (nI 1664525)) + (nI 1013904223)) &&& (nI 2147483647)) / (nI 256)) - ((((x2 * (nI 1664525)) + (nI 1013904223)) &&& (nI 2147483647)) / (nI 256)) / (nI 3) * (nI 3))]) (rest := []) ⟨hx, hb, hml, hown, hts⟩ (c_X1_put l dC dI cI sf H.size N h0 h1 h2 h3 h4 h5 tW x3 x4 (((((x2 * (nI 1664525)) + (nI 1013904223)) &&& (nI 2147483647)) / (nI 256)) - ((((x2 * (nI 1664525)) + (nI 1013904223)) &&& (nI 2147483647)) / (nI 256)) / (nI 3) * (nI 3)) r55 hG) (cwV 3 hts gX1_drawWords_X1_put rfl rfl rfl (by decide +kernel) ⟨Nat.le_of_ble_eq_true rfl, Nat.le_of_ble_eq_true rfl⟩) ⟨fun a U g mk q => ⟨q.1, q.2.call⟩, va_recv hK hP (ci := 1) (q0 := 0) rfl rfl, fun U hU hW => ⟨rfl, PB.of hU hW hPc hK hDc hNN hSF hS hFc⟩⟩ rfl rfl hl.1 rfl (lv_room (Nat.le_of_ble_eq_true rfl)) dX1_drawWords_55 ⟨Nat.le_of_ble_eq_true rfl, Nat.le_of_ble_eq_true rfl⟩) hS (fun q _ h => hFc q h) hFc (fun u_ t H locs ht hvm hw hB hz1 hk1 hS => ?_)
                obtain ⟨hP1, hD1⟩ := hB
                rw [ht] at hP1
                have hJ := vb_join (ws' := (cwT cI h0 h1 h2 h3 h4 h5 r55)) hP hD [0, 1, 2, 3, 4, 5] [] [0, 1, 2, 3, 4, 5] rfl rfl (by decide) (by decide) hk1 hFc hP1 hD1 rfl (by decide) rfl
                clear hP hD hPc hDc hFc hP1 hD1 hk1 hz1 ht hvm hG
                obtain ⟨hP, hD⟩ := hJ
                refine lv_iinc (v := x4 + (nI 1)) (lv' := [(4, .int (x4 + (nI 1))), (2, .int ((x2 * (nI 1664525)) + (nI 1013904223))), (0, .ref h0), (3, .int x3)]) hx hb dX1_drawWords_58 hl (k := 3) rfl (by rfl) (by decide) rfl (fun ls hl => ?_)
                refine lv_goto (tgt := 26) hx hb dX1_drawWords_61 (by decide) ?_
                exact ih26 r55 ((x2 * (nI 1664525)) + (nI 1013904223)) x3 (x4 + (nI 1)) _ _ _ hF hP hD hS (lv_sub hl [2, 1, 3, 0] rfl)
          refine lv_istore (lv' := [(4, .int (nI 0)), (0, .ref h0), (2, .int x2), (3, .int x3)]) hx hb dX1_drawWords_24 hl (by decide) rfl (fun ls hl => ?_)
          exact kJ26 N tW x2 x3 (nI 0) _ _ _ hF hP hD hS (lv_sub hl [1, 2, 3, 0] rfl)
        · have hF := iff_ (fun h => h hc) hF
          refine lv_goto (tgt := 64) hx hb dX1_drawWords_20 (by decide) ?_
          exact kJ64 tW x2 x3 _ _ _ hF hP hD hS (lv_sub hl [0, 1, 2] rfl)
  refine lv_istore_n (lv' := [(3, .int (nI 0)), (2, .int p1), (0, .ref h0), (1, .int p1)]) hx hb dX1_drawWords_3 rfl hl (by decide) rfl (fun ls hl => ?_)
  exact kJ4 N tW p1 (nI 0) _ _ _ hF hP hD hS (lv_sub hl [2, 1, 0] rfl)
theorem inw_X1_endOf_X1 : ∀ w ∈ u_ws RX1 TX1 8, w ∈ wsX1_endOf := fun _ h => List.mem_cons_of_mem _ (List.mem_append_right _ h)
set_option maxHeartbeats 4000000 in
set_option maxRecDepth 100000 in
theorem c_X1_endOf (l : Launch) (dC : Nat → ClassId) (dI : Nat → Nat → Nat) (cI : ClassId) (sf : SFP) (sz : Nat) (N : Nat) (h0 h1 h2 h3 h4 h5 : Nat) (tW : TownS) (p1 : Int32) (r : (Int32 × TownS)) (hF : F_X1_endOf N tW p1 = some r) : Met l yX1_endOf wsX1_endOf ({ frames := 4, cells := 0, slots := 0, locals := 99 }) (va_Pc [.ref h0, .int p1] (PB (dC, dI) cI (cwT cI h0 h1 h2 h3 h4 h5 tW) sz sf)) (va_Qi (fun (z : Int32) (_ : Unit) => z = r.1) (fun _ t => QB (dC, dI) (cwT cI h0 h1 h2 h3 h4 h5 r.2) (va_A (cwT cI h0 h1 h2 h3 h4 h5 tW) sz) t) (va_A (cwT cI h0 h1 h2 h3 h4 h5 tW) sz)) 0 0 (va_A (cwT cI h0 h1 h2 h3 h4 h5 tW) sz) := by
  refine Met.ofW (cc := cX1_endOf) (maxL := 3) (ret := (some .int)) (by decide) rfl ?_
  intro p e s m args below meth c s₁ B hml hv
  obtain ⟨rfl, hsz, hP, hK, hD0, hNN, hSF⟩ := hv
  have hx := B.exec
  have hb := B.bytes
  have hr := B.returns
  have hts := atoms_spec (ws := wsX1_endOf) B.pre
  have hown : s.vm.findClass RX1 = some m.cls := findClass_of_methodNamed B.named
  have hlocks := B.notSynchronized
  subst hsz
  have hD := hD0.self (sz := s.heap.size)
  generalize hAe : va_A (cwT cI h0 h1 h2 h3 h4 h5 tW) s.heap.size = A at hD hSF ⊢
  have hA : ∀ q : Nat, s.heap.size ≤ q → A q := fun q h => by rw [← hAe]; exact Or.inr h
  clear hAe hD0
  have hS : va_S A s.heap s.heap [] := va_S.rf
  have hl := lv_entry ([.ref h0, .int p1]) (n := 3) (Nat.le_of_ble_eq_true rfl)
  rw [lg_entry_eq]
  generalize (lg_sl ([.ref h0, .int p1]) ++ List.replicate (3 - (lg_sl ([.ref h0, .int p1])).length) Slot.unset).toArray = ls at hl ⊢
  have hl : lv_has ls 3 [(0, .ref h0), (1, .int p1)] := hl
  rw [F_X1_endOf] at hF
  refine lv_iconst (v := nI 0) hx hb dX1_endOf_0 (by decide) ?_
  refine vW_have (fun R av Q => ∀ (n2 : Nat) (tW : TownS) (x1 : Int32) (x2 : Int32) (H : Heap) (locs : List Loc) (ls : Array Slot), F_X1_endOf_2 N n2 tW x1 x2 = some r → va_P (dC, dI) vwCl (cwT cI h0 h1 h2 h3 h4 h5 tW) H → va_D A (cwT cI h0 h1 h2 h3 h4 h5 tW) → va_S A s.heap H locs → lv_has ls 3 [(0, .ref h0), (1, .int x1), (2, .int x2)] → W p l e R s m av below meth c H locs 0 0 Q (F0 m 2 ls [])) ?_ (fun kJ2 => ?_)
  · intro n2
    induction n2 with
    | zero => intro tW x1 x2 H locs ls hF; exact nn hF
    | succ n2 ih2 =>
      intro tW x1 x2 H locs ls hF hP hD hS hl
      rw [F_X1_endOf_2] at hF
      refine lv_iload_n hx hb dX1_endOf_2 rfl (lv_at hl 2 rfl) ?_
      refine lv_bipush (v := nI 60) hx hb dX1_endOf_3 (by decide) ?_
      refine lv_icmp_gt (tgt := 31) hx hb dX1_endOf_5 (by decide) (fun hc => ?_) (fun hc => ?_)
      · have hF := ift hc hF
        refine lv_iload_n hx hb dX1_endOf_31 rfl (lv_at hl 2 rfl) ?_
        obtain rfl := Option.some.inj hF
        exact W.iret (v := x2) hx hb hr (fun t ht hW => ⟨⟨x2, (), rfl, rfl, QB.of ht hP hD⟩, hS.F ht⟩) hS.2.2 dX1_endOf_32
      · have hF := iff_ hc hF
        refine lv_aload_n hx hb dX1_endOf_8 rfl (lv_at hl 0 rfl) ?_
        refine lv_iload_n hx hb dX1_endOf_9 rfl (lv_at hl 1 rfl) ?_
        have hPc := hP.sub (ws' := (cwT cI h0 h1 h2 h3 h4 h5 tW)) [0, 1, 2, 3, 4, 5] rfl
        have hDc := hD.sub (ws' := (cwT cI h0 h1 h2 h3 h4 h5 tW)) [0, 1, 2, 3, 4, 5] (by decide) rfl
        have hFc := va_free (wc := (cwT cI h0 h1 h2 h3 h4 h5 tW)) hD hS hA [0, 1, 2, 3, 4, 5] rfl
        refine bd hF (fun r10 hG hF => ?_)
        refine va_calli (va_runV (As := [.int x1]) (rest := []) ⟨hx, hb, hml, hown, hts⟩ (c_X1_isWritten l dC dI cI sf H.size N h0 h1 h2 h3 h4 h5 tW x1 r10 hG) (cwV 1 hts gX1_endOf_X1_isWritten rfl rfl rfl (by decide +kernel) ⟨Nat.le_of_ble_eq_true rfl, Nat.le_of_ble_eq_true rfl⟩) ⟨fun a U g mk q => ⟨q.1, q.2.call⟩, va_recv hK hP (ci := 1) (q0 := 0) rfl rfl, fun U hU hW => ⟨rfl, PB.of hU hW hPc hK hDc hNN hSF hS hFc⟩⟩ rfl rfl hl.1 rfl (lv_room (Nat.le_of_ble_eq_true rfl)) dX1_endOf_10 ⟨Nat.le_of_ble_eq_true rfl, Nat.le_of_ble_eq_true rfl⟩) hS (fun q _ h => hFc q h) hFc (fun z_ u_ t H locs ht hvm hw hB hz1 hk1 hS => ?_)
        subst z_
        obtain ⟨hP1, hD1⟩ := hB
        rw [ht] at hP1
        have hJ := vb_join (ws' := (cwT cI h0 h1 h2 h3 h4 h5 tW)) hP hD [0, 1, 2, 3, 4, 5] [] [0, 1, 2, 3, 4, 5] rfl rfl (by decide) (by decide) hk1 hFc hP1 hD1 rfl (by decide) rfl
        clear hP hD hPc hDc hFc hP1 hD1 hk1 hz1 ht hvm hG
        obtain ⟨hP, hD⟩ := hJ
        refine lv_if_eq (tgt := 31) hx hb dX1_endOf_13 (by decide) (fun hc => ?_) (fun hc => ?_)
        · have hF := ift hc hF
          refine lv_iload_n hx hb dX1_endOf_31 rfl (lv_at hl 2 rfl) ?_
          obtain rfl := Option.some.inj hF
          exact W.iret (v := x2) hx hb hr (fun t ht hW => ⟨⟨x2, (), rfl, rfl, QB.of ht hP hD⟩, hS.F ht⟩) hS.2.2 dX1_endOf_32
        · have hF := iff_ hc hF
          refine lv_aload_n hx hb dX1_endOf_16 rfl (lv_at hl 0 rfl) ?_
          refine lv_iload_n hx hb dX1_endOf_17 rfl (lv_at hl 1 rfl) ?_
          refine lv_iload_n hx hb dX1_endOf_18 rfl (lv_at hl 1 rfl) ?_
          refine lv_iconst (v := nI 1) hx hb dX1_endOf_19 (by decide) ?_
          refine lv_iadd hx hb dX1_endOf_20 ?_
          have hPc := hP.sub (ws' := (cwT cI h0 h1 h2 h3 h4 h5 tW)) [0, 1, 2, 3, 4, 5] rfl
          have hDc := hD.sub (ws' := (cwT cI h0 h1 h2 h3 h4 h5 tW)) [0, 1, 2, 3, 4, 5] (by decide) rfl
          have hFc := va_free (wc := (cwT cI h0 h1 h2 h3 h4 h5 tW)) hD hS hA [0, 1, 2, 3, 4, 5] rfl
          refine bd hF (fun r21 hG hF => ?_)
          refine va_calli (va_runV (As := [.int x1, .int (x1 + (nI 1))]) (rest := []) ⟨hx, hb, hml, hown, hts⟩ (c_X1_passOne l dC dI cI sf H.size N h0 h1 h2 h3 h4 h5 tW x1 (x1 + (nI 1)) r21 hG) (cwV 2 hts gX1_endOf_X1_passOne rfl rfl rfl (by decide +kernel) ⟨Nat.le_of_ble_eq_true rfl, Nat.le_of_ble_eq_true rfl⟩) ⟨fun a U g mk q => ⟨q.1, q.2.call⟩, va_recv hK hP (ci := 1) (q0 := 0) rfl rfl, fun U hU hW => ⟨rfl, PB.of hU hW hPc hK hDc hNN hSF hS hFc⟩⟩ rfl rfl hl.1 rfl (lv_room (Nat.le_of_ble_eq_true rfl)) dX1_endOf_21 ⟨Nat.le_of_ble_eq_true rfl, Nat.le_of_ble_eq_true rfl⟩) hS (fun q _ h => hFc q h) hFc (fun z_ u_ t H locs ht hvm hw hB hz1 hk1 hS => ?_)
          subst z_
          obtain ⟨hP1, hD1⟩ := hB
          rw [ht] at hP1
          have hJ := vb_join (ws' := (cwT cI h0 h1 h2 h3 h4 h5 r21.2)) hP hD [0, 1, 2, 3, 4, 5] [] [0, 1, 2, 3, 4, 5] rfl rfl (by decide) (by decide) hk1 hFc hP1 hD1 rfl (by decide) rfl
          clear hP hD hPc hDc hFc hP1 hD1 hk1 hz1 ht hvm hG
          obtain ⟨hP, hD⟩ := hJ
          refine lv_pop hx hb dX1_endOf_24 rfl ?_
          refine lv_iinc (v := x2 + (nI 1)) (lv' := [(2, .int (x2 + (nI 1))), (0, .ref h0), (1, .int x1)]) hx hb dX1_endOf_25 hl (k := 2) rfl (by rfl) (by decide) rfl (fun ls hl => ?_)
          refine lv_goto (tgt := 2) hx hb dX1_endOf_28 (by decide) ?_
          exact ih2 r21.2 x1 (x2 + (nI 1)) _ _ _ hF hP hD hS (lv_sub hl [1, 2, 0] rfl)
  refine lv_istore_n (lv' := [(2, .int (nI 0)), (0, .ref h0), (1, .int p1)]) hx hb dX1_endOf_1 rfl hl (by decide) rfl (fun ls hl => ?_)
  exact kJ2 N tW p1 (nI 0) _ _ _ hF hP hD hS (lv_sub hl [1, 2, 0] rfl)
theorem inw_X1_everybody_X1 : ∀ w ∈ u_ws RX1 TX1 8, w ∈ wsX1_everybody := fun _ h => List.mem_cons_of_mem _ (List.mem_append_right _ h)
set_option maxHeartbeats 4000000 in
set_option maxRecDepth 100000 in
theorem c_X1_everybody (l : Launch) (dC : Nat → ClassId) (dI : Nat → Nat → Nat) (cI : ClassId) (sf : SFP) (sz : Nat) (N : Nat) (h0 h1 h2 h3 h4 h5 : Nat) (tW : TownS) (r : Int32) (hF : F_X1_everybody N tW = some r) : Met l yX1_everybody wsX1_everybody ({ frames := 0, cells := 0, slots := 0, locals := 0 }) (va_Pc [.ref h0] (PB (dC, dI) cI (cwT cI h0 h1 h2 h3 h4 h5 tW) sz sf)) (va_Qi (fun (z : Int32) (_ : Unit) => z = r) (fun _ t => QB (dC, dI) (cwT cI h0 h1 h2 h3 h4 h5 tW) (va_A (cwT cI h0 h1 h2 h3 h4 h5 tW) sz) t) (va_A (cwT cI h0 h1 h2 h3 h4 h5 tW) sz)) 0 0 (va_A (cwT cI h0 h1 h2 h3 h4 h5 tW) sz) := by
  refine Met.ofW (cc := cX1_everybody) (maxL := 1) (ret := (some .int)) (by decide) rfl ?_
  intro p e s m args below meth c s₁ B hml hv
  obtain ⟨rfl, hsz, hP, hK, hD0, hNN, hSF⟩ := hv
  have hx := B.exec
  have hb := B.bytes
  have hr := B.returns
  have hts := atoms_spec (ws := wsX1_everybody) B.pre
  have hown : s.vm.findClass RX1 = some m.cls := findClass_of_methodNamed B.named
  have hlocks := B.notSynchronized
  subst hsz
  have hD := hD0.self (sz := s.heap.size)
  generalize hAe : va_A (cwT cI h0 h1 h2 h3 h4 h5 tW) s.heap.size = A at hD hSF ⊢
  have hA : ∀ q : Nat, s.heap.size ≤ q → A q := fun q h => by rw [← hAe]; exact Or.inr h
  clear hAe hD0
  have hS : va_S A s.heap s.heap [] := va_S.rf
  have hl := lv_entry ([.ref h0]) (n := 1) (Nat.le_of_ble_eq_true rfl)
  rw [lg_entry_eq]
  generalize (lg_sl ([.ref h0]) ++ List.replicate (1 - (lg_sl ([.ref h0])).length) Slot.unset).toArray = ls at hl ⊢
  have hl : lv_has ls 1 [(0, .ref h0)] := hl
  rw [F_X1_everybody] at hF
  refine lv_iconst (v := nI 1) hx hb dX1_everybody_0 (by decide) ?_
  refine lv_aload_n hx hb dX1_everybody_1 rfl (lv_at hl 0 rfl) ?_
  refine va_get (D := (dC, dI)) (ci := 1) (v := .int tW.2.2.2.2.2.1) (C := RX1) (T := TX1) (N := 8) hx hb hts inw_X1_everybody_X1 hown hK hP 0 rfl rfl 5 (by decide) (hts (.fieldLink RX1 27 "DeniedOfEachOther$Town" "size" "I") (List.mem_of_getElem? (i := 1) rfl)) (fun _ h9 => h9) rfl dX1_everybody_2 ?_
  refine lv_ishl hx hb dX1_everybody_5 ?_
  refine lv_iconst (v := nI 1) hx hb dX1_everybody_6 (by decide) ?_
  refine lv_isub hx hb dX1_everybody_7 ?_
  obtain rfl := Option.some.inj hF
  exact W.iret (v := (((nI 1) <<< (tW.2.2.2.2.2.1 &&& 31)) - (nI 1))) hx hb hr (fun t ht hW => ⟨⟨(((nI 1) <<< (tW.2.2.2.2.2.1 &&& 31)) - (nI 1)), (), rfl, rfl, QB.of ht hP hD⟩, hS.F ht⟩) hS.2.2 dX1_everybody_8
theorem inw_X1_howManyLive_X1 : ∀ w ∈ u_ws RX1 TX1 8, w ∈ wsX1_howManyLive := fun _ h => List.mem_cons_of_mem _ (List.mem_append_right _ h)
set_option maxHeartbeats 4000000 in
set_option maxRecDepth 100000 in
theorem c_X1_howManyLive (l : Launch) (dC : Nat → ClassId) (dI : Nat → Nat → Nat) (cI : ClassId) (sf : SFP) (sz : Nat) (N : Nat) (h0 h1 h2 h3 h4 h5 : Nat) (tW : TownS) (r : Int32) (hF : F_X1_howManyLive N tW = some r) : Met l yX1_howManyLive wsX1_howManyLive ({ frames := 1, cells := 0, slots := 0, locals := 20 }) (va_Pc [.ref h0] (PB (dC, dI) cI (cwT cI h0 h1 h2 h3 h4 h5 tW) sz sf)) (va_Qi (fun (z : Int32) (_ : Unit) => z = r) (fun _ t => QB (dC, dI) (cwT cI h0 h1 h2 h3 h4 h5 tW) (va_A (cwT cI h0 h1 h2 h3 h4 h5 tW) sz) t) (va_A (cwT cI h0 h1 h2 h3 h4 h5 tW) sz)) 0 0 (va_A (cwT cI h0 h1 h2 h3 h4 h5 tW) sz) := by
  refine Met.ofW (cc := cX1_howManyLive) (maxL := 1) (ret := (some .int)) (by decide) rfl ?_
  intro p e s m args below meth c s₁ B hml hv
  obtain ⟨rfl, hsz, hP, hK, hD0, hNN, hSF⟩ := hv
  have hx := B.exec
  have hb := B.bytes
  have hr := B.returns
  have hts := atoms_spec (ws := wsX1_howManyLive) B.pre
  have hown : s.vm.findClass RX1 = some m.cls := findClass_of_methodNamed B.named
  have hlocks := B.notSynchronized
  subst hsz
  have hD := hD0.self (sz := s.heap.size)
  generalize hAe : va_A (cwT cI h0 h1 h2 h3 h4 h5 tW) s.heap.size = A at hD hSF ⊢
  have hA : ∀ q : Nat, s.heap.size ≤ q → A q := fun q h => by rw [← hAe]; exact Or.inr h
  clear hAe hD0
  have hS : va_S A s.heap s.heap [] := va_S.rf
  have hl := lv_entry ([.ref h0]) (n := 1) (Nat.le_of_ble_eq_true rfl)
  rw [lg_entry_eq]
  generalize (lg_sl ([.ref h0]) ++ List.replicate (1 - (lg_sl ([.ref h0])).length) Slot.unset).toArray = ls at hl ⊢
  have hl : lv_has ls 1 [(0, .ref h0)] := hl
  rw [F_X1_howManyLive] at hF
  refine lv_aload_n hx hb dX1_howManyLive_0 rfl (lv_at hl 0 rfl) ?_
  refine va_get (D := (dC, dI)) (ci := 1) (v := .int tW.2.2.2.2.2.2.1) (C := RX1) (T := TX1) (N := 8) hx hb hts inw_X1_howManyLive_X1 hown hK hP 0 rfl rfl 6 (by decide) (hts (.fieldLink RX1 31 "DeniedOfEachOther$Town" "living" "I") (List.mem_of_getElem? (i := 1) rfl)) (fun _ h9 => h9) rfl dX1_howManyLive_1 ?_
  have hPc := hP.sub (ws' := ([] : va_W)) [] rfl
  have hDc := hD.sub (ws' := ([] : va_W)) [] (by decide) rfl
  have hFc := va_free (wc := ([] : va_W)) hD hS hA [] rfl
  refine bd hF (fun r4 hG hF => ?_)
  refine va_calli (va_runS (As := [.int tW.2.2.2.2.2.2.1]) (rest := []) ⟨hx, hb, hml, hown, hts⟩ (c_J6_bitCount_0f7a4 l dC dI cI sf s.heap.size N  tW.2.2.2.2.2.2.1 r4 hG) (va_cwS 1 hts gX1_howManyLive_J6_bitCount_0f7a4 rfl rfl rfl (by decide +kernel) ⟨Nat.le_of_ble_eq_true rfl, Nat.le_of_ble_eq_true rfl⟩) ⟨fun a U g mk q => ⟨q.1, q.2.call⟩, fun U hU hW => ⟨rfl, PB.of hU hW hPc hK hDc hNN hSF hS hFc⟩⟩ rfl rfl hl.1 rfl (lv_room (Nat.le_of_ble_eq_true rfl)) dX1_howManyLive_4 ⟨Nat.le_of_ble_eq_true rfl, Nat.le_of_ble_eq_true rfl⟩) hS (fun q _ h => hFc q h) hFc (fun z_ u_ t H locs ht hvm hw hB hz1 hk1 hS => ?_)
  subst z_
  obtain ⟨hP1, hD1⟩ := hB
  rw [ht] at hP1
  have hJ := vb_join (ws' := (cwT cI h0 h1 h2 h3 h4 h5 tW)) hP hD [] [0, 1, 2, 3, 4, 5] [0, 1, 2, 3, 4, 5] rfl rfl (by decide) (by decide) hk1 hFc hP1 hD1 rfl (by decide) rfl
  clear hP hD hPc hDc hFc hP1 hD1 hk1 hz1 ht hvm hG
  obtain ⟨hP, hD⟩ := hJ
  obtain rfl := Option.some.inj hF
  exact W.iret (v := r4) hx hb hr (fun t ht hW => ⟨⟨r4, (), rfl, rfl, QB.of ht hP hD⟩, hS.F ht⟩) hS.2.2 dX1_howManyLive_7
theorem inw_X1_pass_X1 : ∀ w ∈ u_ws RX1 TX1 8, w ∈ wsX1_pass := fun _ h => List.mem_cons_of_mem _ (List.mem_append_right _ h)
set_option maxHeartbeats 4000000 in
set_option maxRecDepth 100000 in
theorem c_X1_pass (l : Launch) (dC : Nat → ClassId) (dI : Nat → Nat → Nat) (cI : ClassId) (sf : SFP) (sz : Nat) (N : Nat) (h0 h1 h2 h3 h4 h5 : Nat) (tW : TownS) (p1 : Int32) (r : TownS) (hF : F_X1_pass N tW p1 = some r) : Met l yX1_pass wsX1_pass ({ frames := 4, cells := 0, slots := 0, locals := 99 }) (va_Pc [.ref h0, .int p1] (PB (dC, dI) cI (cwT cI h0 h1 h2 h3 h4 h5 tW) sz sf)) (va_Qv (fun _ : Unit => True) (fun _ t => QB (dC, dI) (cwT cI h0 h1 h2 h3 h4 h5 r) (va_A (cwT cI h0 h1 h2 h3 h4 h5 tW) sz) t) (va_A (cwT cI h0 h1 h2 h3 h4 h5 tW) sz)) 0 0 (va_A (cwT cI h0 h1 h2 h3 h4 h5 tW) sz) := by
  refine Met.ofW (cc := cX1_pass) (maxL := 3) (ret := none) (by decide) rfl ?_
  intro p e s m args below meth c s₁ B hml hv
  obtain ⟨rfl, hsz, hP, hK, hD0, hNN, hSF⟩ := hv
  have hx := B.exec
  have hb := B.bytes
  have hr := B.returns
  have hts := atoms_spec (ws := wsX1_pass) B.pre
  have hown : s.vm.findClass RX1 = some m.cls := findClass_of_methodNamed B.named
  have hlocks := B.notSynchronized
  subst hsz
  have hD := hD0.self (sz := s.heap.size)
  generalize hAe : va_A (cwT cI h0 h1 h2 h3 h4 h5 tW) s.heap.size = A at hD hSF ⊢
  have hA : ∀ q : Nat, s.heap.size ≤ q → A q := fun q h => by rw [← hAe]; exact Or.inr h
  clear hAe hD0
  have hS : va_S A s.heap s.heap [] := va_S.rf
  have hl := lv_entry ([.ref h0, .int p1]) (n := 3) (Nat.le_of_ble_eq_true rfl)
  rw [lg_entry_eq]
  generalize (lg_sl ([.ref h0, .int p1]) ++ List.replicate (3 - (lg_sl ([.ref h0, .int p1])).length) Slot.unset).toArray = ls at hl ⊢
  have hl : lv_has ls 3 [(0, .ref h0), (1, .int p1)] := hl
  rw [F_X1_pass] at hF
  refine lv_iconst (v := nI 0) hx hb dX1_pass_0 (by decide) ?_
  refine vW_have (fun R av Q => ∀ (n2 : Nat) (tW : TownS) (x1 : Int32) (x2 : Int32) (H : Heap) (locs : List Loc) (ls : Array Slot), F_X1_pass_2 N n2 tW x1 x2 = some r → va_P (dC, dI) vwCl (cwT cI h0 h1 h2 h3 h4 h5 tW) H → va_D A (cwT cI h0 h1 h2 h3 h4 h5 tW) → va_S A s.heap H locs → lv_has ls 3 [(0, .ref h0), (1, .int x1), (2, .int x2)] → W p l e R s m av below meth c H locs 0 0 Q (F0 m 2 ls [])) ?_ (fun kJ2 => ?_)
  · intro n2
    induction n2 with
    | zero => intro tW x1 x2 H locs ls hF; exact nn hF
    | succ n2 ih2 =>
      intro tW x1 x2 H locs ls hF hP hD hS hl
      rw [F_X1_pass_2] at hF
      refine lv_iload_n hx hb dX1_pass_2 rfl (lv_at hl 2 rfl) ?_
      refine lv_iload_n hx hb dX1_pass_3 rfl (lv_at hl 1 rfl) ?_
      refine lv_icmp_ge (tgt := 21) hx hb dX1_pass_4 (by decide) (fun hc => ?_) (fun hc => ?_)
      · have hF := ift hc hF
        obtain rfl := Option.some.inj hF
        exact W.vret hx hb hr (fun t ht hW => ⟨⟨(), rfl, trivial, QB.of ht hP hD⟩, hS.F ht⟩) hS.2.2 dX1_pass_21
      · have hF := iff_ hc hF
        refine lv_aload_n hx hb dX1_pass_7 rfl (lv_at hl 0 rfl) ?_
        refine lv_iconst (v := nI 0) hx hb dX1_pass_8 (by decide) ?_
        refine lv_bipush (v := nI 8) hx hb dX1_pass_9 (by decide) ?_
        have hPc := hP.sub (ws' := (cwT cI h0 h1 h2 h3 h4 h5 tW)) [0, 1, 2, 3, 4, 5] rfl
        have hDc := hD.sub (ws' := (cwT cI h0 h1 h2 h3 h4 h5 tW)) [0, 1, 2, 3, 4, 5] (by decide) rfl
        have hFc := va_free (wc := (cwT cI h0 h1 h2 h3 h4 h5 tW)) hD hS hA [0, 1, 2, 3, 4, 5] rfl
        refine bd hF (fun r11 hG hF => ?_)
        refine va_calli (va_runV (As := [.int (nI 0), .int (nI 8)]) (rest := []) ⟨hx, hb, hml, hown, hts⟩ (c_X1_passOne l dC dI cI sf H.size N h0 h1 h2 h3 h4 h5 tW (nI 0) (nI 8) r11 hG) (cwV 2 hts gX1_pass_X1_passOne rfl rfl rfl (by decide +kernel) ⟨Nat.le_of_ble_eq_true rfl, Nat.le_of_ble_eq_true rfl⟩) ⟨fun a U g mk q => ⟨q.1, q.2.call⟩, va_recv hK hP (ci := 1) (q0 := 0) rfl rfl, fun U hU hW => ⟨rfl, PB.of hU hW hPc hK hDc hNN hSF hS hFc⟩⟩ rfl rfl hl.1 rfl (lv_room (Nat.le_of_ble_eq_true rfl)) dX1_pass_11 ⟨Nat.le_of_ble_eq_true rfl, Nat.le_of_ble_eq_true rfl⟩) hS (fun q _ h => hFc q h) hFc (fun z_ u_ t H locs ht hvm hw hB hz1 hk1 hS => ?_)
        subst z_
        obtain ⟨hP1, hD1⟩ := hB
        rw [ht] at hP1
        have hJ := vb_join (ws' := (cwT cI h0 h1 h2 h3 h4 h5 r11.2)) hP hD [0, 1, 2, 3, 4, 5] [] [0, 1, 2, 3, 4, 5] rfl rfl (by decide) (by decide) hk1 hFc hP1 hD1 rfl (by decide) rfl
        clear hP hD hPc hDc hFc hP1 hD1 hk1 hz1 ht hvm hG
        obtain ⟨hP, hD⟩ := hJ
        refine lv_pop hx hb dX1_pass_14 rfl ?_
        refine lv_iinc (v := x2 + (nI 1)) (lv' := [(2, .int (x2 + (nI 1))), (0, .ref h0), (1, .int x1)]) hx hb dX1_pass_15 hl (k := 2) rfl (by rfl) (by decide) rfl (fun ls hl => ?_)
        refine lv_goto (tgt := 2) hx hb dX1_pass_18 (by decide) ?_
        exact ih2 r11.2 x1 (x2 + (nI 1)) _ _ _ hF hP hD hS (lv_sub hl [1, 2, 0] rfl)
  refine lv_istore_n (lv' := [(2, .int (nI 0)), (0, .ref h0), (1, .int p1)]) hx hb dX1_pass_1 rfl hl (by decide) rfl (fun ls hl => ?_)
  exact kJ2 N tW p1 (nI 0) _ _ _ hF hP hD hS (lv_sub hl [1, 2, 0] rfl)
theorem inw_X1_passFor_X1 : ∀ w ∈ u_ws RX1 TX1 8, w ∈ wsX1_passFor := fun _ h => List.mem_cons_of_mem _ (List.mem_append_right _ h)
set_option maxHeartbeats 4000000 in
set_option maxRecDepth 100000 in
theorem c_X1_passFor (l : Launch) (dC : Nat → ClassId) (dI : Nat → Nat → Nat) (cI : ClassId) (sf : SFP) (sz : Nat) (N : Nat) (h0 h1 h2 h3 h4 h5 : Nat) (tW : TownS) (p1 : Int32) (p2 : Int32) (r : TownS) (hF : F_X1_passFor N tW p1 p2 = some r) : Met l yX1_passFor wsX1_passFor ({ frames := 4, cells := 0, slots := 0, locals := 99 }) (va_Pc [.ref h0, .int p1, .int p2] (PB (dC, dI) cI (cwT cI h0 h1 h2 h3 h4 h5 tW) sz sf)) (va_Qv (fun _ : Unit => True) (fun _ t => QB (dC, dI) (cwT cI h0 h1 h2 h3 h4 h5 r) (va_A (cwT cI h0 h1 h2 h3 h4 h5 tW) sz) t) (va_A (cwT cI h0 h1 h2 h3 h4 h5 tW) sz)) 0 0 (va_A (cwT cI h0 h1 h2 h3 h4 h5 tW) sz) := by
  refine Met.ofW (cc := cX1_passFor) (maxL := 4) (ret := none) (by decide) rfl ?_
  intro p e s m args below meth c s₁ B hml hv
  obtain ⟨rfl, hsz, hP, hK, hD0, hNN, hSF⟩ := hv
  have hx := B.exec
  have hb := B.bytes
  have hr := B.returns
  have hts := atoms_spec (ws := wsX1_passFor) B.pre
  have hown : s.vm.findClass RX1 = some m.cls := findClass_of_methodNamed B.named
  have hlocks := B.notSynchronized
  subst hsz
  have hD := hD0.self (sz := s.heap.size)
  generalize hAe : va_A (cwT cI h0 h1 h2 h3 h4 h5 tW) s.heap.size = A at hD hSF ⊢
  have hA : ∀ q : Nat, s.heap.size ≤ q → A q := fun q h => by rw [← hAe]; exact Or.inr h
  clear hAe hD0
  have hS : va_S A s.heap s.heap [] := va_S.rf
  have hl := lv_entry ([.ref h0, .int p1, .int p2]) (n := 4) (Nat.le_of_ble_eq_true rfl)
  rw [lg_entry_eq]
  generalize (lg_sl ([.ref h0, .int p1, .int p2]) ++ List.replicate (4 - (lg_sl ([.ref h0, .int p1, .int p2])).length) Slot.unset).toArray = ls at hl ⊢
  have hl : lv_has ls 4 [(0, .ref h0), (1, .int p1), (2, .int p2)] := hl
  rw [F_X1_passFor] at hF
  refine lv_iconst (v := nI 0) hx hb dX1_passFor_0 (by decide) ?_
  refine vW_have (fun R av Q => ∀ (n2 : Nat) (tW : TownS) (x1 : Int32) (x2 : Int32) (x3 : Int32) (H : Heap) (locs : List Loc) (ls : Array Slot), F_X1_passFor_2 N n2 tW x1 x2 x3 = some r → va_P (dC, dI) vwCl (cwT cI h0 h1 h2 h3 h4 h5 tW) H → va_D A (cwT cI h0 h1 h2 h3 h4 h5 tW) → va_S A s.heap H locs → lv_has ls 4 [(0, .ref h0), (1, .int x1), (2, .int x2), (3, .int x3)] → W p l e R s m av below meth c H locs 0 0 Q (F0 m 2 ls [])) ?_ (fun kJ2 => ?_)
  · intro n2
    induction n2 with
    | zero => intro tW x1 x2 x3 H locs ls hF; exact nn hF
    | succ n2 ih2 =>
      intro tW x1 x2 x3 H locs ls hF hP hD hS hl
      rw [F_X1_passFor_2] at hF
      refine lv_iload_n hx hb dX1_passFor_2 rfl (lv_at hl 3 rfl) ?_
      refine lv_iload_n hx hb dX1_passFor_3 rfl (lv_at hl 2 rfl) ?_
      refine lv_icmp_ge (tgt := 22) hx hb dX1_passFor_4 (by decide) (fun hc => ?_) (fun hc => ?_)
      · have hF := ift hc hF
        obtain rfl := Option.some.inj hF
        exact W.vret hx hb hr (fun t ht hW => ⟨⟨(), rfl, trivial, QB.of ht hP hD⟩, hS.F ht⟩) hS.2.2 dX1_passFor_22
      · have hF := iff_ hc hF
        refine lv_aload_n hx hb dX1_passFor_7 rfl (lv_at hl 0 rfl) ?_
        refine lv_iload_n hx hb dX1_passFor_8 rfl (lv_at hl 1 rfl) ?_
        refine lv_iload_n hx hb dX1_passFor_9 rfl (lv_at hl 1 rfl) ?_
        refine lv_iconst (v := nI 1) hx hb dX1_passFor_10 (by decide) ?_
        refine lv_iadd hx hb dX1_passFor_11 ?_
        have hPc := hP.sub (ws' := (cwT cI h0 h1 h2 h3 h4 h5 tW)) [0, 1, 2, 3, 4, 5] rfl
        have hDc := hD.sub (ws' := (cwT cI h0 h1 h2 h3 h4 h5 tW)) [0, 1, 2, 3, 4, 5] (by decide) rfl
        have hFc := va_free (wc := (cwT cI h0 h1 h2 h3 h4 h5 tW)) hD hS hA [0, 1, 2, 3, 4, 5] rfl
        refine bd hF (fun r12 hG hF => ?_)
        refine va_calli (va_runV (As := [.int x1, .int (x1 + (nI 1))]) (rest := []) ⟨hx, hb, hml, hown, hts⟩ (c_X1_passOne l dC dI cI sf H.size N h0 h1 h2 h3 h4 h5 tW x1 (x1 + (nI 1)) r12 hG) (cwV 2 hts gX1_passFor_X1_passOne rfl rfl rfl (by decide +kernel) ⟨Nat.le_of_ble_eq_true rfl, Nat.le_of_ble_eq_true rfl⟩) ⟨fun a U g mk q => ⟨q.1, q.2.call⟩, va_recv hK hP (ci := 1) (q0 := 0) rfl rfl, fun U hU hW => ⟨rfl, PB.of hU hW hPc hK hDc hNN hSF hS hFc⟩⟩ rfl rfl hl.1 rfl (lv_room (Nat.le_of_ble_eq_true rfl)) dX1_passFor_12 ⟨Nat.le_of_ble_eq_true rfl, Nat.le_of_ble_eq_true rfl⟩) hS (fun q _ h => hFc q h) hFc (fun z_ u_ t H locs ht hvm hw hB hz1 hk1 hS => ?_)
        subst z_
        obtain ⟨hP1, hD1⟩ := hB
        rw [ht] at hP1
        have hJ := vb_join (ws' := (cwT cI h0 h1 h2 h3 h4 h5 r12.2)) hP hD [0, 1, 2, 3, 4, 5] [] [0, 1, 2, 3, 4, 5] rfl rfl (by decide) (by decide) hk1 hFc hP1 hD1 rfl (by decide) rfl
        clear hP hD hPc hDc hFc hP1 hD1 hk1 hz1 ht hvm hG
        obtain ⟨hP, hD⟩ := hJ
        refine lv_pop hx hb dX1_passFor_15 rfl ?_
        refine lv_iinc (v := x3 + (nI 1)) (lv' := [(3, .int (x3 + (nI 1))), (0, .ref h0), (1, .int x1), (2, .int x2)]) hx hb dX1_passFor_16 hl (k := 3) rfl (by rfl) (by decide) rfl (fun ls hl => ?_)
        refine lv_goto (tgt := 2) hx hb dX1_passFor_19 (by decide) ?_
        exact ih2 r12.2 x1 x2 (x3 + (nI 1)) _ _ _ hF hP hD hS (lv_sub hl [1, 2, 3, 0] rfl)
  refine lv_istore_n (lv' := [(3, .int (nI 0)), (0, .ref h0), (1, .int p1), (2, .int p2)]) hx hb dX1_passFor_1 rfl hl (by decide) rfl (fun ls hl => ?_)
  exact kJ2 N tW p1 p2 (nI 0) _ _ _ hF hP hD hS (lv_sub hl [1, 2, 3, 0] rfl)
theorem inw_X1_topicsOf_X1 : ∀ w ∈ u_ws RX1 TX1 8, w ∈ wsX1_topicsOf := fun _ h => List.mem_cons_of_mem _ (List.mem_append_right _ h)
set_option maxHeartbeats 4000000 in
set_option maxRecDepth 100000 in
theorem c_X1_topicsOf (l : Launch) (dC : Nat → ClassId) (dI : Nat → Nat → Nat) (cI : ClassId) (sf : SFP) (sz : Nat) (N : Nat) (h0 h1 h2 h3 h4 h5 : Nat) (tW : TownS) (p1 : Int32) (r : Int32) (hF : F_X1_topicsOf N tW p1 = some r) : Met l yX1_topicsOf wsX1_topicsOf ({ frames := 1, cells := 0, slots := 0, locals := 22 }) (va_Pc [.ref h0, .int p1] (PB (dC, dI) cI (cwT cI h0 h1 h2 h3 h4 h5 tW) sz sf)) (va_Qi (fun (z : Int32) (_ : Unit) => z = r) (fun _ t => QB (dC, dI) (cwT cI h0 h1 h2 h3 h4 h5 tW) (va_A (cwT cI h0 h1 h2 h3 h4 h5 tW) sz) t) (va_A (cwT cI h0 h1 h2 h3 h4 h5 tW) sz)) 0 0 (va_A (cwT cI h0 h1 h2 h3 h4 h5 tW) sz) := by
  refine Met.ofW (cc := cX1_topicsOf) (maxL := 4) (ret := (some .int)) (by decide) rfl ?_
  intro p e s m args below meth c s₁ B hml hv
  obtain ⟨rfl, hsz, hP, hK, hD0, hNN, hSF⟩ := hv
  have hx := B.exec
  have hb := B.bytes
  have hr := B.returns
  have hts := atoms_spec (ws := wsX1_topicsOf) B.pre
  have hown : s.vm.findClass RX1 = some m.cls := findClass_of_methodNamed B.named
  have hlocks := B.notSynchronized
  subst hsz
  have hD := hD0.self (sz := s.heap.size)
  generalize hAe : va_A (cwT cI h0 h1 h2 h3 h4 h5 tW) s.heap.size = A at hD hSF ⊢
  have hA : ∀ q : Nat, s.heap.size ≤ q → A q := fun q h => by rw [← hAe]; exact Or.inr h
  clear hAe hD0
  have hS : va_S A s.heap s.heap [] := va_S.rf
  have hl := lv_entry ([.ref h0, .int p1]) (n := 4) (Nat.le_of_ble_eq_true rfl)
  rw [lg_entry_eq]
  generalize (lg_sl ([.ref h0, .int p1]) ++ List.replicate (4 - (lg_sl ([.ref h0, .int p1])).length) Slot.unset).toArray = ls at hl ⊢
  have hl : lv_has ls 4 [(0, .ref h0), (1, .int p1)] := hl
  rw [F_X1_topicsOf] at hF
  refine lv_iconst (v := nI 0) hx hb dX1_topicsOf_0 (by decide) ?_
  refine lv_istore_n (lv' := [(2, .int (nI 0)), (0, .ref h0), (1, .int p1)]) hx hb dX1_topicsOf_1 rfl hl (by decide) rfl (fun ls hl => ?_)
  refine lv_iconst (v := nI 0) hx hb dX1_topicsOf_2 (by decide) ?_
  refine vW_have (fun R av Q => ∀ (n4 : Nat) (x1 : Int32) (x2 : Int32) (x3 : Int32) (H : Heap) (locs : List Loc) (ls : Array Slot), F_X1_topicsOf_4 N tW n4 x1 x2 x3 = some r → va_P (dC, dI) vwCl (cwT cI h0 h1 h2 h3 h4 h5 tW) H → va_D A (cwT cI h0 h1 h2 h3 h4 h5 tW) → va_S A s.heap H locs → lv_has ls 4 [(0, .ref h0), (1, .int x1), (2, .int x2), (3, .int x3)] → W p l e R s m av below meth c H locs 0 0 Q (F0 m 4 ls [])) ?_ (fun kJ4 => ?_)
  · intro n4
    induction n4 with
    | zero => intro x1 x2 x3 H locs ls hF; exact nn hF
    | succ n4 ih4 =>
      intro x1 x2 x3 H locs ls hF hP hD hS hl
      rw [F_X1_topicsOf_4] at hF
      refine lv_iload_n hx hb dX1_topicsOf_4 rfl (lv_at hl 3 rfl) ?_
      refine lv_bipush (v := nI 8) hx hb dX1_topicsOf_5 (by decide) ?_
      refine lv_icmp_ge (tgt := 28) hx hb dX1_topicsOf_7 (by decide) (fun hc => ?_) (fun hc => ?_)
      · have hF := ift hc hF
        refine lv_iload_n hx hb dX1_topicsOf_28 rfl (lv_at hl 2 rfl) ?_
        obtain rfl := Option.some.inj hF
        exact W.iret (v := x2) hx hb hr (fun t ht hW => ⟨⟨x2, (), rfl, rfl, QB.of ht hP hD⟩, hS.F ht⟩) hS.2.2 dX1_topicsOf_29
      · have hF := iff_ hc hF
        refine lv_aload_n hx hb dX1_topicsOf_10 rfl (lv_at hl 0 rfl) ?_
        refine lv_iload_n hx hb dX1_topicsOf_11 rfl (lv_at hl 1 rfl) ?_
        refine lv_iload_n hx hb dX1_topicsOf_12 rfl (lv_at hl 3 rfl) ?_
        have hPc := hP.sub (ws' := (cwT cI h0 h1 h2 h3 h4 h5 tW)) [0, 1, 2, 3, 4, 5] rfl
        have hDc := hD.sub (ws' := (cwT cI h0 h1 h2 h3 h4 h5 tW)) [0, 1, 2, 3, 4, 5] (by decide) rfl
        have hFc := va_free (wc := (cwT cI h0 h1 h2 h3 h4 h5 tW)) hD hS hA [0, 1, 2, 3, 4, 5] rfl
        refine bd hF (fun r13 hG hF => ?_)
        refine va_calli (va_runV (As := [.int x1, .int x3]) (rest := []) ⟨hx, hb, hml, hown, hts⟩ (c_X1_wordOf l dC dI cI sf H.size N h0 h1 h2 h3 h4 h5 tW x1 x3 r13 hG) (cwV 2 hts gX1_topicsOf_X1_wordOf rfl rfl rfl (by decide +kernel) ⟨Nat.le_of_ble_eq_true rfl, Nat.le_of_ble_eq_true rfl⟩) ⟨fun a U g mk q => ⟨q.1, q.2.call⟩, va_recv hK hP (ci := 1) (q0 := 0) rfl rfl, fun U hU hW => ⟨rfl, PB.of hU hW hPc hK hDc hNN hSF hS hFc⟩⟩ rfl rfl hl.1 rfl (lv_room (Nat.le_of_ble_eq_true rfl)) dX1_topicsOf_13 ⟨Nat.le_of_ble_eq_true rfl, Nat.le_of_ble_eq_true rfl⟩) hS (fun q _ h => hFc q h) hFc (fun z_ u_ t H locs ht hvm hw hB hz1 hk1 hS => ?_)
        subst z_
        obtain ⟨hP1, hD1⟩ := hB
        rw [ht] at hP1
        have hJ := vb_join (ws' := (cwT cI h0 h1 h2 h3 h4 h5 tW)) hP hD [0, 1, 2, 3, 4, 5] [] [0, 1, 2, 3, 4, 5] rfl rfl (by decide) (by decide) hk1 hFc hP1 hD1 rfl (by decide) rfl
        clear hP hD hPc hDc hFc hP1 hD1 hk1 hz1 ht hvm hG
        obtain ⟨hP, hD⟩ := hJ
        refine vW_have (fun R av Q => ∀ (x1 : Int32) (x2 : Int32) (x3 : Int32) (H : Heap) (locs : List Loc) (ls : Array Slot), F_X1_topicsOf_22 N tW (fun cx1 cx2 cx3 => F_X1_topicsOf_4 N tW n4 cx1 cx2 cx3) x1 x2 x3 = some r → va_P (dC, dI) vwCl (cwT cI h0 h1 h2 h3 h4 h5 tW) H → va_D A (cwT cI h0 h1 h2 h3 h4 h5 tW) → va_S A s.heap H locs → lv_has ls 4 [(0, .ref h0), (1, .int x1), (2, .int x2), (3, .int x3)] → W p l e R s m av below meth c H locs 0 0 Q (F0 m 22 ls [])) ?_ (fun kJ22 => ?_)
        · 
          intro x1 x2 x3 H locs ls hF hP hD hS hl
          rw [F_X1_topicsOf_22] at hF
          refine lv_iinc (v := x3 + (nI 1)) (lv' := [(3, .int (x3 + (nI 1))), (0, .ref h0), (1, .int x1), (2, .int x2)]) hx hb dX1_topicsOf_22 hl (k := 3) rfl (by rfl) (by decide) rfl (fun ls hl => ?_)
          refine lv_goto (tgt := 4) hx hb dX1_topicsOf_25 (by decide) ?_
          exact ih4 x1 x2 (x3 + (nI 1)) _ _ _ hF hP hD hS (lv_sub hl [1, 2, 3, 0] rfl)
        refine lv_if_eq (tgt := 22) hx hb dX1_topicsOf_16 (by decide) (fun hc => ?_) (fun hc => ?_)
        · have hF := ift hc hF
          exact kJ22 x1 x2 x3 _ _ _ hF hP hD hS (lv_sub hl [0, 1, 2, 3] rfl)
        · have hF := iff_ hc hF
          refine lv_iinc (v := x2 + (nI 1)) (lv' := [(2, .int (x2 + (nI 1))), (0, .ref h0), (1, .int x1), (3, .int x3)]) hx hb dX1_topicsOf_19 hl (k := 2) rfl (by rfl) (by decide) rfl (fun ls hl => ?_)
          exact kJ22 x1 (x2 + (nI 1)) x3 _ _ _ hF hP hD hS (lv_sub hl [1, 2, 0, 3] rfl)
  refine lv_istore_n (lv' := [(3, .int (nI 0)), (2, .int (nI 0)), (0, .ref h0), (1, .int p1)]) hx hb dX1_topicsOf_3 rfl hl (by decide) rfl (fun ls hl => ?_)
  exact kJ4 N p1 (nI 0) (nI 0) _ _ _ hF hP hD hS (lv_sub hl [2, 3, 1, 0] rfl)
theorem inw_X1_wordsOfLiving_X1 : ∀ w ∈ u_ws RX1 TX1 8, w ∈ wsX1_wordsOfLiving := fun _ h => List.mem_cons_of_mem _ (List.mem_append_right _ h)
set_option maxHeartbeats 4000000 in
set_option maxRecDepth 100000 in
theorem c_X1_wordsOfLiving (l : Launch) (dC : Nat → ClassId) (dI : Nat → Nat → Nat) (cI : ClassId) (sf : SFP) (sz : Nat) (N : Nat) (h0 h1 h2 h3 h4 h5 : Nat) (tW : TownS) (r : Int32) (hF : F_X1_wordsOfLiving N tW = some r) : Met l yX1_wordsOfLiving wsX1_wordsOfLiving ({ frames := 1, cells := 0, slots := 0, locals := 20 }) (va_Pc [.ref h0] (PB (dC, dI) cI (cwT cI h0 h1 h2 h3 h4 h5 tW) sz sf)) (va_Qi (fun (z : Int32) (_ : Unit) => z = r) (fun _ t => QB (dC, dI) (cwT cI h0 h1 h2 h3 h4 h5 tW) (va_A (cwT cI h0 h1 h2 h3 h4 h5 tW) sz) t) (va_A (cwT cI h0 h1 h2 h3 h4 h5 tW) sz)) 0 0 (va_A (cwT cI h0 h1 h2 h3 h4 h5 tW) sz) := by
  refine Met.ofW (cc := cX1_wordsOfLiving) (maxL := 3) (ret := (some .int)) (by decide) rfl ?_
  intro p e s m args below meth c s₁ B hml hv
  obtain ⟨rfl, hsz, hP, hK, hD0, hNN, hSF⟩ := hv
  have hx := B.exec
  have hb := B.bytes
  have hr := B.returns
  have hts := atoms_spec (ws := wsX1_wordsOfLiving) B.pre
  have hown : s.vm.findClass RX1 = some m.cls := findClass_of_methodNamed B.named
  have hlocks := B.notSynchronized
  subst hsz
  have hD := hD0.self (sz := s.heap.size)
  generalize hAe : va_A (cwT cI h0 h1 h2 h3 h4 h5 tW) s.heap.size = A at hD hSF ⊢
  have hA : ∀ q : Nat, s.heap.size ≤ q → A q := fun q h => by rw [← hAe]; exact Or.inr h
  clear hAe hD0
  have hS : va_S A s.heap s.heap [] := va_S.rf
  have hl := lv_entry ([.ref h0]) (n := 3) (Nat.le_of_ble_eq_true rfl)
  rw [lg_entry_eq]
  generalize (lg_sl ([.ref h0]) ++ List.replicate (3 - (lg_sl ([.ref h0])).length) Slot.unset).toArray = ls at hl ⊢
  have hl : lv_has ls 3 [(0, .ref h0)] := hl
  rw [F_X1_wordsOfLiving] at hF
  refine lv_iconst (v := nI 0) hx hb dX1_wordsOfLiving_0 (by decide) ?_
  refine lv_istore_n (lv' := [(1, .int (nI 0)), (0, .ref h0)]) hx hb dX1_wordsOfLiving_1 rfl hl (by decide) rfl (fun ls hl => ?_)
  refine lv_iconst (v := nI 0) hx hb dX1_wordsOfLiving_2 (by decide) ?_
  refine vW_have (fun R av Q => ∀ (n4 : Nat) (x1 : Int32) (x2 : Int32) (H : Heap) (locs : List Loc) (ls : Array Slot), F_X1_wordsOfLiving_4 N tW n4 x1 x2 = some r → va_P (dC, dI) vwCl (cwT cI h0 h1 h2 h3 h4 h5 tW) H → va_D A (cwT cI h0 h1 h2 h3 h4 h5 tW) → va_S A s.heap H locs → lv_has ls 3 [(0, .ref h0), (1, .int x1), (2, .int x2)] → W p l e R s m av below meth c H locs 0 0 Q (F0 m 4 ls [])) ?_ (fun kJ4 => ?_)
  · intro n4
    induction n4 with
    | zero => intro x1 x2 H locs ls hF; exact nn hF
    | succ n4 ih4 =>
      intro x1 x2 H locs ls hF hP hD hS hl
      rw [F_X1_wordsOfLiving_4] at hF
      refine lv_iload_n hx hb dX1_wordsOfLiving_4 rfl (lv_at hl 2 rfl) ?_
      refine lv_bipush (v := nI 8) hx hb dX1_wordsOfLiving_5 (by decide) ?_
      refine lv_icmp_ge (tgt := 40) hx hb dX1_wordsOfLiving_7 (by decide) (fun hc => ?_) (fun hc => ?_)
      · have hF := ift hc hF
        refine lv_iload_n hx hb dX1_wordsOfLiving_40 rfl (lv_at hl 1 rfl) ?_
        obtain rfl := Option.some.inj hF
        exact W.iret (v := x1) hx hb hr (fun t ht hW => ⟨⟨x1, (), rfl, rfl, QB.of ht hP hD⟩, hS.F ht⟩) hS.2.2 dX1_wordsOfLiving_41
      · have hF := iff_ hc hF
        refine lv_iload_n hx hb dX1_wordsOfLiving_10 rfl (lv_at hl 1 rfl) ?_
        refine lv_aload_n hx hb dX1_wordsOfLiving_11 rfl (lv_at hl 0 rfl) ?_
        refine va_get (D := (dC, dI)) (ci := 1) (v := .ref h4) (C := RX1) (T := TX1) (N := 8) hx hb hts inw_X1_wordsOfLiving_X1 hown hK hP 0 rfl rfl 3 (by decide) (hts (.fieldLink RX1 21 "DeniedOfEachOther$Town" "yes" "[I") (List.mem_of_getElem? (i := 1) rfl)) (fun _ h9 => h9) rfl dX1_wordsOfLiving_12 ?_
        refine lv_iload_n hx hb dX1_wordsOfLiving_15 rfl (lv_at hl 2 rfl) ?_
        refine cki hF (fun hi hF => ?_)
        refine va_iald (D := (dC, dI)) hx hb hK hP 4 0 rfl rfl hi dX1_wordsOfLiving_16 ?_
        refine lv_aload_n hx hb dX1_wordsOfLiving_17 rfl (lv_at hl 0 rfl) ?_
        refine va_get (D := (dC, dI)) (ci := 1) (v := .ref h5) (C := RX1) (T := TX1) (N := 8) hx hb hts inw_X1_wordsOfLiving_X1 hown hK hP 0 rfl rfl 4 (by decide) (hts (.fieldLink RX1 24 "DeniedOfEachOther$Town" "no" "[I") (List.mem_of_getElem? (i := 2) rfl)) (fun _ h9 => h9) rfl dX1_wordsOfLiving_18 ?_
        refine lv_iload_n hx hb dX1_wordsOfLiving_21 rfl (lv_at hl 2 rfl) ?_
        refine cki hF (fun hi hF => ?_)
        refine va_iald (D := (dC, dI)) hx hb hK hP 5 0 rfl rfl hi dX1_wordsOfLiving_22 ?_
        refine lv_ior hx hb dX1_wordsOfLiving_23 ?_
        refine lv_aload_n hx hb dX1_wordsOfLiving_24 rfl (lv_at hl 0 rfl) ?_
        refine va_get (D := (dC, dI)) (ci := 1) (v := .int tW.2.2.2.2.2.2.1) (C := RX1) (T := TX1) (N := 8) hx hb hts inw_X1_wordsOfLiving_X1 hown hK hP 0 rfl rfl 6 (by decide) (hts (.fieldLink RX1 31 "DeniedOfEachOther$Town" "living" "I") (List.mem_of_getElem? (i := 3) rfl)) (fun _ h9 => h9) rfl dX1_wordsOfLiving_25 ?_
        refine lv_iand hx hb dX1_wordsOfLiving_28 ?_
        have hPc := hP.sub (ws' := ([] : va_W)) [] rfl
        have hDc := hD.sub (ws' := ([] : va_W)) [] (by decide) rfl
        have hFc := va_free (wc := ([] : va_W)) hD hS hA [] rfl
        refine bd hF (fun r29 hG hF => ?_)
        refine va_calli (va_runS (As := [.int (((tW.2.2.2.1 x2.toNatClampNeg) ||| (tW.2.2.2.2.1 x2.toNatClampNeg)) &&& tW.2.2.2.2.2.2.1)]) (rest := [.int x1]) ⟨hx, hb, hml, hown, hts⟩ (c_J6_bitCount_0f7a4 l dC dI cI sf H.size N  (((tW.2.2.2.1 x2.toNatClampNeg) ||| (tW.2.2.2.2.1 x2.toNatClampNeg)) &&& tW.2.2.2.2.2.2.1) r29 hG) (va_cwS 1 hts gX1_wordsOfLiving_J6_bitCount_0f7a4 rfl rfl rfl (by decide +kernel) ⟨Nat.le_of_ble_eq_true rfl, Nat.le_of_ble_eq_true rfl⟩) ⟨fun a U g mk q => ⟨q.1, q.2.call⟩, fun U hU hW => ⟨rfl, PB.of hU hW hPc hK hDc hNN hSF hS hFc⟩⟩ rfl rfl hl.1 rfl (lv_room (Nat.le_of_ble_eq_true rfl)) dX1_wordsOfLiving_29 ⟨Nat.le_of_ble_eq_true rfl, Nat.le_of_ble_eq_true rfl⟩) hS (fun q _ h => hFc q h) hFc (fun z_ u_ t H locs ht hvm hw hB hz1 hk1 hS => ?_)
        subst z_
        obtain ⟨hP1, hD1⟩ := hB
        rw [ht] at hP1
        have hJ := vb_join (ws' := (cwT cI h0 h1 h2 h3 h4 h5 tW)) hP hD [] [0, 1, 2, 3, 4, 5] [0, 1, 2, 3, 4, 5] rfl rfl (by decide) (by decide) hk1 hFc hP1 hD1 rfl (by decide) rfl
        clear hP hD hPc hDc hFc hP1 hD1 hk1 hz1 ht hvm hG
        obtain ⟨hP, hD⟩ := hJ
        refine lv_iadd hx hb dX1_wordsOfLiving_32 ?_
        refine lv_istore_n (lv' := [(1, .int (x1 + r29)), (0, .ref h0), (2, .int x2)]) hx hb dX1_wordsOfLiving_33 rfl hl (by decide) rfl (fun ls hl => ?_)
        refine lv_iinc (v := x2 + (nI 1)) (lv' := [(2, .int (x2 + (nI 1))), (1, .int (x1 + r29)), (0, .ref h0)]) hx hb dX1_wordsOfLiving_34 hl (k := 2) rfl (by rfl) (by decide) rfl (fun ls hl => ?_)
        refine lv_goto (tgt := 4) hx hb dX1_wordsOfLiving_37 (by decide) ?_
        exact ih4 (x1 + r29) (x2 + (nI 1)) _ _ _ hF hP hD hS (lv_sub hl [2, 1, 0] rfl)
  refine lv_istore_n (lv' := [(2, .int (nI 0)), (1, .int (nI 0)), (0, .ref h0)]) hx hb dX1_wordsOfLiving_3 rfl hl (by decide) rfl (fun ls hl => ?_)
  exact kJ4 N (nI 0) (nI 0) _ _ _ hF hP hD hS (lv_sub hl [2, 1, 0] rfl)
