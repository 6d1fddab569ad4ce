theorem inw_X3_readsStatement_X3 : ∀ w ∈ u_ws RX3 TX3 15, w ∈ wsX3_readsStatement := fun _ h => List.mem_cons_of_mem _ (List.mem_append_right _ h)
set_option maxHeartbeats 4000000 in
set_option maxRecDepth 100000 in
theorem c_X3_readsStatement (l : Launch) (dC : Nat → ClassId) (dI : Nat → Nat → Nat) (cI : ClassId) (sf : SFP) (sz : Nat) (N : Nat) (b : Nat → Nat) (tW : MS) (r : (Int32 × MS)) (hF : F_X3_readsStatement N tW = some r) : Met l yX3_readsStatement wsX3_readsStatement ({ frames := 3, cells := 0, slots := 0, locals := 65 }) (va_Pc [.ref (b 0)] (PB (dC, dI) cI (cwM cI b tW) sz sf)) (va_Qi (fun (z : Int32) (_ : Unit) => z = r.1) (fun _ t => QB (dC, dI) (cwM cI b r.2) (va_A (cwM cI b tW) sz) t) (va_A (cwM cI b tW) sz)) 0 0 (va_A (cwM cI b tW) sz) := by
  refine Met.ofW (cc := cX3_readsStatement) (maxL := 3) (ret := (some .boolean)) (by decide) rfl ?_
  intro p e s m args below meth c s₁ B hml hv
  obtain ⟨rfl, hsz, hP, hK, hD0, hNN, hSF⟩ := hv
  have hx := B.exec
  have hb := B.bytes
  have hr := B.returns
  have hts := atoms_spec (ws := wsX3_readsStatement) B.pre
  have hown : s.vm.findClass RX3 = some m.cls := findClass_of_methodNamed B.named
  have hlocks := B.notSynchronized
  subst hsz
  have hD := hD0.self (sz := s.heap.size)
  generalize hAe : va_A (cwM cI b tW) s.heap.size = A at hD hSF ⊢
  have hA : ∀ q : Nat, s.heap.size ≤ q → A q := fun q h => by rw [← hAe]; exact Or.inr h
  clear hAe hD0
  have hS : va_S A s.heap s.heap [] := va_S.rf
  have hl := lv_entry ([.ref (b 0)]) (n := 3) (Nat.le_of_ble_eq_true rfl)
  rw [lg_entry_eq]
  generalize (lg_sl ([.ref (b 0)]) ++ List.replicate (3 - (lg_sl ([.ref (b 0)])).length) Slot.unset).toArray = ls at hl ⊢
  have hl : lv_has ls 3 [(0, .ref (b 0))] := hl
  rw [F_X3_readsStatement] at hF
  refine lv_aload_n hx hb dX3_readsStatement_0 rfl (lv_at hl 0 rfl) ?_
  have hPc := hP.sub (ws' := (cwM cI b tW)) [0, 1, 2, 3, 4, 5, 6, 7, 8, 9] rfl
  have hDc := hD.sub (ws' := (cwM cI b tW)) [0, 1, 2, 3, 4, 5, 6, 7, 8, 9] (by decide) rfl
  have hFc := va_free (wc := (cwM cI b tW)) hD hS hA [0, 1, 2, 3, 4, 5, 6, 7, 8, 9] rfl
  refine bd hF (fun r1 hG hF => ?_)
  refine va_calli (va_runV (As := []) (rest := []) ⟨hx, hb, hml, hown, hts⟩ (c_X3_here l dC dI cI sf s.heap.size N b tW r1 hG) (cwV 0 hts gX3_readsStatement_X3_here rfl rfl rfl (by decide +kernel) ⟨Nat.le_of_ble_eq_true rfl, Nat.le_of_ble_eq_true rfl⟩) ⟨fun a U g mk q => ⟨q.1, q.2.call⟩, va_recv hK hP (ci := 3) (q0 := 0) rfl rfl, fun U hU hW => ⟨rfl, PB.of hU hW hPc hK hDc hNN hSF hS hFc⟩⟩ rfl rfl hl.1 rfl (lv_room (Nat.le_of_ble_eq_true rfl)) dX3_readsStatement_1 ⟨Nat.le_of_ble_eq_true rfl, Nat.le_of_ble_eq_true rfl⟩) hS (fun q _ h => hFc q h) hFc (fun z_ u_ t H locs ht hvm hw hB hz1 hk1 hS => ?_)
  subst z_
  obtain ⟨hP1, hD1⟩ := hB
  rw [ht] at hP1
  have hJ := vb_join (ws' := (cwM cI b tW)) hP hD [0, 1, 2, 3, 4, 5, 6, 7, 8, 9] [] [0, 1, 2, 3, 4, 5, 6, 7, 8, 9] rfl rfl (by decide) (by decide) hk1 hFc hP1 hD1 rfl (by decide) rfl
  clear hP hD hPc hDc hFc hP1 hD1 hk1 hz1 ht hvm hG
  obtain ⟨hP, hD⟩ := hJ
  refine lv_istore_n (lv' := [(1, .int r1), (0, .ref (b 0))]) hx hb dX3_readsStatement_4 rfl hl (by decide) rfl (fun ls hl => ?_)
  refine lv_aload_n hx hb dX3_readsStatement_5 rfl (lv_at hl 1 rfl) ?_
  refine lv_dup hx hb dX3_readsStatement_6 rfl ?_
  refine va_get (D := (dC, dI)) (ci := 3) (v := .int tW.2.2.2.2.2.2.2.2.2.2.1) (C := RX3) (T := TX3) (N := 15) hx hb hts inw_X3_readsStatement_X3 hown hK hP 0 rfl rfl 10 (by decide) (hts (.fieldLink RX3 94 "DeniedOfEachOtherModel" "place" "I") (List.mem_of_getElem? (i := 1) rfl)) (fun _ h9 => h9) rfl dX3_readsStatement_7 ?_
  refine lv_iconst (v := nI 1) hx hb dX3_readsStatement_10 (by decide) ?_
  refine lv_iadd hx hb dX3_readsStatement_11 ?_
  refine va_put (D := (dC, dI)) (ci := 3) (v := .int (tW.2.2.2.2.2.2.2.2.2.2.1 + (nI 1))) (ty := .int) (C := RX3) (T := TX3) (N := 15) hx hb hts inw_X3_readsStatement_X3 tyX3 tyX3_ok nmX3 hown hK hP hD hS 0 rfl rfl 10 (by decide) (hts (.fieldLink RX3 94 "DeniedOfEachOtherModel" "place" "I") (List.mem_of_getElem? (i := 1) rfl)) (fun _ h9 => h9) rfl (by decide +kernel) rfl rfl (Nat.le_of_ble_eq_true rfl) dX3_readsStatement_12 (fun H locs hP hD hS => ?_)
  have hP : va_P (dC, dI) vwCl (cwM cI b (tW.1, tW.2.1, tW.2.2.1, tW.2.2.2.1, tW.2.2.2.2.1, tW.2.2.2.2.2.1, tW.2.2.2.2.2.2.1, tW.2.2.2.2.2.2.2.1, tW.2.2.2.2.2.2.2.2.1, tW.2.2.2.2.2.2.2.2.2.1, (tW.2.2.2.2.2.2.2.2.2.2.1 + (nI 1)), tW.2.2.2.2.2.2.2.2.2.2.2.1, tW.2.2.2.2.2.2.2.2.2.2.2.2.1, tW.2.2.2.2.2.2.2.2.2.2.2.2.2.1, tW.2.2.2.2.2.2.2.2.2.2.2.2.2.2)) H := hP
  have hD : va_D A (cwM cI b (tW.1, tW.2.1, tW.2.2.1, tW.2.2.2.1, tW.2.2.2.2.1, tW.2.2.2.2.2.1, tW.2.2.2.2.2.2.1, tW.2.2.2.2.2.2.2.1, tW.2.2.2.2.2.2.2.2.1, tW.2.2.2.2.2.2.2.2.2.1, (tW.2.2.2.2.2.2.2.2.2.2.1 + (nI 1)), tW.2.2.2.2.2.2.2.2.2.2.2.1, tW.2.2.2.2.2.2.2.2.2.2.2.2.1, tW.2.2.2.2.2.2.2.2.2.2.2.2.2.1, tW.2.2.2.2.2.2.2.2.2.2.2.2.2.2)) := hD
  refine lv_iload_n hx hb dX3_readsStatement_15 rfl (lv_at hl 0 rfl) ?_
  refine vW_have (fun R av Q => ∀ (tW : MS) (x2 : Int32) (H : Heap) (locs : List Loc) (ls : Array Slot), F_X3_readsStatement_203 N tW x2 = some r → va_P (dC, dI) vwCl (cwM cI b tW) H → va_D A (cwM cI b tW) → va_S A s.heap H locs → lv_has ls 3 [(0, .ref (b 0)), (2, .int x2)] → W p l e R s m av below meth c H locs 0 0 Q (F0 m 203 ls [])) ?_ (fun kJ203 => ?_)
  · 
    intro tW x2 H locs ls hF hP hD hS hl
    rw [F_X3_readsStatement_203] at hF
    refine lv_iload_n hx hb dX3_readsStatement_203 rfl (lv_at hl 1 rfl) ?_
    refine lv_if_eq (tgt := 216) hx hb dX3_readsStatement_204 (by decide) (fun hc => ?_) (fun hc => ?_)
    · have hF := ift hc hF
      refine lv_iconst (v := nI 0) hx hb dX3_readsStatement_216 (by decide) ?_
      obtain rfl := Option.some.inj hF
      exact W.zret (v := (nI 0)) (ty := .boolean) hx hb hr (by decide +kernel) (fun t ht hW => ⟨⟨(nI 0), (), rfl, rfl, QB.of ht hP hD⟩, hS.F ht⟩) hS.2.2 dX3_readsStatement_217
    · have hF := iff_ hc hF
      refine lv_aload_n hx hb dX3_readsStatement_207 rfl (lv_at hl 0 rfl) ?_
      have hPc := hP.sub (ws' := (cwM cI b tW)) [0, 1, 2, 3, 4, 5, 6, 7, 8, 9] rfl
      have hDc := hD.sub (ws' := (cwM cI b tW)) [0, 1, 2, 3, 4, 5, 6, 7, 8, 9] (by decide) rfl
      have hFc := va_free (wc := (cwM cI b tW)) hD hS hA [0, 1, 2, 3, 4, 5, 6, 7, 8, 9] rfl
      refine bd hF (fun r208 hG hF => ?_)
      refine va_calli (va_runV (As := []) (rest := []) ⟨hx, hb, hml, hown, hts⟩ (c_X3_here l dC dI cI sf H.size N b tW r208 hG) (cwV 0 hts gX3_readsStatement_X3_here rfl rfl rfl (by decide +kernel) ⟨Nat.le_of_ble_eq_true rfl, Nat.le_of_ble_eq_true rfl⟩) ⟨fun a U g mk q => ⟨q.1, q.2.call⟩, va_recv hK hP (ci := 3) (q0 := 0) rfl rfl, fun U hU hW => ⟨rfl, PB.of hU hW hPc hK hDc hNN hSF hS hFc⟩⟩ rfl rfl hl.1 rfl (lv_room (Nat.le_of_ble_eq_true rfl)) dX3_readsStatement_208 ⟨Nat.le_of_ble_eq_true rfl, Nat.le_of_ble_eq_true rfl⟩) hS (fun q _ h => hFc q h) hFc (fun z_ u_ t H locs ht hvm hw hB hz1 hk1 hS => ?_)
      subst z_
      obtain ⟨hP1, hD1⟩ := hB
      rw [ht] at hP1
      have hJ := vb_join (ws' := (cwM cI b tW)) hP hD [0, 1, 2, 3, 4, 5, 6, 7, 8, 9] [] [0, 1, 2, 3, 4, 5, 6, 7, 8, 9] rfl rfl (by decide) (by decide) hk1 hFc hP1 hD1 rfl (by decide) rfl
      clear hP hD hPc hDc hFc hP1 hD1 hk1 hz1 ht hvm hG
      obtain ⟨hP, hD⟩ := hJ
      refine lv_bipush (v := nI 59) hx hb dX3_readsStatement_211 (by decide) ?_
      refine lv_icmp_eq (tgt := 218) hx hb dX3_readsStatement_213 (by decide) (fun hc => ?_) (fun hc => ?_)
      · have hF := ift hc hF
        refine lv_aload_n hx hb dX3_readsStatement_218 rfl (lv_at hl 0 rfl) ?_
        refine lv_dup hx hb dX3_readsStatement_219 rfl ?_
        refine va_get (D := (dC, dI)) (ci := 3) (v := .int tW.2.2.2.2.2.2.2.2.2.2.1) (C := RX3) (T := TX3) (N := 15) hx hb hts inw_X3_readsStatement_X3 hown hK hP 0 rfl rfl 10 (by decide) (hts (.fieldLink RX3 94 "DeniedOfEachOtherModel" "place" "I") (List.mem_of_getElem? (i := 1) rfl)) (fun _ h9 => h9) rfl dX3_readsStatement_220 ?_
        refine lv_iconst (v := nI 1) hx hb dX3_readsStatement_223 (by decide) ?_
        refine lv_iadd hx hb dX3_readsStatement_224 ?_
        refine va_put (D := (dC, dI)) (ci := 3) (v := .int (tW.2.2.2.2.2.2.2.2.2.2.1 + (nI 1))) (ty := .int) (C := RX3) (T := TX3) (N := 15) hx hb hts inw_X3_readsStatement_X3 tyX3 tyX3_ok nmX3 hown hK hP hD hS 0 rfl rfl 10 (by decide) (hts (.fieldLink RX3 94 "DeniedOfEachOtherModel" "place" "I") (List.mem_of_getElem? (i := 1) rfl)) (fun _ h9 => h9) rfl (by decide +kernel) rfl rfl (Nat.le_of_ble_eq_true rfl) dX3_readsStatement_225 (fun H locs hP hD hS => ?_)
        have hP : va_P (dC, dI) vwCl (cwM cI b (tW.1, tW.2.1, tW.2.2.1, tW.2.2.2.1, tW.2.2.2.2.1, tW.2.2.2.2.2.1, tW.2.2.2.2.2.2.1, tW.2.2.2.2.2.2.2.1, tW.2.2.2.2.2.2.2.2.1, tW.2.2.2.2.2.2.2.2.2.1, (tW.2.2.2.2.2.2.2.2.2.2.1 + (nI 1)), tW.2.2.2.2.2.2.2.2.2.2.2.1, tW.2.2.2.2.2.2.2.2.2.2.2.2.1, tW.2.2.2.2.2.2.2.2.2.2.2.2.2.1, tW.2.2.2.2.2.2.2.2.2.2.2.2.2.2)) H := hP
        have hD : va_D A (cwM cI b (tW.1, tW.2.1, tW.2.2.1, tW.2.2.2.1, tW.2.2.2.2.1, tW.2.2.2.2.2.1, tW.2.2.2.2.2.2.1, tW.2.2.2.2.2.2.2.1, tW.2.2.2.2.2.2.2.2.1, tW.2.2.2.2.2.2.2.2.2.1, (tW.2.2.2.2.2.2.2.2.2.2.1 + (nI 1)), tW.2.2.2.2.2.2.2.2.2.2.2.1, tW.2.2.2.2.2.2.2.2.2.2.2.2.1, tW.2.2.2.2.2.2.2.2.2.2.2.2.2.1, tW.2.2.2.2.2.2.2.2.2.2.2.2.2.2)) := hD
        refine lv_iconst (v := nI 1) hx hb dX3_readsStatement_228 (by decide) ?_
        obtain rfl := Option.some.inj hF
        exact W.zret (v := (nI 1)) (ty := .boolean) hx hb hr (by decide +kernel) (fun t ht hW => ⟨⟨(nI 1), (), rfl, rfl, QB.of ht hP hD⟩, hS.F ht⟩) hS.2.2 dX3_readsStatement_229
      · have hF := iff_ hc hF
        refine lv_iconst (v := nI 0) hx hb dX3_readsStatement_216 (by decide) ?_
        obtain rfl := Option.some.inj hF
        exact W.zret (v := (nI 0)) (ty := .boolean) hx hb hr (by decide +kernel) (fun t ht hW => ⟨⟨(nI 0), (), rfl, rfl, QB.of ht hP hD⟩, hS.F ht⟩) hS.2.2 dX3_readsStatement_217
  refine vW_have (fun R av Q => ∀ (tW : MS) (H : Heap) (locs : List Loc) (ls : Array Slot), F_X3_readsStatement_110 N tW = some r → va_P (dC, dI) vwCl (cwM cI b tW) H → va_D A (cwM cI b tW) → va_S A s.heap H locs → lv_has ls 3 [(0, .ref (b 0))] → W p l e R s m av below meth c H locs 0 0 Q (F0 m 110 ls [])) ?_ (fun kJ110 => ?_)
  · 
    intro tW H locs ls hF hP hD hS hl
    rw [F_X3_readsStatement_110] at hF
    refine lv_aload_n hx hb dX3_readsStatement_110 rfl (lv_at hl 0 rfl) ?_
    refine lv_iconst (v := nI 0) hx hb dX3_readsStatement_111 (by decide) ?_
    refine lv_iconst (v := nI 1) hx hb dX3_readsStatement_112 (by decide) ?_
    have hPc := hP.sub (ws' := (cwM cI b tW)) [0, 1, 2, 3, 4, 5, 6, 7, 8, 9] rfl
    have hDc := hD.sub (ws' := (cwM cI b tW)) [0, 1, 2, 3, 4, 5, 6, 7, 8, 9] (by decide) rfl
    have hFc := va_free (wc := (cwM cI b tW)) hD hS hA [0, 1, 2, 3, 4, 5, 6, 7, 8, 9] rfl
    refine bd hF (fun r113 hG hF => ?_)
    refine va_calli (va_runV (As := [.int (nI 0), .int (nI 1)]) (rest := []) ⟨hx, hb, hml, hown, hts⟩ (c_X3_readsNumber l dC dI cI sf H.size N b tW (nI 0) (nI 1) r113 hG) (cwV 2 hts gX3_readsStatement_X3_readsNumber rfl rfl rfl (by decide +kernel) ⟨Nat.le_of_ble_eq_true rfl, Nat.le_of_ble_eq_true rfl⟩) ⟨fun a U g mk q => ⟨q.1, q.2.call⟩, va_recv hK hP (ci := 3) (q0 := 0) rfl rfl, fun U hU hW => ⟨rfl, PB.of hU hW hPc hK hDc hNN hSF hS hFc⟩⟩ rfl rfl hl.1 rfl (lv_room (Nat.le_of_ble_eq_true rfl)) dX3_readsStatement_113 ⟨Nat.le_of_ble_eq_true rfl, Nat.le_of_ble_eq_true rfl⟩) hS (fun q _ h => hFc q h) hFc (fun z_ u_ t H locs ht hvm hw hB hz1 hk1 hS => ?_)
    subst z_
    obtain ⟨hP1, hD1⟩ := hB
    rw [ht] at hP1
    have hJ := vb_join (ws' := (cwM cI b r113.2)) hP hD [0, 1, 2, 3, 4, 5, 6, 7, 8, 9] [] [0, 1, 2, 3, 4, 5, 6, 7, 8, 9] rfl rfl (by decide) (by decide) hk1 hFc hP1 hD1 rfl (by decide) rfl
    clear hP hD hPc hDc hFc hP1 hD1 hk1 hz1 ht hvm hG
    obtain ⟨hP, hD⟩ := hJ
    refine vW_have (fun R av Q => ∀ (tW : MS) (z0 : Int32) (H : Heap) (locs : List Loc) (ls : Array Slot), F_X3_readsStatement_142 N tW z0 = some r → va_P (dC, dI) vwCl (cwM cI b tW) H → va_D A (cwM cI b tW) → va_S A s.heap H locs → lv_has ls 3 [(0, .ref (b 0))] → W p l e R s m av below meth c H locs 0 0 Q (F0 m 142 ls [.int z0])) ?_ (fun kJ142 => ?_)
    · 
      intro tW z0 H locs ls hF hP hD hS hl
      rw [F_X3_readsStatement_142] at hF
      refine lv_istore_n (lv' := [(2, .int z0), (0, .ref (b 0))]) hx hb dX3_readsStatement_142 rfl hl (by decide) rfl (fun ls hl => ?_)
      refine lv_goto (tgt := 203) hx hb dX3_readsStatement_143 (by decide) ?_
      exact kJ203 tW z0 _ _ _ hF hP hD hS (lv_sub hl [1, 0] rfl)
    refine lv_if_eq (tgt := 141) hx hb dX3_readsStatement_116 (by decide) (fun hc => ?_) (fun hc => ?_)
    · have hF := ift hc hF
      refine lv_iconst (v := nI 0) hx hb dX3_readsStatement_141 (by decide) ?_
      exact kJ142 r113.2 (nI 0) _ _ _ hF hP hD hS (lv_sub hl [0] rfl)
    · have hF := iff_ hc hF
      refine lv_aload_n hx hb dX3_readsStatement_119 rfl (lv_at hl 0 rfl) ?_
      refine lv_iconst (v := nI 1) hx hb dX3_readsStatement_120 (by decide) ?_
      refine lv_iconst (v := nI 1) hx hb dX3_readsStatement_121 (by decide) ?_
      have hPc := hP.sub (ws' := (cwM cI b r113.2)) [0, 1, 2, 3, 4, 5, 6, 7, 8, 9] rfl
      have hDc := hD.sub (ws' := (cwM cI b r113.2)) [0, 1, 2, 3, 4, 5, 6, 7, 8, 9] (by decide) rfl
      have hFc := va_free (wc := (cwM cI b r113.2)) hD hS hA [0, 1, 2, 3, 4, 5, 6, 7, 8, 9] rfl
      refine bd hF (fun r122 hG hF => ?_)
      refine va_calli (va_runV (As := [.int (nI 1), .int (nI 1)]) (rest := []) ⟨hx, hb, hml, hown, hts⟩ (c_X3_readsNumber l dC dI cI sf H.size N b r113.2 (nI 1) (nI 1) r122 hG) (cwV 2 hts gX3_readsStatement_X3_readsNumber rfl rfl rfl (by decide +kernel) ⟨Nat.le_of_ble_eq_true rfl, Nat.le_of_ble_eq_true rfl⟩) ⟨fun a U g mk q => ⟨q.1, q.2.call⟩, va_recv hK hP (ci := 3) (q0 := 0) rfl rfl, fun U hU hW => ⟨rfl, PB.of hU hW hPc hK hDc hNN hSF hS hFc⟩⟩ rfl rfl hl.1 rfl (lv_room (Nat.le_of_ble_eq_true rfl)) dX3_readsStatement_122 ⟨Nat.le_of_ble_eq_true rfl, Nat.le_of_ble_eq_true rfl⟩) hS (fun q _ h => hFc q h) hFc (fun z_ u_ t H locs ht hvm hw hB hz1 hk1 hS => ?_)
      subst z_
      obtain ⟨hP1, hD1⟩ := hB
      rw [ht] at hP1
      have hJ := vb_join (ws' := (cwM cI b r122.2)) hP hD [0, 1, 2, 3, 4, 5, 6, 7, 8, 9] [] [0, 1, 2, 3, 4, 5, 6, 7, 8, 9] rfl rfl (by decide) (by decide) hk1 hFc hP1 hD1 rfl (by decide) rfl
      clear hP hD hPc hDc hFc hP1 hD1 hk1 hz1 ht hvm hG
      obtain ⟨hP, hD⟩ := hJ
      refine lv_if_eq (tgt := 141) hx hb dX3_readsStatement_125 (by decide) (fun hc => ?_) (fun hc => ?_)
      · have hF := ift hc hF
        refine lv_iconst (v := nI 0) hx hb dX3_readsStatement_141 (by decide) ?_
        exact kJ142 r122.2 (nI 0) _ _ _ hF hP hD hS (lv_sub hl [0] rfl)
      · have hF := iff_ hc hF
        refine lv_aload_n hx hb dX3_readsStatement_128 rfl (lv_at hl 0 rfl) ?_
        refine lv_iconst (v := nI 2) hx hb dX3_readsStatement_129 (by decide) ?_
        refine lv_iconst (v := nI 1) hx hb dX3_readsStatement_130 (by decide) ?_
        have hPc := hP.sub (ws' := (cwM cI b r122.2)) [0, 1, 2, 3, 4, 5, 6, 7, 8, 9] rfl
        have hDc := hD.sub (ws' := (cwM cI b r122.2)) [0, 1, 2, 3, 4, 5, 6, 7, 8, 9] (by decide) rfl
        have hFc := va_free (wc := (cwM cI b r122.2)) hD hS hA [0, 1, 2, 3, 4, 5, 6, 7, 8, 9] rfl
        refine bd hF (fun r131 hG hF => ?_)
        refine va_calli (va_runV (As := [.int (nI 2), .int (nI 1)]) (rest := []) ⟨hx, hb, hml, hown, hts⟩ (c_X3_readsNumber l dC dI cI sf H.size N b r122.2 (nI 2) (nI 1) r131 hG) (cwV 2 hts gX3_readsStatement_X3_readsNumber rfl rfl rfl (by decide +kernel) ⟨Nat.le_of_ble_eq_true rfl, Nat.le_of_ble_eq_true rfl⟩) ⟨fun a U g mk q => ⟨q.1, q.2.call⟩, va_recv hK hP (ci := 3) (q0 := 0) rfl rfl, fun U hU hW => ⟨rfl, PB.of hU hW hPc hK hDc hNN hSF hS hFc⟩⟩ rfl rfl hl.1 rfl (lv_room (Nat.le_of_ble_eq_true rfl)) dX3_readsStatement_131 ⟨Nat.le_of_ble_eq_true rfl, Nat.le_of_ble_eq_true rfl⟩) hS (fun q _ h => hFc q h) hFc (fun z_ u_ t H locs ht hvm hw hB hz1 hk1 hS => ?_)
        subst z_
        obtain ⟨hP1, hD1⟩ := hB
        rw [ht] at hP1
        have hJ := vb_join (ws' := (cwM cI b r131.2)) hP hD [0, 1, 2, 3, 4, 5, 6, 7, 8, 9] [] [0, 1, 2, 3, 4, 5, 6, 7, 8, 9] rfl rfl (by decide) (by decide) hk1 hFc hP1 hD1 rfl (by decide) rfl
        clear hP hD hPc hDc hFc hP1 hD1 hk1 hz1 ht hvm hG
        obtain ⟨hP, hD⟩ := hJ
        refine lv_if_eq (tgt := 141) hx hb dX3_readsStatement_134 (by decide) (fun hc => ?_) (fun hc => ?_)
        · have hF := ift hc hF
          refine lv_iconst (v := nI 0) hx hb dX3_readsStatement_141 (by decide) ?_
          exact kJ142 r131.2 (nI 0) _ _ _ hF hP hD hS (lv_sub hl [0] rfl)
        · have hF := iff_ hc hF
          refine lv_iconst (v := nI 1) hx hb dX3_readsStatement_137 (by decide) ?_
          refine lv_goto (tgt := 142) hx hb dX3_readsStatement_138 (by decide) ?_
          exact kJ142 r131.2 (nI 1) _ _ _ hF hP hD hS (lv_sub hl [0] rfl)
  by_cases hc97 : r1 = nI 97
  · have hF := ift hc97 hF
    refine lv_lookup (off := 130) (tgt := 146) hx hb dX3_readsStatement_16 (by decide) (by rw [hc97]; decide) (by decide) ?_
    refine lv_aload_n hx hb dX3_readsStatement_146 rfl (lv_at hl 1 rfl) ?_
    refine lv_iconst (v := nI 0) hx hb dX3_readsStatement_147 (by decide) ?_
    refine lv_iconst (v := nI 1) hx hb dX3_readsStatement_148 (by decide) ?_
    have hPc := hP.sub (ws' := (cwM cI b (tW.1, tW.2.1, tW.2.2.1, tW.2.2.2.1, tW.2.2.2.2.1, tW.2.2.2.2.2.1, tW.2.2.2.2.2.2.1, tW.2.2.2.2.2.2.2.1, tW.2.2.2.2.2.2.2.2.1, tW.2.2.2.2.2.2.2.2.2.1, (tW.2.2.2.2.2.2.2.2.2.2.1 + (nI 1)), tW.2.2.2.2.2.2.2.2.2.2.2.1, tW.2.2.2.2.2.2.2.2.2.2.2.2.1, tW.2.2.2.2.2.2.2.2.2.2.2.2.2.1, tW.2.2.2.2.2.2.2.2.2.2.2.2.2.2))) [0, 1, 2, 3, 4, 5, 6, 7, 8, 9] rfl
    have hDc := hD.sub (ws' := (cwM cI b (tW.1, tW.2.1, tW.2.2.1, tW.2.2.2.1, tW.2.2.2.2.1, tW.2.2.2.2.2.1, tW.2.2.2.2.2.2.1, tW.2.2.2.2.2.2.2.1, tW.2.2.2.2.2.2.2.2.1, tW.2.2.2.2.2.2.2.2.2.1, (tW.2.2.2.2.2.2.2.2.2.2.1 + (nI 1)), tW.2.2.2.2.2.2.2.2.2.2.2.1, tW.2.2.2.2.2.2.2.2.2.2.2.2.1, tW.2.2.2.2.2.2.2.2.2.2.2.2.2.1, tW.2.2.2.2.2.2.2.2.2.2.2.2.2.2))) [0, 1, 2, 3, 4, 5, 6, 7, 8, 9] (by decide) rfl
    have hFc := va_free (wc := (cwM cI b (tW.1, tW.2.1, tW.2.2.1, tW.2.2.2.1, tW.2.2.2.2.1, tW.2.2.2.2.2.1, tW.2.2.2.2.2.2.1, tW.2.2.2.2.2.2.2.1, tW.2.2.2.2.2.2.2.2.1, tW.2.2.2.2.2.2.2.2.2.1, (tW.2.2.2.2.2.2.2.2.2.2.1 + (nI 1)), tW.2.2.2.2.2.2.2.2.2.2.2.1, tW.2.2.2.2.2.2.2.2.2.2.2.2.1, tW.2.2.2.2.2.2.2.2.2.2.2.2.2.1, tW.2.2.2.2.2.2.2.2.2.2.2.2.2.2))) hD hS hA [0, 1, 2, 3, 4, 5, 6, 7, 8, 9] rfl
    refine bd hF (fun r149 hG hF => ?_)
    refine va_calli (va_runV (As := [.int (nI 0), .int (nI 1)]) (rest := []) ⟨hx, hb, hml, hown, hts⟩ (c_X3_readsNumber l dC dI cI sf H.size N b (tW.1, tW.2.1, tW.2.2.1, tW.2.2.2.1, tW.2.2.2.2.1, tW.2.2.2.2.2.1, tW.2.2.2.2.2.2.1, tW.2.2.2.2.2.2.2.1, tW.2.2.2.2.2.2.2.2.1, tW.2.2.2.2.2.2.2.2.2.1, (tW.2.2.2.2.2.2.2.2.2.2.1 + (nI 1)), tW.2.2.2.2.2.2.2.2.2.2.2.1, tW.2.2.2.2.2.2.2.2.2.2.2.2.1, tW.2.2.2.2.2.2.2.2.2.2.2.2.2.1, tW.2.2.2.2.2.2.2.2.2.2.2.2.2.2) (nI 0) (nI 1) r149 hG) (cwV 2 hts gX3_readsStatement_X3_readsNumber rfl rfl rfl (by decide +kernel) ⟨Nat.le_of_ble_eq_true rfl, Nat.le_of_ble_eq_true rfl⟩) ⟨fun a U g mk q => ⟨q.1, q.2.call⟩, va_recv hK hP (ci := 3) (q0 := 0) rfl rfl, fun U hU hW => ⟨rfl, PB.of hU hW hPc hK hDc hNN hSF hS hFc⟩⟩ rfl rfl hl.1 rfl (lv_room (Nat.le_of_ble_eq_true rfl)) dX3_readsStatement_149 ⟨Nat.le_of_ble_eq_true rfl, Nat.le_of_ble_eq_true rfl⟩) hS (fun q _ h => hFc q h) hFc (fun z_ u_ t H locs ht hvm hw hB hz1 hk1 hS => ?_)
    subst z_
    obtain ⟨hP1, hD1⟩ := hB
    rw [ht] at hP1
    have hJ := vb_join (ws' := (cwM cI b r149.2)) hP hD [0, 1, 2, 3, 4, 5, 6, 7, 8, 9] [] [0, 1, 2, 3, 4, 5, 6, 7, 8, 9] rfl rfl (by decide) (by decide) hk1 hFc hP1 hD1 rfl (by decide) rfl
    clear hP hD hPc hDc hFc hP1 hD1 hk1 hz1 ht hvm hG
    obtain ⟨hP, hD⟩ := hJ
    refine vW_have (fun R av Q => ∀ (tW : MS) (z0 : Int32) (H : Heap) (locs : List Loc) (ls : Array Slot), F_X3_readsStatement_167 N tW z0 = some r → va_P (dC, dI) vwCl (cwM cI b tW) H → va_D A (cwM cI b tW) → va_S A s.heap H locs → lv_has ls 3 [(0, .ref (b 0))] → W p l e R s m av below meth c H locs 0 0 Q (F0 m 167 ls [.int z0])) ?_ (fun kJ167 => ?_)
    · 
      intro tW z0 H locs ls hF hP hD hS hl
      rw [F_X3_readsStatement_167] at hF
      refine lv_istore_n (lv' := [(2, .int z0), (0, .ref (b 0))]) hx hb dX3_readsStatement_167 rfl hl (by decide) rfl (fun ls hl => ?_)
      refine lv_goto (tgt := 203) hx hb dX3_readsStatement_168 (by decide) ?_
      exact kJ203 tW z0 _ _ _ hF hP hD hS (lv_sub hl [1, 0] rfl)
    refine lv_if_eq (tgt := 166) hx hb dX3_readsStatement_152 (by decide) (fun hc => ?_) (fun hc => ?_)
    · have hF := ift hc hF
      refine lv_iconst (v := nI 0) hx hb dX3_readsStatement_166 (by decide) ?_
      exact kJ167 r149.2 (nI 0) _ _ _ hF hP hD hS (lv_sub hl [1] rfl)
    · have hF := iff_ hc hF
      refine lv_aload_n hx hb dX3_readsStatement_155 rfl (lv_at hl 1 rfl) ?_
      have hPc := hP.sub (ws' := (cwM cI b r149.2)) [0, 1, 2, 3, 4, 5, 6, 7, 8, 9] rfl
      have hDc := hD.sub (ws' := (cwM cI b r149.2)) [0, 1, 2, 3, 4, 5, 6, 7, 8, 9] (by decide) rfl
      have hFc := va_free (wc := (cwM cI b r149.2)) hD hS hA [0, 1, 2, 3, 4, 5, 6, 7, 8, 9] rfl
      refine bd hF (fun r156 hG hF => ?_)
      refine va_calli (va_runV (As := []) (rest := []) ⟨hx, hb, hml, hown, hts⟩ (c_X3_readsWords l dC dI cI sf H.size N b r149.2 r156 hG) (cwV 0 hts gX3_readsStatement_X3_readsWords rfl rfl rfl (by decide +kernel) ⟨Nat.le_of_ble_eq_true rfl, Nat.le_of_ble_eq_true rfl⟩) ⟨fun a U g mk q => ⟨q.1, q.2.call⟩, va_recv hK hP (ci := 3) (q0 := 0) rfl rfl, fun U hU hW => ⟨rfl, PB.of hU hW hPc hK hDc hNN hSF hS hFc⟩⟩ rfl rfl hl.1 rfl (lv_room (Nat.le_of_ble_eq_true rfl)) dX3_readsStatement_156 ⟨Nat.le_of_ble_eq_true rfl, Nat.le_of_ble_eq_true rfl⟩) hS (fun q _ h => hFc q h) hFc (fun z_ u_ t H locs ht hvm hw hB hz1 hk1 hS => ?_)
      subst z_
      obtain ⟨hP1, hD1⟩ := hB
      rw [ht] at hP1
      have hJ := vb_join (ws' := (cwM cI b r156.2)) hP hD [0, 1, 2, 3, 4, 5, 6, 7, 8, 9] [] [0, 1, 2, 3, 4, 5, 6, 7, 8, 9] rfl rfl (by decide) (by decide) hk1 hFc hP1 hD1 rfl (by decide) rfl
      clear hP hD hPc hDc hFc hP1 hD1 hk1 hz1 ht hvm hG
      obtain ⟨hP, hD⟩ := hJ
      refine lv_if_eq (tgt := 166) hx hb dX3_readsStatement_159 (by decide) (fun hc => ?_) (fun hc => ?_)
      · have hF := ift hc hF
        refine lv_iconst (v := nI 0) hx hb dX3_readsStatement_166 (by decide) ?_
        exact kJ167 r156.2 (nI 0) _ _ _ hF hP hD hS (lv_sub hl [1] rfl)
      · have hF := iff_ hc hF
        refine lv_iconst (v := nI 1) hx hb dX3_readsStatement_162 (by decide) ?_
        refine lv_goto (tgt := 167) hx hb dX3_readsStatement_163 (by decide) ?_
        exact kJ167 r156.2 (nI 1) _ _ _ hF hP hD hS (lv_sub hl [1] rfl)
  · have hF := iff_ hc97 hF
    by_cases hc99 : r1 = nI 99
    · have hF := ift hc99 hF
      refine lv_lookup (off := 60) (tgt := 76) hx hb dX3_readsStatement_16 (by decide) (by rw [hc99]; decide) (by decide) ?_
      refine lv_aload_n hx hb dX3_readsStatement_76 rfl (lv_at hl 1 rfl) ?_
      have hPc := hP.sub (ws' := (cwM cI b (tW.1, tW.2.1, tW.2.2.1, tW.2.2.2.1, tW.2.2.2.2.1, tW.2.2.2.2.2.1, tW.2.2.2.2.2.2.1, tW.2.2.2.2.2.2.2.1, tW.2.2.2.2.2.2.2.2.1, tW.2.2.2.2.2.2.2.2.2.1, (tW.2.2.2.2.2.2.2.2.2.2.1 + (nI 1)), tW.2.2.2.2.2.2.2.2.2.2.2.1, tW.2.2.2.2.2.2.2.2.2.2.2.2.1, tW.2.2.2.2.2.2.2.2.2.2.2.2.2.1, tW.2.2.2.2.2.2.2.2.2.2.2.2.2.2))) [0, 1, 2, 3, 4, 5, 6, 7, 8, 9] rfl
      have hDc := hD.sub (ws' := (cwM cI b (tW.1, tW.2.1, tW.2.2.1, tW.2.2.2.1, tW.2.2.2.2.1, tW.2.2.2.2.2.1, tW.2.2.2.2.2.2.1, tW.2.2.2.2.2.2.2.1, tW.2.2.2.2.2.2.2.2.1, tW.2.2.2.2.2.2.2.2.2.1, (tW.2.2.2.2.2.2.2.2.2.2.1 + (nI 1)), tW.2.2.2.2.2.2.2.2.2.2.2.1, tW.2.2.2.2.2.2.2.2.2.2.2.2.1, tW.2.2.2.2.2.2.2.2.2.2.2.2.2.1, tW.2.2.2.2.2.2.2.2.2.2.2.2.2.2))) [0, 1, 2, 3, 4, 5, 6, 7, 8, 9] (by decide) rfl
      have hFc := va_free (wc := (cwM cI b (tW.1, tW.2.1, tW.2.2.1, tW.2.2.2.1, tW.2.2.2.2.1, tW.2.2.2.2.2.1, tW.2.2.2.2.2.2.1, tW.2.2.2.2.2.2.2.1, tW.2.2.2.2.2.2.2.2.1, tW.2.2.2.2.2.2.2.2.2.1, (tW.2.2.2.2.2.2.2.2.2.2.1 + (nI 1)), tW.2.2.2.2.2.2.2.2.2.2.2.1, tW.2.2.2.2.2.2.2.2.2.2.2.2.1, tW.2.2.2.2.2.2.2.2.2.2.2.2.2.1, tW.2.2.2.2.2.2.2.2.2.2.2.2.2.2))) hD hS hA [0, 1, 2, 3, 4, 5, 6, 7, 8, 9] rfl
      refine bd hF (fun r77 hG hF => ?_)
      refine va_calli (va_runV (As := []) (rest := []) ⟨hx, hb, hml, hown, hts⟩ (c_X3_readsKind l dC dI cI sf H.size N b (tW.1, tW.2.1, tW.2.2.1, tW.2.2.2.1, tW.2.2.2.2.1, tW.2.2.2.2.2.1, tW.2.2.2.2.2.2.1, tW.2.2.2.2.2.2.2.1, tW.2.2.2.2.2.2.2.2.1, tW.2.2.2.2.2.2.2.2.2.1, (tW.2.2.2.2.2.2.2.2.2.2.1 + (nI 1)), tW.2.2.2.2.2.2.2.2.2.2.2.1, tW.2.2.2.2.2.2.2.2.2.2.2.2.1, tW.2.2.2.2.2.2.2.2.2.2.2.2.2.1, tW.2.2.2.2.2.2.2.2.2.2.2.2.2.2) r77 hG) (cwV 0 hts gX3_readsStatement_X3_readsKind rfl rfl rfl (by decide +kernel) ⟨Nat.le_of_ble_eq_true rfl, Nat.le_of_ble_eq_true rfl⟩) ⟨fun a U g mk q => ⟨q.1, q.2.call⟩, va_recv hK hP (ci := 3) (q0 := 0) rfl rfl, fun U hU hW => ⟨rfl, PB.of hU hW hPc hK hDc hNN hSF hS hFc⟩⟩ rfl rfl hl.1 rfl (lv_room (Nat.le_of_ble_eq_true rfl)) dX3_readsStatement_77 ⟨Nat.le_of_ble_eq_true rfl, Nat.le_of_ble_eq_true rfl⟩) hS (fun q _ h => hFc q h) hFc (fun z_ u_ t H locs ht hvm hw hB hz1 hk1 hS => ?_)
      subst z_
      obtain ⟨hP1, hD1⟩ := hB
      rw [ht] at hP1
      have hJ := vb_join (ws' := (cwM cI b r77.2)) hP hD [0, 1, 2, 3, 4, 5, 6, 7, 8, 9] [] [0, 1, 2, 3, 4, 5, 6, 7, 8, 9] rfl rfl (by decide) (by decide) hk1 hFc hP1 hD1 rfl (by decide) rfl
      clear hP hD hPc hDc hFc hP1 hD1 hk1 hz1 ht hvm hG
      obtain ⟨hP, hD⟩ := hJ
      refine vW_have (fun R av Q => ∀ (tW : MS) (z0 : Int32) (H : Heap) (locs : List Loc) (ls : Array Slot), F_X3_readsStatement_106 N tW z0 = some r → va_P (dC, dI) vwCl (cwM cI b tW) H → va_D A (cwM cI b tW) → va_S A s.heap H locs → lv_has ls 3 [(0, .ref (b 0))] → W p l e R s m av below meth c H locs 0 0 Q (F0 m 106 ls [.int z0])) ?_ (fun kJ106 => ?_)
      · 
        intro tW z0 H locs ls hF hP hD hS hl
        rw [F_X3_readsStatement_106] at hF
        refine lv_istore_n (lv' := [(2, .int z0), (0, .ref (b 0))]) hx hb dX3_readsStatement_106 rfl hl (by decide) rfl (fun ls hl => ?_)
        refine lv_goto (tgt := 203) hx hb dX3_readsStatement_107 (by decide) ?_
        exact kJ203 tW z0 _ _ _ hF hP hD hS (lv_sub hl [1, 0] rfl)
      refine lv_if_eq (tgt := 105) hx hb dX3_readsStatement_80 (by decide) (fun hc => ?_) (fun hc => ?_)
      · have hF := ift hc hF
        refine lv_iconst (v := nI 0) hx hb dX3_readsStatement_105 (by decide) ?_
        exact kJ106 r77.2 (nI 0) _ _ _ hF hP hD hS (lv_sub hl [1] rfl)
      · have hF := iff_ hc hF
        refine lv_aload_n hx hb dX3_readsStatement_83 rfl (lv_at hl 1 rfl) ?_
        refine lv_iconst (v := nI 1) hx hb dX3_readsStatement_84 (by decide) ?_
        refine lv_iconst (v := nI 1) hx hb dX3_readsStatement_85 (by decide) ?_
        have hPc := hP.sub (ws' := (cwM cI b r77.2)) [0, 1, 2, 3, 4, 5, 6, 7, 8, 9] rfl
        have hDc := hD.sub (ws' := (cwM cI b r77.2)) [0, 1, 2, 3, 4, 5, 6, 7, 8, 9] (by decide) rfl
        have hFc := va_free (wc := (cwM cI b r77.2)) hD hS hA [0, 1, 2, 3, 4, 5, 6, 7, 8, 9] rfl
        refine bd hF (fun r86 hG hF => ?_)
        refine va_calli (va_runV (As := [.int (nI 1), .int (nI 1)]) (rest := []) ⟨hx, hb, hml, hown, hts⟩ (c_X3_readsNumber l dC dI cI sf H.size N b r77.2 (nI 1) (nI 1) r86 hG) (cwV 2 hts gX3_readsStatement_X3_readsNumber rfl rfl rfl (by decide +kernel) ⟨Nat.le_of_ble_eq_true rfl, Nat.le_of_ble_eq_true rfl⟩) ⟨fun a U g mk q => ⟨q.1, q.2.call⟩, va_recv hK hP (ci := 3) (q0 := 0) rfl rfl, fun U hU hW => ⟨rfl, PB.of hU hW hPc hK hDc hNN hSF hS hFc⟩⟩ rfl rfl hl.1 rfl (lv_room (Nat.le_of_ble_eq_true rfl)) dX3_readsStatement_86 ⟨Nat.le_of_ble_eq_true rfl, Nat.le_of_ble_eq_true rfl⟩) hS (fun q _ h => hFc q h) hFc (fun z_ u_ t H locs ht hvm hw hB hz1 hk1 hS => ?_)
        subst z_
        obtain ⟨hP1, hD1⟩ := hB
        rw [ht] at hP1
        have hJ := vb_join (ws' := (cwM cI b r86.2)) hP hD [0, 1, 2, 3, 4, 5, 6, 7, 8, 9] [] [0, 1, 2, 3, 4, 5, 6, 7, 8, 9] rfl rfl (by decide) (by decide) hk1 hFc hP1 hD1 rfl (by decide) rfl
        clear hP hD hPc hDc hFc hP1 hD1 hk1 hz1 ht hvm hG
        obtain ⟨hP, hD⟩ := hJ
        refine lv_if_eq (tgt := 105) hx hb dX3_readsStatement_89 (by decide) (fun hc => ?_) (fun hc => ?_)
        · have hF := ift hc hF
          refine lv_iconst (v := nI 0) hx hb dX3_readsStatement_105 (by decide) ?_
          exact kJ106 r86.2 (nI 0) _ _ _ hF hP hD hS (lv_sub hl [1] rfl)
        · have hF := iff_ hc hF
          refine lv_aload_n hx hb dX3_readsStatement_92 rfl (lv_at hl 1 rfl) ?_
          refine lv_iconst (v := nI 2) hx hb dX3_readsStatement_93 (by decide) ?_
          refine lv_iconst (v := nI 2) hx hb dX3_readsStatement_94 (by decide) ?_
          have hPc := hP.sub (ws' := (cwM cI b r86.2)) [0, 1, 2, 3, 4, 5, 6, 7, 8, 9] rfl
          have hDc := hD.sub (ws' := (cwM cI b r86.2)) [0, 1, 2, 3, 4, 5, 6, 7, 8, 9] (by decide) rfl
          have hFc := va_free (wc := (cwM cI b r86.2)) hD hS hA [0, 1, 2, 3, 4, 5, 6, 7, 8, 9] rfl
          refine bd hF (fun r95 hG hF => ?_)
          refine va_calli (va_runV (As := [.int (nI 2), .int (nI 2)]) (rest := []) ⟨hx, hb, hml, hown, hts⟩ (c_X3_readsNumber l dC dI cI sf H.size N b r86.2 (nI 2) (nI 2) r95 hG) (cwV 2 hts gX3_readsStatement_X3_readsNumber rfl rfl rfl (by decide +kernel) ⟨Nat.le_of_ble_eq_true rfl, Nat.le_of_ble_eq_true rfl⟩) ⟨fun a U g mk q => ⟨q.1, q.2.call⟩, va_recv hK hP (ci := 3) (q0 := 0) rfl rfl, fun U hU hW => ⟨rfl, PB.of hU hW hPc hK hDc hNN hSF hS hFc⟩⟩ rfl rfl hl.1 rfl (lv_room (Nat.le_of_ble_eq_true rfl)) dX3_readsStatement_95 ⟨Nat.le_of_ble_eq_true rfl, Nat.le_of_ble_eq_true rfl⟩) hS (fun q _ h => hFc q h) hFc (fun z_ u_ t H locs ht hvm hw hB hz1 hk1 hS => ?_)
          subst z_
          obtain ⟨hP1, hD1⟩ := hB
          rw [ht] at hP1
          have hJ := vb_join (ws' := (cwM cI b r95.2)) hP hD [0, 1, 2, 3, 4, 5, 6, 7, 8, 9] [] [0, 1, 2, 3, 4, 5, 6, 7, 8, 9] rfl rfl (by decide) (by decide) hk1 hFc hP1 hD1 rfl (by decide) rfl
          clear hP hD hPc hDc hFc hP1 hD1 hk1 hz1 ht hvm hG
          obtain ⟨hP, hD⟩ := hJ
          refine lv_if_eq (tgt := 105) hx hb dX3_readsStatement_98 (by decide) (fun hc => ?_) (fun hc => ?_)
          · have hF := ift hc hF
            refine lv_iconst (v := nI 0) hx hb dX3_readsStatement_105 (by decide) ?_
            exact kJ106 r95.2 (nI 0) _ _ _ hF hP hD hS (lv_sub hl [1] rfl)
          · have hF := iff_ hc hF
            refine lv_iconst (v := nI 1) hx hb dX3_readsStatement_101 (by decide) ?_
            refine lv_goto (tgt := 106) hx hb dX3_readsStatement_102 (by decide) ?_
            exact kJ106 r95.2 (nI 1) _ _ _ hF hP hD hS (lv_sub hl [1] rfl)
    · have hF := iff_ hc99 hF
      by_cases hc100 : r1 = nI 100
      · have hF := ift hc100 hF
        refine lv_lookup (off := 155) (tgt := 171) hx hb dX3_readsStatement_16 (by decide) (by rw [hc100]; decide) (by decide) ?_
        refine lv_aload_n hx hb dX3_readsStatement_171 rfl (lv_at hl 1 rfl) ?_
        refine lv_iconst (v := nI 0) hx hb dX3_readsStatement_172 (by decide) ?_
        refine lv_iconst (v := nI 1) hx hb dX3_readsStatement_173 (by decide) ?_
        have hPc := hP.sub (ws' := (cwM cI b (tW.1, tW.2.1, tW.2.2.1, tW.2.2.2.1, tW.2.2.2.2.1, tW.2.2.2.2.2.1, tW.2.2.2.2.2.2.1, tW.2.2.2.2.2.2.2.1, tW.2.2.2.2.2.2.2.2.1, tW.2.2.2.2.2.2.2.2.2.1, (tW.2.2.2.2.2.2.2.2.2.2.1 + (nI 1)), tW.2.2.2.2.2.2.2.2.2.2.2.1, tW.2.2.2.2.2.2.2.2.2.2.2.2.1, tW.2.2.2.2.2.2.2.2.2.2.2.2.2.1, tW.2.2.2.2.2.2.2.2.2.2.2.2.2.2))) [0, 1, 2, 3, 4, 5, 6, 7, 8, 9] rfl
        have hDc := hD.sub (ws' := (cwM cI b (tW.1, tW.2.1, tW.2.2.1, tW.2.2.2.1, tW.2.2.2.2.1, tW.2.2.2.2.2.1, tW.2.2.2.2.2.2.1, tW.2.2.2.2.2.2.2.1, tW.2.2.2.2.2.2.2.2.1, tW.2.2.2.2.2.2.2.2.2.1, (tW.2.2.2.2.2.2.2.2.2.2.1 + (nI 1)), tW.2.2.2.2.2.2.2.2.2.2.2.1, tW.2.2.2.2.2.2.2.2.2.2.2.2.1, tW.2.2.2.2.2.2.2.2.2.2.2.2.2.1, tW.2.2.2.2.2.2.2.2.2.2.2.2.2.2))) [0, 1, 2, 3, 4, 5, 6, 7, 8, 9] (by decide) rfl
        have hFc := va_free (wc := (cwM cI b (tW.1, tW.2.1, tW.2.2.1, tW.2.2.2.1, tW.2.2.2.2.1, tW.2.2.2.2.2.1, tW.2.2.2.2.2.2.1, tW.2.2.2.2.2.2.2.1, tW.2.2.2.2.2.2.2.2.1, tW.2.2.2.2.2.2.2.2.2.1, (tW.2.2.2.2.2.2.2.2.2.2.1 + (nI 1)), tW.2.2.2.2.2.2.2.2.2.2.2.1, tW.2.2.2.2.2.2.2.2.2.2.2.2.1, tW.2.2.2.2.2.2.2.2.2.2.2.2.2.1, tW.2.2.2.2.2.2.2.2.2.2.2.2.2.2))) hD hS hA [0, 1, 2, 3, 4, 5, 6, 7, 8, 9] rfl
        refine bd hF (fun r174 hG hF => ?_)
        refine va_calli (va_runV (As := [.int (nI 0), .int (nI 1)]) (rest := []) ⟨hx, hb, hml, hown, hts⟩ (c_X3_readsNumber l dC dI cI sf H.size N b (tW.1, tW.2.1, tW.2.2.1, tW.2.2.2.1, tW.2.2.2.2.1, tW.2.2.2.2.2.1, tW.2.2.2.2.2.2.1, tW.2.2.2.2.2.2.2.1, tW.2.2.2.2.2.2.2.2.1, tW.2.2.2.2.2.2.2.2.2.1, (tW.2.2.2.2.2.2.2.2.2.2.1 + (nI 1)), tW.2.2.2.2.2.2.2.2.2.2.2.1, tW.2.2.2.2.2.2.2.2.2.2.2.2.1, tW.2.2.2.2.2.2.2.2.2.2.2.2.2.1, tW.2.2.2.2.2.2.2.2.2.2.2.2.2.2) (nI 0) (nI 1) r174 hG) (cwV 2 hts gX3_readsStatement_X3_readsNumber rfl rfl rfl (by decide +kernel) ⟨Nat.le_of_ble_eq_true rfl, Nat.le_of_ble_eq_true rfl⟩) ⟨fun a U g mk q => ⟨q.1, q.2.call⟩, va_recv hK hP (ci := 3) (q0 := 0) rfl rfl, fun U hU hW => ⟨rfl, PB.of hU hW hPc hK hDc hNN hSF hS hFc⟩⟩ rfl rfl hl.1 rfl (lv_room (Nat.le_of_ble_eq_true rfl)) dX3_readsStatement_174 ⟨Nat.le_of_ble_eq_true rfl, Nat.le_of_ble_eq_true rfl⟩) hS (fun q _ h => hFc q h) hFc (fun z_ u_ t H locs ht hvm hw hB hz1 hk1 hS => ?_)
        subst z_
        obtain ⟨hP1, hD1⟩ := hB
        rw [ht] at hP1
        have hJ := vb_join (ws' := (cwM cI b r174.2)) hP hD [0, 1, 2, 3, 4, 5, 6, 7, 8, 9] [] [0, 1, 2, 3, 4, 5, 6, 7, 8, 9] rfl rfl (by decide) (by decide) hk1 hFc hP1 hD1 rfl (by decide) rfl
        clear hP hD hPc hDc hFc hP1 hD1 hk1 hz1 ht hvm hG
        obtain ⟨hP, hD⟩ := hJ
        refine lv_istore_n (lv' := [(2, .int r174.1), (1, .int r1), (0, .ref (b 0))]) hx hb dX3_readsStatement_177 rfl hl (by decide) rfl (fun ls hl => ?_)
        refine lv_goto (tgt := 203) hx hb dX3_readsStatement_178 (by decide) ?_
        exact kJ203 r174.2 r174.1 _ _ _ hF hP hD hS (lv_sub hl [2, 0] rfl)
      · have hF := iff_ hc100 hF
        by_cases hc113 : r1 = nI 113
        · have hF := ift hc113 hF
          refine lv_lookup (off := 94) (tgt := 110) hx hb dX3_readsStatement_16 (by decide) (by rw [hc113]; decide) (by decide) ?_
          exact kJ110 (tW.1, tW.2.1, tW.2.2.1, tW.2.2.2.1, tW.2.2.2.2.1, tW.2.2.2.2.2.1, tW.2.2.2.2.2.2.1, tW.2.2.2.2.2.2.2.1, tW.2.2.2.2.2.2.2.2.1, tW.2.2.2.2.2.2.2.2.2.1, (tW.2.2.2.2.2.2.2.2.2.2.1 + (nI 1)), tW.2.2.2.2.2.2.2.2.2.2.2.1, tW.2.2.2.2.2.2.2.2.2.2.2.2.1, tW.2.2.2.2.2.2.2.2.2.2.2.2.2.1, tW.2.2.2.2.2.2.2.2.2.2.2.2.2.2) _ _ _ hF hP hD hS (lv_sub hl [1] rfl)
        · have hF := iff_ hc113 hF
          by_cases hc119 : r1 = nI 119
          · have hF := ift hc119 hF
            refine lv_lookup (off := 94) (tgt := 110) hx hb dX3_readsStatement_16 (by decide) (by rw [hc119]; decide) (by decide) ?_
            exact kJ110 (tW.1, tW.2.1, tW.2.2.1, tW.2.2.2.1, tW.2.2.2.2.1, tW.2.2.2.2.2.1, tW.2.2.2.2.2.2.1, tW.2.2.2.2.2.2.2.1, tW.2.2.2.2.2.2.2.2.1, tW.2.2.2.2.2.2.2.2.2.1, (tW.2.2.2.2.2.2.2.2.2.2.1 + (nI 1)), tW.2.2.2.2.2.2.2.2.2.2.2.1, tW.2.2.2.2.2.2.2.2.2.2.2.2.1, tW.2.2.2.2.2.2.2.2.2.2.2.2.2.1, tW.2.2.2.2.2.2.2.2.2.2.2.2.2.2) _ _ _ hF hP hD hS (lv_sub hl [1] rfl)
          · have hF := iff_ hc119 hF
            by_cases hc121 : r1 = nI 121
            · have hF := ift hc121 hF
              refine lv_lookup (off := 165) (tgt := 181) hx hb dX3_readsStatement_16 (by decide) (by rw [hc121]; decide) (by decide) ?_
              refine lv_aload_n hx hb dX3_readsStatement_181 rfl (lv_at hl 1 rfl) ?_
              refine lv_iconst (v := nI 0) hx hb dX3_readsStatement_182 (by decide) ?_
              refine lv_iconst (v := nI 2) hx hb dX3_readsStatement_183 (by decide) ?_
              have hPc := hP.sub (ws' := (cwM cI b (tW.1, tW.2.1, tW.2.2.1, tW.2.2.2.1, tW.2.2.2.2.1, tW.2.2.2.2.2.1, tW.2.2.2.2.2.2.1, tW.2.2.2.2.2.2.2.1, tW.2.2.2.2.2.2.2.2.1, tW.2.2.2.2.2.2.2.2.2.1, (tW.2.2.2.2.2.2.2.2.2.2.1 + (nI 1)), tW.2.2.2.2.2.2.2.2.2.2.2.1, tW.2.2.2.2.2.2.2.2.2.2.2.2.1, tW.2.2.2.2.2.2.2.2.2.2.2.2.2.1, tW.2.2.2.2.2.2.2.2.2.2.2.2.2.2))) [0, 1, 2, 3, 4, 5, 6, 7, 8, 9] rfl
              have hDc := hD.sub (ws' := (cwM cI b (tW.1, tW.2.1, tW.2.2.1, tW.2.2.2.1, tW.2.2.2.2.1, tW.2.2.2.2.2.1, tW.2.2.2.2.2.2.1, tW.2.2.2.2.2.2.2.1, tW.2.2.2.2.2.2.2.2.1, tW.2.2.2.2.2.2.2.2.2.1, (tW.2.2.2.2.2.2.2.2.2.2.1 + (nI 1)), tW.2.2.2.2.2.2.2.2.2.2.2.1, tW.2.2.2.2.2.2.2.2.2.2.2.2.1, tW.2.2.2.2.2.2.2.2.2.2.2.2.2.1, tW.2.2.2.2.2.2.2.2.2.2.2.2.2.2))) [0, 1, 2, 3, 4, 5, 6, 7, 8, 9] (by decide) rfl
              have hFc := va_free (wc := (cwM cI b (tW.1, tW.2.1, tW.2.2.1, tW.2.2.2.1, tW.2.2.2.2.1, tW.2.2.2.2.2.1, tW.2.2.2.2.2.2.1, tW.2.2.2.2.2.2.2.1, tW.2.2.2.2.2.2.2.2.1, tW.2.2.2.2.2.2.2.2.2.1, (tW.2.2.2.2.2.2.2.2.2.2.1 + (nI 1)), tW.2.2.2.2.2.2.2.2.2.2.2.1, tW.2.2.2.2.2.2.2.2.2.2.2.2.1, tW.2.2.2.2.2.2.2.2.2.2.2.2.2.1, tW.2.2.2.2.2.2.2.2.2.2.2.2.2.2))) hD hS hA [0, 1, 2, 3, 4, 5, 6, 7, 8, 9] rfl
              refine bd hF (fun r184 hG hF => ?_)
              refine va_calli (va_runV (As := [.int (nI 0), .int (nI 2)]) (rest := []) ⟨hx, hb, hml, hown, hts⟩ (c_X3_readsNumber l dC dI cI sf H.size N b (tW.1, tW.2.1, tW.2.2.1, tW.2.2.2.1, tW.2.2.2.2.1, tW.2.2.2.2.2.1, tW.2.2.2.2.2.2.1, tW.2.2.2.2.2.2.2.1, tW.2.2.2.2.2.2.2.2.1, tW.2.2.2.2.2.2.2.2.2.1, (tW.2.2.2.2.2.2.2.2.2.2.1 + (nI 1)), tW.2.2.2.2.2.2.2.2.2.2.2.1, tW.2.2.2.2.2.2.2.2.2.2.2.2.1, tW.2.2.2.2.2.2.2.2.2.2.2.2.2.1, tW.2.2.2.2.2.2.2.2.2.2.2.2.2.2) (nI 0) (nI 2) r184 hG) (cwV 2 hts gX3_readsStatement_X3_readsNumber rfl rfl rfl (by decide +kernel) ⟨Nat.le_of_ble_eq_true rfl, Nat.le_of_ble_eq_true rfl⟩) ⟨fun a U g mk q => ⟨q.1, q.2.call⟩, va_recv hK hP (ci := 3) (q0 := 0) rfl rfl, fun U hU hW => ⟨rfl, PB.of hU hW hPc hK hDc hNN hSF hS hFc⟩⟩ rfl rfl hl.1 rfl (lv_room (Nat.le_of_ble_eq_true rfl)) dX3_readsStatement_184 ⟨Nat.le_of_ble_eq_true rfl, Nat.le_of_ble_eq_true rfl⟩) hS (fun q _ h => hFc q h) hFc (fun z_ u_ t H locs ht hvm hw hB hz1 hk1 hS => ?_)
              subst z_
              obtain ⟨hP1, hD1⟩ := hB
              rw [ht] at hP1
              have hJ := vb_join (ws' := (cwM cI b r184.2)) hP hD [0, 1, 2, 3, 4, 5, 6, 7, 8, 9] [] [0, 1, 2, 3, 4, 5, 6, 7, 8, 9] rfl rfl (by decide) (by decide) hk1 hFc hP1 hD1 rfl (by decide) rfl
              clear hP hD hPc hDc hFc hP1 hD1 hk1 hz1 ht hvm hG
              obtain ⟨hP, hD⟩ := hJ
              refine lv_istore_n (lv' := [(2, .int r184.1), (1, .int r1), (0, .ref (b 0))]) hx hb dX3_readsStatement_187 rfl hl (by decide) rfl (fun ls hl => ?_)
              refine lv_goto (tgt := 203) hx hb dX3_readsStatement_188 (by decide) ?_
              exact kJ203 r184.2 r184.1 _ _ _ hF hP hD hS (lv_sub hl [2, 0] rfl)
            · have hF := iff_ hc121 hF
              refine lv_lookup (off := 175) (tgt := 191) hx hb dX3_readsStatement_16 (by decide) (by simp only [Op.lookupswitch.offset_cons, Op.lookupswitch.offset_nil]; rw [if_neg (show ¬ (97 : Int) = _ from sw_ne (k := 97) (by decide) hc97), if_neg (show ¬ (99 : Int) = _ from sw_ne (k := 99) (by decide) hc99), if_neg (show ¬ (100 : Int) = _ from sw_ne (k := 100) (by decide) hc100), if_neg (show ¬ (113 : Int) = _ from sw_ne (k := 113) (by decide) hc113), if_neg (show ¬ (119 : Int) = _ from sw_ne (k := 119) (by decide) hc119), if_neg (show ¬ (121 : Int) = _ from sw_ne (k := 121) (by decide) hc121)]) (by decide) ?_
              refine lv_aload_n hx hb dX3_readsStatement_191 rfl (lv_at hl 1 rfl) ?_
              refine lv_dup hx hb dX3_readsStatement_192 rfl ?_
              refine va_get (D := (dC, dI)) (ci := 3) (v := .int (tW.2.2.2.2.2.2.2.2.2.2.1 + (nI 1))) (C := RX3) (T := TX3) (N := 15) hx hb hts inw_X3_readsStatement_X3 hown hK hP 0 rfl rfl 10 (by decide) (hts (.fieldLink RX3 94 "DeniedOfEachOtherModel" "place" "I") (List.mem_of_getElem? (i := 1) rfl)) (fun _ h9 => h9) rfl dX3_readsStatement_193 ?_
              refine lv_iconst (v := nI 1) hx hb dX3_readsStatement_196 (by decide) ?_
              refine lv_isub hx hb dX3_readsStatement_197 ?_
              refine va_put (D := (dC, dI)) (ci := 3) (v := .int ((tW.2.2.2.2.2.2.2.2.2.2.1 + (nI 1)) - (nI 1))) (ty := .int) (C := RX3) (T := TX3) (N := 15) hx hb hts inw_X3_readsStatement_X3 tyX3 tyX3_ok nmX3 hown hK hP hD hS 0 rfl rfl 10 (by decide) (hts (.fieldLink RX3 94 "DeniedOfEachOtherModel" "place" "I") (List.mem_of_getElem? (i := 1) rfl)) (fun _ h9 => h9) rfl (by decide +kernel) rfl rfl (Nat.le_of_ble_eq_true rfl) dX3_readsStatement_198 (fun H locs hP hD hS => ?_)
              have hP : va_P (dC, dI) vwCl (cwM cI b (tW.1, tW.2.1, tW.2.2.1, tW.2.2.2.1, tW.2.2.2.2.1, tW.2.2.2.2.2.1, tW.2.2.2.2.2.2.1, tW.2.2.2.2.2.2.2.1, tW.2.2.2.2.2.2.2.2.1, tW.2.2.2.2.2.2.2.2.2.1, ((tW.2.2.2.2.2.2.2.2.2.2.1 + (nI 1)) - (nI 1)), tW.2.2.2.2.2.2.2.2.2.2.2.1, tW.2.2.2.2.2.2.2.2.2.2.2.2.1, tW.2.2.2.2.2.2.2.2.2.2.2.2.2.1, tW.2.2.2.2.2.2.2.2.2.2.2.2.2.2)) H := hP
              have hD : va_D A (cwM cI b (tW.1, tW.2.1, tW.2.2.1, tW.2.2.2.1, tW.2.2.2.2.1, tW.2.2.2.2.2.1, tW.2.2.2.2.2.2.1, tW.2.2.2.2.2.2.2.1, tW.2.2.2.2.2.2.2.2.1, tW.2.2.2.2.2.2.2.2.2.1, ((tW.2.2.2.2.2.2.2.2.2.2.1 + (nI 1)) - (nI 1)), tW.2.2.2.2.2.2.2.2.2.2.2.1, tW.2.2.2.2.2.2.2.2.2.2.2.2.1, tW.2.2.2.2.2.2.2.2.2.2.2.2.2.1, tW.2.2.2.2.2.2.2.2.2.2.2.2.2.2)) := hD
              refine lv_iconst (v := nI 0) hx hb dX3_readsStatement_201 (by decide) ?_
              obtain rfl := Option.some.inj hF
              exact W.zret (v := (nI 0)) (ty := .boolean) hx hb hr (by decide +kernel) (fun t ht hW => ⟨⟨(nI 0), (), rfl, rfl, QB.of ht hP hD⟩, hS.F ht⟩) hS.2.2 dX3_readsStatement_202
theorem inw_X3_row_X3 : ∀ w ∈ u_ws RX3 TX3 15, w ∈ wsX3_row := fun _ h => List.mem_cons_of_mem _ (List.mem_append_right _ h)
set_option maxHeartbeats 4000000 in
set_option maxRecDepth 100000 in
theorem c_X3_row (l : Launch) (dC : Nat → ClassId) (dI : Nat → Nat → Nat) (cI : ClassId) (sf : SFP) (sz : Nat) (N : Nat) (b : Nat → Nat) (tW : MS) (p1 : Int32) (r : (Int32 × MS)) (hF : F_X3_row N tW p1 = some r) : Met l yX3_row wsX3_row ({ frames := 1, cells := 0, slots := 0, locals := 21 }) (va_Pc [.ref (b 0), .int p1] (PB (dC, dI) cI (cwM cI b tW) sz sf)) (va_Qi (fun (z : Int32) (_ : Unit) => z = r.1) (fun _ t => QB (dC, dI) (cwM cI b r.2) (va_A (cwM cI b tW) sz) t) (va_A (cwM cI b tW) sz)) 0 0 (va_A (cwM cI b tW) sz) := by
  refine Met.ofW (cc := cX3_row) (maxL := 3) (ret := (some .int)) (by decide) rfl ?_
  intro p e s m args below meth c s₁ B hml hv
  obtain ⟨rfl, hsz, hP, hK, hD0, hNN, hSF⟩ := hv
  have hx := B.exec
  have hb := B.bytes
  have hr := B.returns
  have hts := atoms_spec (ws := wsX3_row) B.pre
  have hown : s.vm.findClass RX3 = some m.cls := findClass_of_methodNamed B.named
  have hlocks := B.notSynchronized
  subst hsz
  have hD := hD0.self (sz := s.heap.size)
  generalize hAe : va_A (cwM cI b tW) s.heap.size = A at hD hSF ⊢
  have hA : ∀ q : Nat, s.heap.size ≤ q → A q := fun q h => by rw [← hAe]; exact Or.inr h
  clear hAe hD0
  have hS : va_S A s.heap s.heap [] := va_S.rf
  have hl := lv_entry ([.ref (b 0), .int p1]) (n := 3) (Nat.le_of_ble_eq_true rfl)
  rw [lg_entry_eq]
  generalize (lg_sl ([.ref (b 0), .int p1]) ++ List.replicate (3 - (lg_sl ([.ref (b 0), .int p1])).length) Slot.unset).toArray = ls at hl ⊢
  have hl : lv_has ls 3 [(0, .ref (b 0)), (1, .int p1)] := hl
  rw [F_X3_row] at hF
  refine lv_iload_n hx hb dX3_row_0 rfl (lv_at hl 1 rfl) ?_
  refine lv_bipush (v := nI 99) hx hb dX3_row_1 (by decide) ?_
  have hPc := hP.sub (ws' := ([] : va_W)) [] rfl
  have hDc := hD.sub (ws' := ([] : va_W)) [] (by decide) rfl
  have hFc := va_free (wc := ([] : va_W)) hD hS hA [] rfl
  refine bd hF (fun r3 hG hF => ?_)
  refine va_calli (va_runS (As := [.int p1, .int (nI 99)]) (rest := []) ⟨hx, hb, hml, hown, hts⟩ (c_X3_wrongBy l dC dI cI sf s.heap.size N  p1 (nI 99) r3 hG) (va_cwS 2 hts gX3_row_X3_wrongBy rfl rfl rfl (by decide +kernel) ⟨Nat.le_of_ble_eq_true rfl, Nat.le_of_ble_eq_true rfl⟩) ⟨fun a U g mk q => ⟨q.1, q.2.call⟩, fun U hU hW => ⟨rfl, PB.of hU hW hPc hK hDc hNN hSF hS hFc⟩⟩ rfl rfl hl.1 rfl (lv_room (Nat.le_of_ble_eq_true rfl)) dX3_row_3 ⟨Nat.le_of_ble_eq_true rfl, Nat.le_of_ble_eq_true rfl⟩) hS (fun q _ h => hFc q h) hFc (fun z_ u_ t H locs ht hvm hw hB hz1 hk1 hS => ?_)
  subst z_
  obtain ⟨hP1, hD1⟩ := hB
  rw [ht] at hP1
  have hJ := vb_join (ws' := (cwM cI b tW)) hP hD [] [0, 1, 2, 3, 4, 5, 6, 7, 8, 9] [0, 1, 2, 3, 4, 5, 6, 7, 8, 9] rfl rfl (by decide) (by decide) hk1 hFc hP1 hD1 rfl (by decide) rfl
  clear hP hD hPc hDc hFc hP1 hD1 hk1 hz1 ht hvm hG
  obtain ⟨hP, hD⟩ := hJ
  refine lv_istore_n (lv' := [(2, .int r3), (0, .ref (b 0)), (1, .int p1)]) hx hb dX3_row_6 rfl hl (by decide) rfl (fun ls hl => ?_)
  refine lv_iload_n hx hb dX3_row_7 rfl (lv_at hl 0 rfl) ?_
  refine vW_have (fun R av Q => ∀ (tW : MS) (x1 : Int32) (x2 : Int32) (H : Heap) (locs : List Loc) (ls : Array Slot), F_X3_row_23 N tW x1 x2 = some r → va_P (dC, dI) vwCl (cwM cI b tW) H → va_D A (cwM cI b tW) → va_S A s.heap H locs → lv_has ls 3 [(0, .ref (b 0)), (1, .int x1), (2, .int x2)] → W p l e R s m av below meth c H locs 0 0 Q (F0 m 23 ls [])) ?_ (fun kJ23 => ?_)
  · 
    intro tW x1 x2 H locs ls hF hP hD hS hl
    rw [F_X3_row_23] at hF
    refine lv_iload_n hx hb dX3_row_23 rfl (lv_at hl 2 rfl) ?_
    refine lv_if_eq (tgt := 33) hx hb dX3_row_24 (by decide) (fun hc => ?_) (fun hc => ?_)
    · have hF := ift hc hF
      refine lv_aload_n hx hb dX3_row_33 rfl (lv_at hl 0 rfl) ?_
      refine va_get (D := (dC, dI)) (ci := 3) (v := .ref (b 6)) (C := RX3) (T := TX3) (N := 15) hx hb hts inw_X3_row_X3 hown hK hP 0 rfl rfl 6 (by decide) (hts (.fieldLink RX3 25 "DeniedOfEachOtherModel" "row" "[I") (List.mem_of_getElem? (i := 2) rfl)) (fun _ h9 => h9) rfl dX3_row_34 ?_
      refine lv_aload_n hx hb dX3_row_37 rfl (lv_at hl 0 rfl) ?_
      refine va_get (D := (dC, dI)) (ci := 3) (v := .int tW.2.2.2.2.2.2.2.2.2.1) (C := RX3) (T := TX3) (N := 15) hx hb hts inw_X3_row_X3 hown hK hP 0 rfl rfl 9 (by decide) (hts (.fieldLink RX3 208 "DeniedOfEachOtherModel" "rowMany" "I") (List.mem_of_getElem? (i := 1) rfl)) (fun _ h9 => h9) rfl dX3_row_38 ?_
      refine lv_iload_n hx hb dX3_row_41 rfl (lv_at hl 1 rfl) ?_
      refine cki hF (fun hi hF => ?_)
      refine va_iast (D := (dC, dI)) hx hb hK hP hD hS 6 0 rfl rfl hi dX3_row_42 (fun H locs hP hD hS => ?_)
      have hP : va_P (dC, dI) vwCl (cwM cI b (tW.1, tW.2.1, tW.2.2.1, tW.2.2.2.1, tW.2.2.2.2.1, tW.2.2.2.2.2.1, (upd tW.2.2.2.2.2.2.1 tW.2.2.2.2.2.2.2.2.2.1.toNatClampNeg x1), tW.2.2.2.2.2.2.2.1, tW.2.2.2.2.2.2.2.2.1, tW.2.2.2.2.2.2.2.2.2.1, tW.2.2.2.2.2.2.2.2.2.2.1, tW.2.2.2.2.2.2.2.2.2.2.2.1, tW.2.2.2.2.2.2.2.2.2.2.2.2.1, tW.2.2.2.2.2.2.2.2.2.2.2.2.2.1, tW.2.2.2.2.2.2.2.2.2.2.2.2.2.2)) H := hP
      have hD : va_D A (cwM cI b (tW.1, tW.2.1, tW.2.2.1, tW.2.2.2.1, tW.2.2.2.2.1, tW.2.2.2.2.2.1, (upd tW.2.2.2.2.2.2.1 tW.2.2.2.2.2.2.2.2.2.1.toNatClampNeg x1), tW.2.2.2.2.2.2.2.1, tW.2.2.2.2.2.2.2.2.1, tW.2.2.2.2.2.2.2.2.2.1, tW.2.2.2.2.2.2.2.2.2.2.1, tW.2.2.2.2.2.2.2.2.2.2.2.1, tW.2.2.2.2.2.2.2.2.2.2.2.2.1, tW.2.2.2.2.2.2.2.2.2.2.2.2.2.1, tW.2.2.2.2.2.2.2.2.2.2.2.2.2.2)) := hD
      refine lv_aload_n hx hb dX3_row_43 rfl (lv_at hl 0 rfl) ?_
      refine lv_dup hx hb dX3_row_44 rfl ?_
      refine va_get (D := (dC, dI)) (ci := 3) (v := .int tW.2.2.2.2.2.2.2.2.2.1) (C := RX3) (T := TX3) (N := 15) hx hb hts inw_X3_row_X3 hown hK hP 0 rfl rfl 9 (by decide) (hts (.fieldLink RX3 208 "DeniedOfEachOtherModel" "rowMany" "I") (List.mem_of_getElem? (i := 1) rfl)) (fun _ h9 => h9) rfl dX3_row_45 ?_
      refine lv_iconst (v := nI 1) hx hb dX3_row_48 (by decide) ?_
      refine lv_iadd hx hb dX3_row_49 ?_
      refine va_put (D := (dC, dI)) (ci := 3) (v := .int (tW.2.2.2.2.2.2.2.2.2.1 + (nI 1))) (ty := .int) (C := RX3) (T := TX3) (N := 15) hx hb hts inw_X3_row_X3 tyX3 tyX3_ok nmX3 hown hK hP hD hS 0 rfl rfl 9 (by decide) (hts (.fieldLink RX3 208 "DeniedOfEachOtherModel" "rowMany" "I") (List.mem_of_getElem? (i := 1) rfl)) (fun _ h9 => h9) rfl (by decide +kernel) rfl rfl (Nat.le_of_ble_eq_true rfl) dX3_row_50 (fun H locs hP hD hS => ?_)
      have hP : va_P (dC, dI) vwCl (cwM cI b (tW.1, tW.2.1, tW.2.2.1, tW.2.2.2.1, tW.2.2.2.2.1, tW.2.2.2.2.2.1, (upd tW.2.2.2.2.2.2.1 tW.2.2.2.2.2.2.2.2.2.1.toNatClampNeg x1), tW.2.2.2.2.2.2.2.1, tW.2.2.2.2.2.2.2.2.1, (tW.2.2.2.2.2.2.2.2.2.1 + (nI 1)), tW.2.2.2.2.2.2.2.2.2.2.1, tW.2.2.2.2.2.2.2.2.2.2.2.1, tW.2.2.2.2.2.2.2.2.2.2.2.2.1, tW.2.2.2.2.2.2.2.2.2.2.2.2.2.1, tW.2.2.2.2.2.2.2.2.2.2.2.2.2.2)) H := hP
      have hD : va_D A (cwM cI b (tW.1, tW.2.1, tW.2.2.1, tW.2.2.2.1, tW.2.2.2.2.1, tW.2.2.2.2.2.1, (upd tW.2.2.2.2.2.2.1 tW.2.2.2.2.2.2.2.2.2.1.toNatClampNeg x1), tW.2.2.2.2.2.2.2.1, tW.2.2.2.2.2.2.2.2.1, (tW.2.2.2.2.2.2.2.2.2.1 + (nI 1)), tW.2.2.2.2.2.2.2.2.2.2.1, tW.2.2.2.2.2.2.2.2.2.2.2.1, tW.2.2.2.2.2.2.2.2.2.2.2.2.1, tW.2.2.2.2.2.2.2.2.2.2.2.2.2.1, tW.2.2.2.2.2.2.2.2.2.2.2.2.2.2)) := hD
      refine lv_aload_n hx hb dX3_row_53 rfl (lv_at hl 0 rfl) ?_
      refine va_get (D := (dC, dI)) (ci := 3) (v := .int (tW.2.2.2.2.2.2.2.2.2.1 + (nI 1))) (C := RX3) (T := TX3) (N := 15) hx hb hts inw_X3_row_X3 hown hK hP 0 rfl rfl 9 (by decide) (hts (.fieldLink RX3 208 "DeniedOfEachOtherModel" "rowMany" "I") (List.mem_of_getElem? (i := 1) rfl)) (fun _ h9 => h9) rfl dX3_row_54 ?_
      obtain rfl := Option.some.inj hF
      exact W.iret (v := (tW.2.2.2.2.2.2.2.2.2.1 + (nI 1))) hx hb hr (fun t ht hW => ⟨⟨(tW.2.2.2.2.2.2.2.2.2.1 + (nI 1)), (), rfl, rfl, QB.of ht hP hD⟩, hS.F ht⟩) hS.2.2 dX3_row_57
    · have hF := iff_ hc hF
      refine lv_aload_n hx hb dX3_row_27 rfl (lv_at hl 0 rfl) ?_
      refine lv_iload_n hx hb dX3_row_28 rfl (lv_at hl 2 rfl) ?_
      have hPc := hP.sub (ws' := (cwM cI b tW)) [0, 1, 2, 3, 4, 5, 6, 7, 8, 9] rfl
      have hDc := hD.sub (ws' := (cwM cI b tW)) [0, 1, 2, 3, 4, 5, 6, 7, 8, 9] (by decide) rfl
      have hFc := va_free (wc := (cwM cI b tW)) hD hS hA [0, 1, 2, 3, 4, 5, 6, 7, 8, 9] rfl
      refine bd hF (fun r29 hG hF => ?_)
      refine va_calli (va_runV (As := [.int x2]) (rest := []) ⟨hx, hb, hml, hown, hts⟩ (c_X3_no l dC dI cI sf H.size N b tW x2 r29 hG) (cwV 1 hts gX3_row_X3_no rfl rfl rfl (by decide +kernel) ⟨Nat.le_of_ble_eq_true rfl, Nat.le_of_ble_eq_true rfl⟩) ⟨fun a U g mk q => ⟨q.1, q.2.call⟩, va_recv hK hP (ci := 3) (q0 := 0) rfl rfl, fun U hU hW => ⟨rfl, PB.of hU hW hPc hK hDc hNN hSF hS hFc⟩⟩ rfl rfl hl.1 rfl (lv_room (Nat.le_of_ble_eq_true rfl)) dX3_row_29 ⟨Nat.le_of_ble_eq_true rfl, Nat.le_of_ble_eq_true rfl⟩) hS (fun q _ h => hFc q h) hFc (fun z_ u_ t H locs ht hvm hw hB hz1 hk1 hS => ?_)
      subst z_
      obtain ⟨hP1, hD1⟩ := hB
      rw [ht] at hP1
      have hJ := vb_join (ws' := (cwM cI b r29.2)) hP hD [0, 1, 2, 3, 4, 5, 6, 7, 8, 9] [] [0, 1, 2, 3, 4, 5, 6, 7, 8, 9] rfl rfl (by decide) (by decide) hk1 hFc hP1 hD1 rfl (by decide) rfl
      clear hP hD hPc hDc hFc hP1 hD1 hk1 hz1 ht hvm hG
      obtain ⟨hP, hD⟩ := hJ
      obtain rfl := Option.some.inj hF
      exact W.iret (v := r29.1) hx hb hr (fun t ht hW => ⟨⟨r29.1, (), rfl, rfl, QB.of ht hP hD⟩, hS.F ht⟩) hS.2.2 dX3_row_32
  refine lv_if_ne (tgt := 23) hx hb dX3_row_8 (by decide) (fun hc => ?_) (fun hc => ?_)
  · have hF := ift hc hF
    exact kJ23 tW p1 r3 _ _ _ hF hP hD hS (lv_sub hl [1, 2, 0] rfl)
  · have hF := iff_ (fun h => h hc) hF
    refine lv_aload_n hx hb dX3_row_11 rfl (lv_at hl 1 rfl) ?_
    refine va_get (D := (dC, dI)) (ci := 3) (v := .int tW.2.2.2.2.2.2.2.2.2.1) (C := RX3) (T := TX3) (N := 15) hx hb hts inw_X3_row_X3 hown hK hP 0 rfl rfl 9 (by decide) (hts (.fieldLink RX3 208 "DeniedOfEachOtherModel" "rowMany" "I") (List.mem_of_getElem? (i := 1) rfl)) (fun _ h9 => h9) rfl dX3_row_12 ?_
    refine lv_bipush (v := nI 16) hx hb dX3_row_15 (by decide) ?_
    refine lv_icmp_ne (tgt := 23) hx hb dX3_row_17 (by decide) (fun hc => ?_) (fun hc => ?_)
    · have hF := ift hc hF
      exact kJ23 tW p1 r3 _ _ _ hF hP hD hS (lv_sub hl [1, 2, 0] rfl)
    · have hF := iff_ (fun h => h hc) hF
      refine lv_bipush (v := (-6)) hx hb dX3_row_20 (by decide) ?_
      refine lv_istore_n (lv' := [(2, .int (-6)), (0, .ref (b 0)), (1, .int p1)]) hx hb dX3_row_22 rfl hl (by decide) rfl (fun ls hl => ?_)
      exact kJ23 tW p1 (-6) _ _ _ hF hP hD hS (lv_sub hl [1, 2, 0] rfl)
theorem inw_X3_says_X3 : ∀ w ∈ u_ws RX3 TX3 15, w ∈ wsX3_says := fun _ h => List.mem_cons_of_mem _ (List.mem_append_right _ h)
set_option maxHeartbeats 4000000 in
set_option maxRecDepth 100000 in
theorem c_X3_says (l : Launch) (dC : Nat → ClassId) (dI : Nat → Nat → Nat) (cI : ClassId) (sf : SFP) (sz : Nat) (N : Nat) (b : Nat → Nat) (tW : MS) (p1 : Int32) (p2 : Int32) (p3 : Int32) (r : (Int32 × MS)) (hF : F_X3_says N tW p1 p2 p3 = some r) : Met l yX3_says wsX3_says ({ frames := 2, cells := 0, slots := 0, locals := 43 }) (va_Pc [.ref (b 0), .int p1, .int p2, .int p3] (PB (dC, dI) cI (cwM cI b tW) sz sf)) (va_Qi (fun (z : Int32) (_ : Unit) => z = r.1) (fun _ t => QB (dC, dI) (cwM cI b r.2) (va_A (cwM cI b tW) sz) t) (va_A (cwM cI b tW) sz)) 0 0 (va_A (cwM cI b tW) sz) := by
  refine Met.ofW (cc := cX3_says) (maxL := 6) (ret := (some .int)) (by decide) rfl ?_
  intro p e s m args below meth c s₁ B hml hv
  obtain ⟨rfl, hsz, hP, hK, hD0, hNN, hSF⟩ := hv
  have hx := B.exec
  have hb := B.bytes
  have hr := B.returns
  have hts := atoms_spec (ws := wsX3_says) B.pre
  have hown : s.vm.findClass RX3 = some m.cls := findClass_of_methodNamed B.named
  have hlocks := B.notSynchronized
  subst hsz
  have hD := hD0.self (sz := s.heap.size)
  generalize hAe : va_A (cwM cI b tW) s.heap.size = A at hD hSF ⊢
  have hA : ∀ q : Nat, s.heap.size ≤ q → A q := fun q h => by rw [← hAe]; exact Or.inr h
  clear hAe hD0
  have hS : va_S A s.heap s.heap [] := va_S.rf
  have hl := lv_entry ([.ref (b 0), .int p1, .int p2, .int p3]) (n := 6) (Nat.le_of_ble_eq_true rfl)
  rw [lg_entry_eq]
  generalize (lg_sl ([.ref (b 0), .int p1, .int p2, .int p3]) ++ List.replicate (6 - (lg_sl ([.ref (b 0), .int p1, .int p2, .int p3])).length) Slot.unset).toArray = ls at hl ⊢
  have hl : lv_has ls 6 [(0, .ref (b 0)), (1, .int p1), (2, .int p2), (3, .int p3)] := hl
  rw [F_X3_says] at hF
  refine lv_aload_n hx hb dX3_says_0 rfl (lv_at hl 0 rfl) ?_
  refine lv_iload_n hx hb dX3_says_1 rfl (lv_at hl 1 rfl) ?_
  have hPc := hP.sub (ws' := (cwM cI b tW)) [0, 1, 2, 3, 4, 5, 6, 7, 8, 9] rfl
  have hDc := hD.sub (ws' := (cwM cI b tW)) [0, 1, 2, 3, 4, 5, 6, 7, 8, 9] (by decide) rfl
  have hFc := va_free (wc := (cwM cI b tW)) hD hS hA [0, 1, 2, 3, 4, 5, 6, 7, 8, 9] rfl
  refine bd hF (fun r2 hG hF => ?_)
  refine va_calli (va_runV (As := [.int p1]) (rest := []) ⟨hx, hb, hml, hown, hts⟩ (c_X3_isCitizen l dC dI cI sf s.heap.size N b tW p1 r2 hG) (cwV 1 hts gX3_says_X3_isCitizen rfl rfl rfl (by decide +kernel) ⟨Nat.le_of_ble_eq_true rfl, Nat.le_of_ble_eq_true rfl⟩) ⟨fun a U g mk q => ⟨q.1, q.2.call⟩, va_recv hK hP (ci := 3) (q0 := 0) rfl rfl, fun U hU hW => ⟨rfl, PB.of hU hW hPc hK hDc hNN hSF hS hFc⟩⟩ rfl rfl hl.1 rfl (lv_room (Nat.le_of_ble_eq_true rfl)) dX3_says_2 ⟨Nat.le_of_ble_eq_true rfl, Nat.le_of_ble_eq_true rfl⟩) hS (fun q _ h => hFc q h) hFc (fun z_ u_ t H locs ht hvm hw hB hz1 hk1 hS => ?_)
  subst z_
  obtain ⟨hP1, hD1⟩ := hB
  rw [ht] at hP1
  have hJ := vb_join (ws' := (cwM cI b tW)) hP hD [0, 1, 2, 3, 4, 5, 6, 7, 8, 9] [] [0, 1, 2, 3, 4, 5, 6, 7, 8, 9] rfl rfl (by decide) (by decide) hk1 hFc hP1 hD1 rfl (by decide) rfl
  clear hP hD hPc hDc hFc hP1 hD1 hk1 hz1 ht hvm hG
  obtain ⟨hP, hD⟩ := hJ
  refine vW_have (fun R av Q => ∀ (tW : MS) (x1 : Int32) (x2 : Int32) (x3 : Int32) (z0 : Int32) (H : Heap) (locs : List Loc) (ls : Array Slot), F_X3_says_50 N tW x1 x2 x3 z0 = some r → va_P (dC, dI) vwCl (cwM cI b tW) H → va_D A (cwM cI b tW) → va_S A s.heap H locs → lv_has ls 6 [(0, .ref (b 0)), (1, .int x1), (2, .int x2), (3, .int x3)] → W p l e R s m av below meth c H locs 0 0 Q (F0 m 50 ls [.int z0])) ?_ (fun kJ50 => ?_)
  · 
    intro tW x1 x2 x3 z0 H locs ls hF hP hD hS hl
    rw [F_X3_says_50] at hF
    refine lv_istore (lv' := [(4, .int z0), (0, .ref (b 0)), (1, .int x1), (2, .int x2), (3, .int x3)]) hx hb dX3_says_50 hl (by decide) rfl (fun ls hl => ?_)
    refine lv_iload hx hb dX3_says_52 (lv_at hl 0 rfl) ?_
    refine lv_if_eq (tgt := 64) hx hb dX3_says_54 (by decide) (fun hc => ?_) (fun hc => ?_)
    · have hF := ift hc hF
      refine lv_aload_n hx hb dX3_says_64 rfl (lv_at hl 1 rfl) ?_
      refine va_get (D := (dC, dI)) (ci := 3) (v := .ref (b 1)) (C := RX3) (T := TX3) (N := 15) hx hb hts inw_X3_says_X3 hown hK hP 0 rfl rfl 0 (by decide) (hts (.fieldLink RX3 9 "DeniedOfEachOtherModel" "s" "[I") (List.mem_of_getElem? (i := 1) rfl)) (fun _ h9 => h9) rfl dX3_says_65 ?_
      refine lv_iload_n hx hb dX3_says_68 rfl (lv_at hl 2 rfl) ?_
      refine lv_iconst (v := nI 4) hx hb dX3_says_69 (by decide) ?_
      refine lv_iload_n hx hb dX3_says_70 rfl (lv_at hl 3 rfl) ?_
      refine lv_iadd hx hb dX3_says_71 ?_
      have hPc := hP.sub (ws' := ([] : va_W)) [] rfl
      have hDc := hD.sub (ws' := ([] : va_W)) [] (by decide) rfl
      have hFc := va_free (wc := ([] : va_W)) hD hS hA [] rfl
      refine bd hF (fun r72 hG hF => ?_)
      refine va_calli (va_runS (As := [.int x1, .int ((nI 4) + x2)]) (rest := [.ref (b 1)]) ⟨hx, hb, hml, hown, hts⟩ (c_X3_of l dC dI cI sf H.size N  x1 ((nI 4) + x2) r72 hG) (va_cwS 2 hts gX3_says_X3_of rfl rfl rfl (by decide +kernel) ⟨Nat.le_of_ble_eq_true rfl, Nat.le_of_ble_eq_true rfl⟩) ⟨fun a U g mk q => ⟨q.1, q.2.call⟩, fun U hU hW => ⟨rfl, PB.of hU hW hPc hK hDc hNN hSF hS hFc⟩⟩ rfl rfl hl.1 rfl (lv_room (Nat.le_of_ble_eq_true rfl)) dX3_says_72 ⟨Nat.le_of_ble_eq_true rfl, Nat.le_of_ble_eq_true rfl⟩) hS (fun q _ h => hFc q h) hFc (fun z_ u_ t H locs ht hvm hw hB hz1 hk1 hS => ?_)
      subst z_
      obtain ⟨hP1, hD1⟩ := hB
      rw [ht] at hP1
      have hJ := vb_join (ws' := (cwM cI b tW)) hP hD [] [0, 1, 2, 3, 4, 5, 6, 7, 8, 9] [0, 1, 2, 3, 4, 5, 6, 7, 8, 9] rfl rfl (by decide) (by decide) hk1 hFc hP1 hD1 rfl (by decide) rfl
      clear hP hD hPc hDc hFc hP1 hD1 hk1 hz1 ht hvm hG
      obtain ⟨hP, hD⟩ := hJ
      refine cki hF (fun hi hF => ?_)
      refine va_iald (D := (dC, dI)) hx hb hK hP 1 0 rfl rfl hi dX3_says_75 ?_
      refine lv_istore (lv' := [(5, .int (tW.1 r72.toNatClampNeg)), (4, .int z0), (0, .ref (b 0)), (1, .int x1), (2, .int x2), (3, .int x3)]) hx hb dX3_says_76 hl (by decide) rfl (fun ls hl => ?_)
      refine lv_aload_n hx hb dX3_says_78 rfl (lv_at hl 2 rfl) ?_
      refine va_get (D := (dC, dI)) (ci := 3) (v := .ref (b 1)) (C := RX3) (T := TX3) (N := 15) hx hb hts inw_X3_says_X3 hown hK hP 0 rfl rfl 0 (by decide) (hts (.fieldLink RX3 9 "DeniedOfEachOtherModel" "s" "[I") (List.mem_of_getElem? (i := 1) rfl)) (fun _ h9 => h9) rfl dX3_says_79 ?_
      refine lv_iload_n hx hb dX3_says_82 rfl (lv_at hl 3 rfl) ?_
      refine lv_iconst (v := nI 4) hx hb dX3_says_83 (by decide) ?_
      refine lv_iload_n hx hb dX3_says_84 rfl (lv_at hl 4 rfl) ?_
      refine lv_iadd hx hb dX3_says_85 ?_
      have hPc := hP.sub (ws' := ([] : va_W)) [] rfl
      have hDc := hD.sub (ws' := ([] : va_W)) [] (by decide) rfl
      have hFc := va_free (wc := ([] : va_W)) hD hS hA [] rfl
      refine bd hF (fun r86 hG hF => ?_)
      refine va_calli (va_runS (As := [.int x1, .int ((nI 4) + x2)]) (rest := [.ref (b 1)]) ⟨hx, hb, hml, hown, hts⟩ (c_X3_of l dC dI cI sf H.size N  x1 ((nI 4) + x2) r86 hG) (va_cwS 2 hts gX3_says_X3_of rfl rfl rfl (by decide +kernel) ⟨Nat.le_of_ble_eq_true rfl, Nat.le_of_ble_eq_true rfl⟩) ⟨fun a U g mk q => ⟨q.1, q.2.call⟩, fun U hU hW => ⟨rfl, PB.of hU hW hPc hK hDc hNN hSF hS hFc⟩⟩ rfl rfl hl.1 rfl (lv_room (Nat.le_of_ble_eq_true rfl)) dX3_says_86 ⟨Nat.le_of_ble_eq_true rfl, Nat.le_of_ble_eq_true rfl⟩) hS (fun q _ h => hFc q h) hFc (fun z_ u_ t H locs ht hvm hw hB hz1 hk1 hS => ?_)
      subst z_
      obtain ⟨hP1, hD1⟩ := hB
      rw [ht] at hP1
      have hJ := vb_join (ws' := (cwM cI b tW)) hP hD [] [0, 1, 2, 3, 4, 5, 6, 7, 8, 9] [0, 1, 2, 3, 4, 5, 6, 7, 8, 9] rfl rfl (by decide) (by decide) hk1 hFc hP1 hD1 rfl (by decide) rfl
      clear hP hD hPc hDc hFc hP1 hD1 hk1 hz1 ht hvm hG
      obtain ⟨hP, hD⟩ := hJ
      refine lv_iload_n hx hb dX3_says_89 rfl (lv_at hl 5 rfl) ?_
      refine cki hF (fun hi hF => ?_)
      refine va_iast (D := (dC, dI)) hx hb hK hP hD hS 1 0 rfl rfl hi dX3_says_90 (fun H locs hP hD hS => ?_)
      have hP : va_P (dC, dI) vwCl (cwM cI b ((upd tW.1 r86.toNatClampNeg x3), tW.2.1, tW.2.2.1, tW.2.2.2.1, tW.2.2.2.2.1, tW.2.2.2.2.2.1, tW.2.2.2.2.2.2.1, tW.2.2.2.2.2.2.2.1, tW.2.2.2.2.2.2.2.2.1, tW.2.2.2.2.2.2.2.2.2.1, tW.2.2.2.2.2.2.2.2.2.2.1, tW.2.2.2.2.2.2.2.2.2.2.2.1, tW.2.2.2.2.2.2.2.2.2.2.2.2.1, tW.2.2.2.2.2.2.2.2.2.2.2.2.2.1, tW.2.2.2.2.2.2.2.2.2.2.2.2.2.2)) H := hP
      have hD : va_D A (cwM cI b ((upd tW.1 r86.toNatClampNeg x3), tW.2.1, tW.2.2.1, tW.2.2.2.1, tW.2.2.2.2.1, tW.2.2.2.2.2.1, tW.2.2.2.2.2.2.1, tW.2.2.2.2.2.2.2.1, tW.2.2.2.2.2.2.2.2.1, tW.2.2.2.2.2.2.2.2.2.1, tW.2.2.2.2.2.2.2.2.2.2.1, tW.2.2.2.2.2.2.2.2.2.2.2.1, tW.2.2.2.2.2.2.2.2.2.2.2.2.1, tW.2.2.2.2.2.2.2.2.2.2.2.2.2.1, tW.2.2.2.2.2.2.2.2.2.2.2.2.2.2)) := hD
      refine lv_iload hx hb dX3_says_91 (lv_at hl 0 rfl) ?_
      obtain rfl := Option.some.inj hF
      exact W.iret (v := (tW.1 r72.toNatClampNeg)) hx hb hr (fun t ht hW => ⟨⟨(tW.1 r72.toNatClampNeg), (), rfl, rfl, QB.of ht hP hD⟩, hS.F ht⟩) hS.2.2 dX3_says_93
    · have hF := iff_ hc hF
      refine lv_aload_n hx hb dX3_says_57 rfl (lv_at hl 1 rfl) ?_
      refine lv_iload hx hb dX3_says_58 (lv_at hl 0 rfl) ?_
      have hPc := hP.sub (ws' := (cwM cI b tW)) [0, 1, 2, 3, 4, 5, 6, 7, 8, 9] rfl
      have hDc := hD.sub (ws' := (cwM cI b tW)) [0, 1, 2, 3, 4, 5, 6, 7, 8, 9] (by decide) rfl
      have hFc := va_free (wc := (cwM cI b tW)) hD hS hA [0, 1, 2, 3, 4, 5, 6, 7, 8, 9] rfl
      refine bd hF (fun r60 hG hF => ?_)
      refine va_calli (va_runV (As := [.int z0]) (rest := []) ⟨hx, hb, hml, hown, hts⟩ (c_X3_no l dC dI cI sf H.size N b tW z0 r60 hG) (cwV 1 hts gX3_says_X3_no rfl rfl rfl (by decide +kernel) ⟨Nat.le_of_ble_eq_true rfl, Nat.le_of_ble_eq_true rfl⟩) ⟨fun a U g mk q => ⟨q.1, q.2.call⟩, va_recv hK hP (ci := 3) (q0 := 0) rfl rfl, fun U hU hW => ⟨rfl, PB.of hU hW hPc hK hDc hNN hSF hS hFc⟩⟩ rfl rfl hl.1 rfl (lv_room (Nat.le_of_ble_eq_true rfl)) dX3_says_60 ⟨Nat.le_of_ble_eq_true rfl, Nat.le_of_ble_eq_true rfl⟩) hS (fun q _ h => hFc q h) hFc (fun z_ u_ t H locs ht hvm hw hB hz1 hk1 hS => ?_)
      subst z_
      obtain ⟨hP1, hD1⟩ := hB
      rw [ht] at hP1
      have hJ := vb_join (ws' := (cwM cI b r60.2)) hP hD [0, 1, 2, 3, 4, 5, 6, 7, 8, 9] [] [0, 1, 2, 3, 4, 5, 6, 7, 8, 9] rfl rfl (by decide) (by decide) hk1 hFc hP1 hD1 rfl (by decide) rfl
      clear hP hD hPc hDc hFc hP1 hD1 hk1 hz1 ht hvm hG
      obtain ⟨hP, hD⟩ := hJ
      obtain rfl := Option.some.inj hF
      exact W.iret (v := r60.1) hx hb hr (fun t ht hW => ⟨⟨r60.1, (), rfl, rfl, QB.of ht hP hD⟩, hS.F ht⟩) hS.2.2 dX3_says_63
  refine lv_if_eq (tgt := 15) hx hb dX3_says_5 (by decide) (fun hc => ?_) (fun hc => ?_)
  · have hF := ift hc hF
    refine lv_iconst (v := (-1)) hx hb dX3_says_15 (by decide) ?_
    refine lv_goto (tgt := 50) hx hb dX3_says_16 (by decide) ?_
    exact kJ50 tW p1 p2 p3 (-1) _ _ _ hF hP hD hS (lv_sub hl [0, 1, 2, 3] rfl)
  · have hF := iff_ hc hF
    refine lv_iload_n hx hb dX3_says_8 rfl (lv_at hl 2 rfl) ?_
    have hPc := hP.sub (ws' := ([] : va_W)) [] rfl
    have hDc := hD.sub (ws' := ([] : va_W)) [] (by decide) rfl
    have hFc := va_free (wc := ([] : va_W)) hD hS hA [] rfl
    refine bd hF (fun r9 hG hF => ?_)
    refine va_calli (va_runS (As := [.int p2]) (rest := []) ⟨hx, hb, hml, hown, hts⟩ (c_X3_isTopic l dC dI cI sf H.size N  p2 r9 hG) (va_cwS 1 hts gX3_says_X3_isTopic rfl rfl rfl (by decide +kernel) ⟨Nat.le_of_ble_eq_true rfl, Nat.le_of_ble_eq_true rfl⟩) ⟨fun a U g mk q => ⟨q.1, q.2.call⟩, fun U hU hW => ⟨rfl, PB.of hU hW hPc hK hDc hNN hSF hS hFc⟩⟩ rfl rfl hl.1 rfl (lv_room (Nat.le_of_ble_eq_true rfl)) dX3_says_9 ⟨Nat.le_of_ble_eq_true rfl, Nat.le_of_ble_eq_true rfl⟩) hS (fun q _ h => hFc q h) hFc (fun z_ u_ t H locs ht hvm hw hB hz1 hk1 hS => ?_)
    subst z_
    obtain ⟨hP1, hD1⟩ := hB
    rw [ht] at hP1
    have hJ := vb_join (ws' := (cwM cI b tW)) hP hD [] [0, 1, 2, 3, 4, 5, 6, 7, 8, 9] [0, 1, 2, 3, 4, 5, 6, 7, 8, 9] rfl rfl (by decide) (by decide) hk1 hFc hP1 hD1 rfl (by decide) rfl
    clear hP hD hPc hDc hFc hP1 hD1 hk1 hz1 ht hvm hG
    obtain ⟨hP, hD⟩ := hJ
    refine lv_if_ne (tgt := 19) hx hb dX3_says_12 (by decide) (fun hc => ?_) (fun hc => ?_)
    · have hF := ift hc hF
      refine lv_iload_n hx hb dX3_says_19 rfl (lv_at hl 3 rfl) ?_
      refine lv_iconst (v := nI 0) hx hb dX3_says_20 (by decide) ?_
      refine lv_iconst (v := nI 2) hx hb dX3_says_21 (by decide) ?_
      have hPc := hP.sub (ws' := ([] : va_W)) [] rfl
      have hDc := hD.sub (ws' := ([] : va_W)) [] (by decide) rfl
      have hFc := va_free (wc := ([] : va_W)) hD hS hA [] rfl
      refine bd hF (fun r22 hG hF => ?_)
      refine va_calli (va_runS (As := [.int p3, .int (nI 0), .int (nI 2)]) (rest := []) ⟨hx, hb, hml, hown, hts⟩ (c_X3_isIn l dC dI cI sf H.size N  p3 (nI 0) (nI 2) r22 hG) (va_cwS 3 hts gX3_says_X3_isIn rfl rfl rfl (by decide +kernel) ⟨Nat.le_of_ble_eq_true rfl, Nat.le_of_ble_eq_true rfl⟩) ⟨fun a U g mk q => ⟨q.1, q.2.call⟩, fun U hU hW => ⟨rfl, PB.of hU hW hPc hK hDc hNN hSF hS hFc⟩⟩ rfl rfl hl.1 rfl (lv_room (Nat.le_of_ble_eq_true rfl)) dX3_says_22 ⟨Nat.le_of_ble_eq_true rfl, Nat.le_of_ble_eq_true rfl⟩) hS (fun q _ h => hFc q h) hFc (fun z_ u_ t H locs ht hvm hw hB hz1 hk1 hS => ?_)
      subst z_
      obtain ⟨hP1, hD1⟩ := hB
      rw [ht] at hP1
      have hJ := vb_join (ws' := (cwM cI b tW)) hP hD [] [0, 1, 2, 3, 4, 5, 6, 7, 8, 9] [0, 1, 2, 3, 4, 5, 6, 7, 8, 9] rfl rfl (by decide) (by decide) hk1 hFc hP1 hD1 rfl (by decide) rfl
      clear hP hD hPc hDc hFc hP1 hD1 hk1 hz1 ht hvm hG
      obtain ⟨hP, hD⟩ := hJ
      refine lv_if_ne (tgt := 33) hx hb dX3_says_25 (by decide) (fun hc => ?_) (fun hc => ?_)
      · have hF := ift hc hF
        refine lv_aload_n hx hb dX3_says_33 rfl (lv_at hl 0 rfl) ?_
        refine va_get (D := (dC, dI)) (ci := 3) (v := .ref (b 1)) (C := RX3) (T := TX3) (N := 15) hx hb hts inw_X3_says_X3 hown hK hP 0 rfl rfl 0 (by decide) (hts (.fieldLink RX3 9 "DeniedOfEachOtherModel" "s" "[I") (List.mem_of_getElem? (i := 1) rfl)) (fun _ h9 => h9) rfl dX3_says_34 ?_
        refine lv_iload_n hx hb dX3_says_37 rfl (lv_at hl 1 rfl) ?_
        have hPc := hP.sub (ws' := (cwA cI (b 1) tW.1)) [1] rfl
        have hDc := hD.sub (ws' := (cwA cI (b 1) tW.1)) [1] (by decide) rfl
        have hFc := va_free (wc := (cwA cI (b 1) tW.1)) hD hS hA [1] rfl
        refine bd hF (fun r38 hG hF => ?_)
        refine va_calli (va_runS (As := [.ref (b 1), .int p1]) (rest := []) ⟨hx, hb, hml, hown, hts⟩ (c_X3_isAlive l dC dI cI sf H.size N (b 1) tW.1 p1 r38 hG) (va_cwS 2 hts gX3_says_X3_isAlive rfl rfl rfl (by decide +kernel) ⟨Nat.le_of_ble_eq_true rfl, Nat.le_of_ble_eq_true rfl⟩) ⟨fun a U g mk q => ⟨q.1, q.2.call⟩, fun U hU hW => ⟨rfl, PB.of hU hW hPc hK hDc hNN hSF hS hFc⟩⟩ rfl rfl hl.1 rfl (lv_room (Nat.le_of_ble_eq_true rfl)) dX3_says_38 ⟨Nat.le_of_ble_eq_true rfl, Nat.le_of_ble_eq_true rfl⟩) hS (fun q _ h => hFc q h) hFc (fun z_ u_ t H locs ht hvm hw hB hz1 hk1 hS => ?_)
        subst z_
        obtain ⟨hP1, hD1⟩ := hB
        rw [ht] at hP1
        have hJ := vb_join (ws' := (cwM cI b tW)) hP hD [1] [0, 2, 3, 4, 5, 6, 7, 8, 9] [0, 9, 1, 2, 3, 4, 5, 6, 7, 8] rfl rfl (by decide) (by decide) hk1 hFc hP1 hD1 rfl (by decide) rfl
        clear hP hD hPc hDc hFc hP1 hD1 hk1 hz1 ht hvm hG
        obtain ⟨hP, hD⟩ := hJ
        refine lv_if_eq (tgt := 48) hx hb dX3_says_41 (by decide) (fun hc => ?_) (fun hc => ?_)
        · have hF := ift hc hF
          refine lv_bipush (v := (-3)) hx hb dX3_says_48 (by decide) ?_
          exact kJ50 tW p1 p2 p3 (-3) _ _ _ hF hP hD hS (lv_sub hl [0, 1, 2, 3] rfl)
        · have hF := iff_ hc hF
          refine lv_iconst (v := nI 0) hx hb dX3_says_44 (by decide) ?_
          refine lv_goto (tgt := 50) hx hb dX3_says_45 (by decide) ?_
          exact kJ50 tW p1 p2 p3 (nI 0) _ _ _ hF hP hD hS (lv_sub hl [0, 1, 2, 3] rfl)
      · have hF := iff_ (fun h => h hc) hF
        refine lv_bipush (v := (-2)) hx hb dX3_says_28 (by decide) ?_
        refine lv_goto (tgt := 50) hx hb dX3_says_30 (by decide) ?_
        exact kJ50 tW p1 p2 p3 (-2) _ _ _ hF hP hD hS (lv_sub hl [0, 1, 2, 3] rfl)
    · have hF := iff_ (fun h => h hc) hF
      refine lv_iconst (v := (-1)) hx hb dX3_says_15 (by decide) ?_
      refine lv_goto (tgt := 50) hx hb dX3_says_16 (by decide) ?_
      exact kJ50 tW p1 p2 p3 (-1) _ _ _ hF hP hD hS (lv_sub hl [0, 1, 2, 3] rfl)
theorem inw_X3_silent_X3 : ∀ w ∈ u_ws RX3 TX3 15, w ∈ wsX3_silent := fun _ h => List.mem_cons_of_mem _ (List.mem_append_right _ h)
set_option maxHeartbeats 4000000 in
set_option maxRecDepth 100000 in
theorem c_X3_silent (l : Launch) (dC : Nat → ClassId) (dI : Nat → Nat → Nat) (cI : ClassId) (sf : SFP) (sz : Nat) (N : Nat) (b : Nat → Nat) (tW : MS) (p1 : Int32) (r : (Int32 × MS)) (hF : F_X3_silent N tW p1 = some r) : Met l yX3_silent wsX3_silent ({ frames := 4, cells := 0, slots := 0, locals := 87 }) (va_Pc [.ref (b 0), .int p1] (PB (dC, dI) cI (cwM cI b tW) sz sf)) (va_Qi (fun (z : Int32) (_ : Unit) => z = r.1) (fun _ t => QB (dC, dI) (cwM cI b r.2) (va_A (cwM cI b tW) sz) t) (va_A (cwM cI b tW) sz)) 0 0 (va_A (cwM cI b tW) sz) := by
  refine Met.ofW (cc := cX3_silent) (maxL := 5) (ret := (some .int)) (by decide) rfl ?_
  intro p e s m args below meth c s₁ B hml hv
  obtain ⟨rfl, hsz, hP, hK, hD0, hNN, hSF⟩ := hv
  have hx := B.exec
  have hb := B.bytes
  have hr := B.returns
  have hts := atoms_spec (ws := wsX3_silent) B.pre
  have hown : s.vm.findClass RX3 = some m.cls := findClass_of_methodNamed B.named
  have hlocks := B.notSynchronized
  subst hsz
  have hD := hD0.self (sz := s.heap.size)
  generalize hAe : va_A (cwM cI b tW) s.heap.size = A at hD hSF ⊢
  have hA : ∀ q : Nat, s.heap.size ≤ q → A q := fun q h => by rw [← hAe]; exact Or.inr h
  clear hAe hD0
  have hS : va_S A s.heap s.heap [] := va_S.rf
  have hl := lv_entry ([.ref (b 0), .int p1]) (n := 5) (Nat.le_of_ble_eq_true rfl)
  rw [lg_entry_eq]
  generalize (lg_sl ([.ref (b 0), .int p1]) ++ List.replicate (5 - (lg_sl ([.ref (b 0), .int p1])).length) Slot.unset).toArray = ls at hl ⊢
  have hl : lv_has ls 5 [(0, .ref (b 0)), (1, .int p1)] := hl
  rw [F_X3_silent] at hF
  refine lv_iload_n hx hb dX3_silent_0 rfl (lv_at hl 1 rfl) ?_
  refine lv_iconst (v := nI 0) hx hb dX3_silent_1 (by decide) ?_
  refine lv_iconst (v := nI 1) hx hb dX3_silent_2 (by decide) ?_
  have hPc := hP.sub (ws' := ([] : va_W)) [] rfl
  have hDc := hD.sub (ws' := ([] : va_W)) [] (by decide) rfl
  have hFc := va_free (wc := ([] : va_W)) hD hS hA [] rfl
  refine bd hF (fun r3 hG hF => ?_)
  refine va_calli (va_runS (As := [.int p1, .int (nI 0), .int (nI 1)]) (rest := []) ⟨hx, hb, hml, hown, hts⟩ (c_X3_isIn l dC dI cI sf s.heap.size N  p1 (nI 0) (nI 1) r3 hG) (va_cwS 3 hts gX3_silent_X3_isIn rfl rfl rfl (by decide +kernel) ⟨Nat.le_of_ble_eq_true rfl, Nat.le_of_ble_eq_true rfl⟩) ⟨fun a U g mk q => ⟨q.1, q.2.call⟩, fun U hU hW => ⟨rfl, PB.of hU hW hPc hK hDc hNN hSF hS hFc⟩⟩ rfl rfl hl.1 rfl (lv_room (Nat.le_of_ble_eq_true rfl)) dX3_silent_3 ⟨Nat.le_of_ble_eq_true rfl, Nat.le_of_ble_eq_true rfl⟩) hS (fun q _ h => hFc q h) hFc (fun z_ u_ t H locs ht hvm hw hB hz1 hk1 hS => ?_)
  subst z_
  obtain ⟨hP1, hD1⟩ := hB
  rw [ht] at hP1
  have hJ := vb_join (ws' := (cwM cI b tW)) hP hD [] [0, 1, 2, 3, 4, 5, 6, 7, 8, 9] [0, 1, 2, 3, 4, 5, 6, 7, 8, 9] rfl rfl (by decide) (by decide) hk1 hFc hP1 hD1 rfl (by decide) rfl
  clear hP hD hPc hDc hFc hP1 hD1 hk1 hz1 ht hvm hG
  obtain ⟨hP, hD⟩ := hJ
  refine lv_if_ne (tgt := 16) hx hb dX3_silent_6 (by decide) (fun hc => ?_) (fun hc => ?_)
  · have hF := ift hc hF
    refine lv_iconst (v := nI 0) hx hb dX3_silent_16 (by decide) ?_
    refine lv_istore_n (lv' := [(2, .int (nI 0)), (0, .ref (b 0)), (1, .int p1)]) hx hb dX3_silent_17 rfl hl (by decide) rfl (fun ls hl => ?_)
    refine lv_iconst (v := nI 0) hx hb dX3_silent_18 (by decide) ?_
    refine vW_have (fun R av Q => ∀ (n20 : Nat) (tW : MS) (x1 : Int32) (x2 : Int32) (x3 : Int32) (H : Heap) (locs : List Loc) (ls : Array Slot), F_X3_silent_20 N n20 tW x1 x2 x3 = some r → va_P (dC, dI) vwCl (cwM cI b tW) H → va_D A (cwM cI b tW) → va_S A s.heap H locs → lv_has ls 5 [(0, .ref (b 0)), (1, .int x1), (2, .int x2), (3, .int x3)] → W p l e R s m av below meth c H locs 0 0 Q (F0 m 20 ls [])) ?_ (fun kJ20 => ?_)
    · intro n20
      induction n20 with
      | zero => intro tW x1 x2 x3 H locs ls hF; exact nn hF
      | succ n20 ih20 =>
        intro tW x1 x2 x3 H locs ls hF hP hD hS hl
        rw [F_X3_silent_20] at hF
        refine lv_iload_n hx hb dX3_silent_20 rfl (lv_at hl 3 rfl) ?_
        refine lv_bipush (v := nI 8) hx hb dX3_silent_21 (by decide) ?_
        refine lv_icmp_ge (tgt := 99) hx hb dX3_silent_23 (by decide) (fun hc => ?_) (fun hc => ?_)
        · have hF := ift hc hF
          refine lv_iload_n hx hb dX3_silent_99 rfl (lv_at hl 2 rfl) ?_
          obtain rfl := Option.some.inj hF
          exact W.iret (v := x2) hx hb hr (fun t ht hW => ⟨⟨x2, (), rfl, rfl, QB.of ht hP hD⟩, hS.F ht⟩) hS.2.2 dX3_silent_100
        · have hF := iff_ hc hF
          refine lv_aload_n hx hb dX3_silent_26 rfl (lv_at hl 0 rfl) ?_
          refine va_get (D := (dC, dI)) (ci := 3) (v := .ref (b 1)) (C := RX3) (T := TX3) (N := 15) hx hb hts inw_X3_silent_X3 hown hK hP 0 rfl rfl 0 (by decide) (hts (.fieldLink RX3 9 "DeniedOfEachOtherModel" "s" "[I") (List.mem_of_getElem? (i := 1) rfl)) (fun _ h9 => h9) rfl dX3_silent_27 ?_
          refine lv_iload_n hx hb dX3_silent_30 rfl (lv_at hl 3 rfl) ?_
          refine lv_iconst (v := nI 1) hx hb dX3_silent_31 (by decide) ?_
          have hPc := hP.sub (ws' := (cwA cI (b 1) tW.1)) [1] rfl
          have hDc := hD.sub (ws' := (cwA cI (b 1) tW.1)) [1] (by decide) rfl
          have hFc := va_free (wc := (cwA cI (b 1) tW.1)) hD hS hA [1] rfl
          refine bd hF (fun r32 hG hF => ?_)
          refine va_calli (va_runS (As := [.ref (b 1), .int x3, .int (nI 1)]) (rest := []) ⟨hx, hb, hml, hown, hts⟩ (c_X3_saying l dC dI cI sf H.size N (b 1) tW.1 x3 (nI 1) r32 hG) (va_cwS 3 hts gX3_silent_X3_saying rfl rfl rfl (by decide +kernel) ⟨Nat.le_of_ble_eq_true rfl, Nat.le_of_ble_eq_true rfl⟩) ⟨fun a U g mk q => ⟨q.1, q.2.call⟩, fun U hU hW => ⟨rfl, PB.of hU hW hPc hK hDc hNN hSF hS hFc⟩⟩ rfl rfl hl.1 rfl (lv_room (Nat.le_of_ble_eq_true rfl)) dX3_silent_32 ⟨Nat.le_of_ble_eq_true rfl, Nat.le_of_ble_eq_true rfl⟩) hS (fun q _ h => hFc q h) hFc (fun z_ u_ t H locs ht hvm hw hB hz1 hk1 hS => ?_)
          subst z_
          obtain ⟨hP1, hD1⟩ := hB
          rw [ht] at hP1
          have hJ := vb_join (ws' := (cwM cI b tW)) hP hD [1] [0, 2, 3, 4, 5, 6, 7, 8, 9] [0, 9, 1, 2, 3, 4, 5, 6, 7, 8] rfl rfl (by decide) (by decide) hk1 hFc hP1 hD1 rfl (by decide) rfl
          clear hP hD hPc hDc hFc hP1 hD1 hk1 hz1 ht hvm hG
          obtain ⟨hP, hD⟩ := hJ
          refine lv_aload_n hx hb dX3_silent_35 rfl (lv_at hl 0 rfl) ?_
          refine va_get (D := (dC, dI)) (ci := 3) (v := .ref (b 1)) (C := RX3) (T := TX3) (N := 15) hx hb hts inw_X3_silent_X3 hown hK hP 0 rfl rfl 0 (by decide) (hts (.fieldLink RX3 9 "DeniedOfEachOtherModel" "s" "[I") (List.mem_of_getElem? (i := 1) rfl)) (fun _ h9 => h9) rfl dX3_silent_36 ?_
          refine lv_iload_n hx hb dX3_silent_39 rfl (lv_at hl 3 rfl) ?_
          refine lv_iconst (v := nI 2) hx hb dX3_silent_40 (by decide) ?_
          have hPc := hP.sub (ws' := (cwA cI (b 1) tW.1)) [1] rfl
          have hDc := hD.sub (ws' := (cwA cI (b 1) tW.1)) [1] (by decide) rfl
          have hFc := va_free (wc := (cwA cI (b 1) tW.1)) hD hS hA [1] rfl
          refine bd hF (fun r41 hG hF => ?_)
          refine va_calli (va_runS (As := [.ref (b 1), .int x3, .int (nI 2)]) (rest := [.int r32]) ⟨hx, hb, hml, hown, hts⟩ (c_X3_saying l dC dI cI sf H.size N (b 1) tW.1 x3 (nI 2) r41 hG) (va_cwS 3 hts gX3_silent_X3_saying rfl rfl rfl (by decide +kernel) ⟨Nat.le_of_ble_eq_true rfl, Nat.le_of_ble_eq_true rfl⟩) ⟨fun a U g mk q => ⟨q.1, q.2.call⟩, fun U hU hW => ⟨rfl, PB.of hU hW hPc hK hDc hNN hSF hS hFc⟩⟩ rfl rfl hl.1 rfl (lv_room (Nat.le_of_ble_eq_true rfl)) dX3_silent_41 ⟨Nat.le_of_ble_eq_true rfl, Nat.le_of_ble_eq_true rfl⟩) hS (fun q _ h => hFc q h) hFc (fun z_ u_ t H locs ht hvm hw hB hz1 hk1 hS => ?_)
          subst z_
          obtain ⟨hP1, hD1⟩ := hB
          rw [ht] at hP1
          have hJ := vb_join (ws' := (cwM cI b tW)) hP hD [1] [0, 2, 3, 4, 5, 6, 7, 8, 9] [0, 9, 1, 2, 3, 4, 5, 6, 7, 8] rfl rfl (by decide) (by decide) hk1 hFc hP1 hD1 rfl (by decide) rfl
          clear hP hD hPc hDc hFc hP1 hD1 hk1 hz1 ht hvm hG
          obtain ⟨hP, hD⟩ := hJ
          refine lv_iadd hx hb dX3_silent_44 ?_
          refine vW_have (fun R av Q => ∀ (tW : MS) (x1 : Int32) (x2 : Int32) (x3 : Int32) (z0 : Int32) (H : Heap) (locs : List Loc) (ls : Array Slot), F_X3_silent_53 N (fun ctW cx1 cx2 cx3 => F_X3_silent_20 N n20 ctW cx1 cx2 cx3) tW x1 x2 x3 z0 = some r → va_P (dC, dI) vwCl (cwM cI b tW) H → va_D A (cwM cI b tW) → va_S A s.heap H locs → lv_has ls 5 [(0, .ref (b 0)), (1, .int x1), (2, .int x2), (3, .int x3)] → W p l e R s m av below meth c H locs 0 0 Q (F0 m 53 ls [.int z0])) ?_ (fun kJ53 => ?_)
          · 
            intro tW x1 x2 x3 z0 H locs ls hF hP hD hS hl
            rw [F_X3_silent_53] at hF
            refine lv_istore (lv' := [(4, .int z0), (0, .ref (b 0)), (1, .int x1), (2, .int x2), (3, .int x3)]) hx hb dX3_silent_53 hl (by decide) rfl (fun ls hl => ?_)
            refine lv_iload_n hx hb dX3_silent_55 rfl (lv_at hl 3 rfl) ?_
            refine lv_iload_n hx hb dX3_silent_56 rfl (lv_at hl 2 rfl) ?_
            refine vW_have (fun R av Q => ∀ (tW : MS) (x1 : Int32) (x3 : Int32) (z0 : Int32) (z1 : Int32) (H : Heap) (locs : List Loc) (ls : Array Slot), F_X3_silent_91 N (fun ctW cx1 cx2 cx3 => F_X3_silent_20 N n20 ctW cx1 cx2 cx3) tW x1 x3 z0 z1 = some r → va_P (dC, dI) vwCl (cwM cI b tW) H → va_D A (cwM cI b tW) → va_S A s.heap H locs → lv_has ls 5 [(0, .ref (b 0)), (1, .int x1), (3, .int x3)] → W p l e R s m av below meth c H locs 0 0 Q (F0 m 91 ls [.int z1, .int z0])) ?_ (fun kJ91 => ?_)
            · 
              intro tW x1 x3 z0 z1 H locs ls hF hP hD hS hl
              rw [F_X3_silent_91] at hF
              refine lv_ior hx hb dX3_silent_91 ?_
              refine lv_istore_n (lv' := [(2, .int (z0 ||| z1)), (0, .ref (b 0)), (1, .int x1), (3, .int x3)]) hx hb dX3_silent_92 rfl hl (by decide) rfl (fun ls hl => ?_)
              refine lv_iinc (v := x3 + (nI 1)) (lv' := [(3, .int (x3 + (nI 1))), (2, .int (z0 ||| z1)), (0, .ref (b 0)), (1, .int x1)]) hx hb dX3_silent_93 hl (k := 3) rfl (by rfl) (by decide) rfl (fun ls hl => ?_)
              refine lv_goto (tgt := 20) hx hb dX3_silent_96 (by decide) ?_
              exact ih20 tW x1 (z0 ||| z1) (x3 + (nI 1)) _ _ _ hF hP hD hS (lv_sub hl [2, 3, 1, 0] rfl)
            refine vW_have (fun R av Q => ∀ (tW : MS) (x1 : Int32) (x3 : Int32) (z0 : Int32) (H : Heap) (locs : List Loc) (ls : Array Slot), F_X3_silent_84 N (fun ctW cx1 cx2 cx3 => F_X3_silent_20 N n20 ctW cx1 cx2 cx3) tW x1 x3 z0 = some r → va_P (dC, dI) vwCl (cwM cI b tW) H → va_D A (cwM cI b tW) → va_S A s.heap H locs → lv_has ls 5 [(0, .ref (b 0)), (1, .int x1), (3, .int x3)] → W p l e R s m av below meth c H locs 0 0 Q (F0 m 84 ls [.int z0])) ?_ (fun kJ84 => ?_)
            · 
              intro tW x1 x3 z0 H locs ls hF hP hD hS hl
              rw [F_X3_silent_84] at hF
              refine lv_iconst (v := nI 1) hx hb dX3_silent_84 (by decide) ?_
              refine lv_iload_n hx hb dX3_silent_85 rfl (lv_at hl 2 rfl) ?_
              refine lv_ishl hx hb dX3_silent_86 ?_
              refine lv_goto (tgt := 91) hx hb dX3_silent_87 (by decide) ?_
              exact kJ91 tW x1 x3 z0 ((nI 1) <<< (x3 &&& 31)) _ _ _ hF hP hD hS (lv_sub hl [0, 1, 2] rfl)
            refine lv_if_ne (tgt := 68) hx hb dX3_silent_57 (by decide) (fun hc => ?_) (fun hc => ?_)
            · have hF := ift hc hF
              refine lv_iload hx hb dX3_silent_68 (lv_at hl 0 rfl) ?_
              refine lv_if_eq (tgt := 90) hx hb dX3_silent_70 (by decide) (fun hc => ?_) (fun hc => ?_)
              · have hF := ift hc hF
                refine lv_iconst (v := nI 0) hx hb dX3_silent_90 (by decide) ?_
                exact kJ91 tW x1 x3 x2 (nI 0) _ _ _ hF hP hD hS (lv_sub hl [1, 2, 4] rfl)
              · have hF := iff_ hc hF
                refine lv_aload_n hx hb dX3_silent_73 rfl (lv_at hl 1 rfl) ?_
                refine va_get (D := (dC, dI)) (ci := 3) (v := .ref (b 1)) (C := RX3) (T := TX3) (N := 15) hx hb hts inw_X3_silent_X3 hown hK hP 0 rfl rfl 0 (by decide) (hts (.fieldLink RX3 9 "DeniedOfEachOtherModel" "s" "[I") (List.mem_of_getElem? (i := 1) rfl)) (fun _ h9 => h9) rfl dX3_silent_74 ?_
                refine lv_iload_n hx hb dX3_silent_77 rfl (lv_at hl 4 rfl) ?_
                have hPc := hP.sub (ws' := (cwA cI (b 1) tW.1)) [1] rfl
                have hDc := hD.sub (ws' := (cwA cI (b 1) tW.1)) [1] (by decide) rfl
                have hFc := va_free (wc := (cwA cI (b 1) tW.1)) hD hS hA [1] rfl
                refine bd hF (fun r78 hG hF => ?_)
                refine va_calli (va_runS (As := [.ref (b 1), .int x3]) (rest := [.int x2]) ⟨hx, hb, hml, hown, hts⟩ (c_X3_isWritten l dC dI cI sf H.size N (b 1) tW.1 x3 r78 hG) (va_cwS 2 hts gX3_silent_X3_isWritten rfl rfl rfl (by decide +kernel) ⟨Nat.le_of_ble_eq_true rfl, Nat.le_of_ble_eq_true rfl⟩) ⟨fun a U g mk q => ⟨q.1, q.2.call⟩, fun U hU hW => ⟨rfl, PB.of hU hW hPc hK hDc hNN hSF hS hFc⟩⟩ rfl rfl hl.1 rfl (lv_room (Nat.le_of_ble_eq_true rfl)) dX3_silent_78 ⟨Nat.le_of_ble_eq_true rfl, Nat.le_of_ble_eq_true rfl⟩) hS (fun q _ h => hFc q h) hFc (fun z_ u_ t H locs ht hvm hw hB hz1 hk1 hS => ?_)
                subst z_
                obtain ⟨hP1, hD1⟩ := hB
                rw [ht] at hP1
                have hJ := vb_join (ws' := (cwM cI b tW)) hP hD [1] [0, 2, 3, 4, 5, 6, 7, 8, 9] [0, 9, 1, 2, 3, 4, 5, 6, 7, 8] rfl rfl (by decide) (by decide) hk1 hFc hP1 hD1 rfl (by decide) rfl
                clear hP hD hPc hDc hFc hP1 hD1 hk1 hz1 ht hvm hG
                obtain ⟨hP, hD⟩ := hJ
                refine lv_if_ne (tgt := 90) hx hb dX3_silent_81 (by decide) (fun hc => ?_) (fun hc => ?_)
                · have hF := ift hc hF
                  refine lv_iconst (v := nI 0) hx hb dX3_silent_90 (by decide) ?_
                  exact kJ91 tW x1 x3 x2 (nI 0) _ _ _ hF hP hD hS (lv_sub hl [1, 2, 4] rfl)
                · have hF := iff_ (fun h => h hc) hF
                  exact kJ84 tW x1 x3 x2 _ _ _ hF hP hD hS (lv_sub hl [1, 2, 4] rfl)
            · have hF := iff_ (fun h => h hc) hF
              refine lv_iload hx hb dX3_silent_60 (lv_at hl 0 rfl) ?_
              refine lv_if_ne (tgt := 90) hx hb dX3_silent_62 (by decide) (fun hc => ?_) (fun hc => ?_)
              · have hF := ift hc hF
                refine lv_iconst (v := nI 0) hx hb dX3_silent_90 (by decide) ?_
                exact kJ91 tW x1 x3 x2 (nI 0) _ _ _ hF hP hD hS (lv_sub hl [1, 2, 4] rfl)
              · have hF := iff_ (fun h => h hc) hF
                refine lv_goto (tgt := 84) hx hb dX3_silent_65 (by decide) ?_
                exact kJ84 tW x1 x3 x2 _ _ _ hF hP hD hS (lv_sub hl [1, 2, 4] rfl)
          refine lv_if_le (tgt := 52) hx hb dX3_silent_45 (by decide) (fun hc => ?_) (fun hc => ?_)
          · have hF := ift hc hF
            refine lv_iconst (v := nI 0) hx hb dX3_silent_52 (by decide) ?_
            exact kJ53 tW x1 x2 x3 (nI 0) _ _ _ hF hP hD hS (lv_sub hl [0, 1, 2, 3] rfl)
          · have hF := iff_ hc hF
            refine lv_iconst (v := nI 1) hx hb dX3_silent_48 (by decide) ?_
            refine lv_goto (tgt := 53) hx hb dX3_silent_49 (by decide) ?_
            exact kJ53 tW x1 x2 x3 (nI 1) _ _ _ hF hP hD hS (lv_sub hl [0, 1, 2, 3] rfl)
    refine lv_istore_n (lv' := [(3, .int (nI 0)), (2, .int (nI 0)), (0, .ref (b 0)), (1, .int p1)]) hx hb dX3_silent_19 rfl hl (by decide) rfl (fun ls hl => ?_)
    exact kJ20 N tW p1 (nI 0) (nI 0) _ _ _ hF hP hD hS (lv_sub hl [2, 3, 1, 0] rfl)
  · have hF := iff_ (fun h => h hc) hF
    refine lv_aload_n hx hb dX3_silent_9 rfl (lv_at hl 0 rfl) ?_
    refine lv_bipush (v := (-2)) hx hb dX3_silent_10 (by decide) ?_
    have hPc := hP.sub (ws' := (cwM cI b tW)) [0, 1, 2, 3, 4, 5, 6, 7, 8, 9] rfl
    have hDc := hD.sub (ws' := (cwM cI b tW)) [0, 1, 2, 3, 4, 5, 6, 7, 8, 9] (by decide) rfl
    have hFc := va_free (wc := (cwM cI b tW)) hD hS hA [0, 1, 2, 3, 4, 5, 6, 7, 8, 9] rfl
    refine bd hF (fun r12 hG hF => ?_)
    refine va_calli (va_runV (As := [.int (-2)]) (rest := []) ⟨hx, hb, hml, hown, hts⟩ (c_X3_no l dC dI cI sf H.size N b tW (-2) r12 hG) (cwV 1 hts gX3_silent_X3_no rfl rfl rfl (by decide +kernel) ⟨Nat.le_of_ble_eq_true rfl, Nat.le_of_ble_eq_true rfl⟩) ⟨fun a U g mk q => ⟨q.1, q.2.call⟩, va_recv hK hP (ci := 3) (q0 := 0) rfl rfl, fun U hU hW => ⟨rfl, PB.of hU hW hPc hK hDc hNN hSF hS hFc⟩⟩ rfl rfl hl.1 rfl (lv_room (Nat.le_of_ble_eq_true rfl)) dX3_silent_12 ⟨Nat.le_of_ble_eq_true rfl, Nat.le_of_ble_eq_true rfl⟩) hS (fun q _ h => hFc q h) hFc (fun z_ u_ t H locs ht hvm hw hB hz1 hk1 hS => ?_)
    subst z_
    obtain ⟨hP1, hD1⟩ := hB
    rw [ht] at hP1
    have hJ := vb_join (ws' := (cwM cI b r12.2)) hP hD [0, 1, 2, 3, 4, 5, 6, 7, 8, 9] [] [0, 1, 2, 3, 4, 5, 6, 7, 8, 9] rfl rfl (by decide) (by decide) hk1 hFc hP1 hD1 rfl (by decide) rfl
    clear hP hD hPc hDc hFc hP1 hD1 hk1 hz1 ht hvm hG
    obtain ⟨hP, hD⟩ := hJ
    obtain rfl := Option.some.inj hF
    exact W.iret (v := r12.1) hx hb hr (fun t ht hW => ⟨⟨r12.1, (), rfl, rfl, QB.of ht hP hD⟩, hS.F ht⟩) hS.2.2 dX3_silent_15
theorem inw_X3_so_X3 : ∀ w ∈ u_ws RX3 TX3 15, w ∈ wsX3_so := fun _ h => List.mem_cons_of_mem _ (List.mem_append_right _ h)
set_option maxHeartbeats 4000000 in
set_option maxRecDepth 100000 in
theorem c_X3_so (l : Launch) (dC : Nat → ClassId) (dI : Nat → Nat → Nat) (cI : ClassId) (sf : SFP) (sz : Nat) (N : Nat) (b : Nat → Nat) (tW : MS) (p1 : Int32) (r : (Int32 × MS)) (hF : F_X3_so N tW p1 = some r) : Met l yX3_so wsX3_so ({ frames := 4, cells := 0, slots := 0, locals := 88 }) (va_Pc [.ref (b 0), .int p1] (PB (dC, dI) cI (cwM cI b tW) sz sf)) (va_Qi (fun (z : Int32) (_ : Unit) => z = r.1) (fun _ t => QB (dC, dI) (cwM cI b r.2) (va_A (cwM cI b tW) sz) t) (va_A (cwM cI b tW) sz)) 0 0 (va_A (cwM cI b tW) sz) := by
  refine Met.ofW (cc := cX3_so) (maxL := 4) (ret := (some .int)) (by decide) rfl ?_
  intro p e s m args below meth c s₁ B hml hv
  obtain ⟨rfl, hsz, hP, hK, hD0, hNN, hSF⟩ := hv
  have hx := B.exec
  have hb := B.bytes
  have hr := B.returns
  have hts := atoms_spec (ws := wsX3_so) B.pre
  have hown : s.vm.findClass RX3 = some m.cls := findClass_of_methodNamed B.named
  have hlocks := B.notSynchronized
  subst hsz
  have hD := hD0.self (sz := s.heap.size)
  generalize hAe : va_A (cwM cI b tW) s.heap.size = A at hD hSF ⊢
  have hA : ∀ q : Nat, s.heap.size ≤ q → A q := fun q h => by rw [← hAe]; exact Or.inr h
  clear hAe hD0
  have hS : va_S A s.heap s.heap [] := va_S.rf
  have hl := lv_entry ([.ref (b 0), .int p1]) (n := 4) (Nat.le_of_ble_eq_true rfl)
  rw [lg_entry_eq]
  generalize (lg_sl ([.ref (b 0), .int p1]) ++ List.replicate (4 - (lg_sl ([.ref (b 0), .int p1])).length) Slot.unset).toArray = ls at hl ⊢
  have hl : lv_has ls 4 [(0, .ref (b 0)), (1, .int p1)] := hl
  rw [F_X3_so] at hF
  refine lv_iload_n hx hb dX3_so_0 rfl (lv_at hl 1 rfl) ?_
  refine lv_iconst (v := (-1)) hx hb dX3_so_1 (by decide) ?_
  refine vW_have (fun R av Q => ∀ (tW : MS) (x1 : Int32) (H : Heap) (locs : List Loc) (ls : Array Slot), F_X3_so_18 N tW x1 = some r → va_P (dC, dI) vwCl (cwM cI b tW) H → va_D A (cwM cI b tW) → va_S A s.heap H locs → lv_has ls 4 [(0, .ref (b 0)), (1, .int x1)] → W p l e R s m av below meth c H locs 0 0 Q (F0 m 18 ls [])) ?_ (fun kJ18 => ?_)
  · 
    intro tW x1 H locs ls hF hP hD hS hl
    rw [F_X3_so_18] at hF
    refine lv_iload_n hx hb dX3_so_18 rfl (lv_at hl 1 rfl) ?_
    refine lv_if_ge (tgt := 27) hx hb dX3_so_19 (by decide) (fun hc => ?_) (fun hc => ?_)
    · have hF := ift hc hF
      refine lv_aload_n hx hb dX3_so_27 rfl (lv_at hl 0 rfl) ?_
      refine va_get (D := (dC, dI)) (ci := 3) (v := .ref (b 1)) (C := RX3) (T := TX3) (N := 15) hx hb hts inw_X3_so_X3 hown hK hP 0 rfl rfl 0 (by decide) (hts (.fieldLink RX3 9 "DeniedOfEachOtherModel" "s" "[I") (List.mem_of_getElem? (i := 1) rfl)) (fun _ h9 => h9) rfl dX3_so_28 ?_
      refine lv_iload_n hx hb dX3_so_31 rfl (lv_at hl 1 rfl) ?_
      refine lv_iconst (v := nI 1) hx hb dX3_so_32 (by decide) ?_
      have hPc := hP.sub (ws' := (cwA cI (b 1) tW.1)) [1] rfl
      have hDc := hD.sub (ws' := (cwA cI (b 1) tW.1)) [1] (by decide) rfl
      have hFc := va_free (wc := (cwA cI (b 1) tW.1)) hD hS hA [1] rfl
      refine bd hF (fun r33 hG hF => ?_)
      refine va_calli (va_runS (As := [.ref (b 1), .int x1, .int (nI 1)]) (rest := []) ⟨hx, hb, hml, hown, hts⟩ (c_X3_saying l dC dI cI sf H.size N (b 1) tW.1 x1 (nI 1) r33 hG) (va_cwS 3 hts gX3_so_X3_saying rfl rfl rfl (by decide +kernel) ⟨Nat.le_of_ble_eq_true rfl, Nat.le_of_ble_eq_true rfl⟩) ⟨fun a U g mk q => ⟨q.1, q.2.call⟩, fun U hU hW => ⟨rfl, PB.of hU hW hPc hK hDc hNN hSF hS hFc⟩⟩ rfl rfl hl.1 rfl (lv_room (Nat.le_of_ble_eq_true rfl)) dX3_so_33 ⟨Nat.le_of_ble_eq_true rfl, Nat.le_of_ble_eq_true rfl⟩) hS (fun q _ h => hFc q h) hFc (fun z_ u_ t H locs ht hvm hw hB hz1 hk1 hS => ?_)
      subst z_
      obtain ⟨hP1, hD1⟩ := hB
      rw [ht] at hP1
      have hJ := vb_join (ws' := (cwM cI b tW)) hP hD [1] [0, 2, 3, 4, 5, 6, 7, 8, 9] [0, 9, 1, 2, 3, 4, 5, 6, 7, 8] rfl rfl (by decide) (by decide) hk1 hFc hP1 hD1 rfl (by decide) rfl
      clear hP hD hPc hDc hFc hP1 hD1 hk1 hz1 ht hvm hG
      obtain ⟨hP, hD⟩ := hJ
      refine lv_istore_n (lv' := [(2, .int r33), (0, .ref (b 0)), (1, .int x1)]) hx hb dX3_so_36 rfl hl (by decide) rfl (fun ls hl => ?_)
      refine lv_aload_n hx hb dX3_so_37 rfl (lv_at hl 1 rfl) ?_
      refine va_get (D := (dC, dI)) (ci := 3) (v := .ref (b 1)) (C := RX3) (T := TX3) (N := 15) hx hb hts inw_X3_so_X3 hown hK hP 0 rfl rfl 0 (by decide) (hts (.fieldLink RX3 9 "DeniedOfEachOtherModel" "s" "[I") (List.mem_of_getElem? (i := 1) rfl)) (fun _ h9 => h9) rfl dX3_so_38 ?_
      refine lv_iload_n hx hb dX3_so_41 rfl (lv_at hl 2 rfl) ?_
      refine lv_iconst (v := nI 2) hx hb dX3_so_42 (by decide) ?_
      have hPc := hP.sub (ws' := (cwA cI (b 1) tW.1)) [1] rfl
      have hDc := hD.sub (ws' := (cwA cI (b 1) tW.1)) [1] (by decide) rfl
      have hFc := va_free (wc := (cwA cI (b 1) tW.1)) hD hS hA [1] rfl
      refine bd hF (fun r43 hG hF => ?_)
      refine va_calli (va_runS (As := [.ref (b 1), .int x1, .int (nI 2)]) (rest := []) ⟨hx, hb, hml, hown, hts⟩ (c_X3_saying l dC dI cI sf H.size N (b 1) tW.1 x1 (nI 2) r43 hG) (va_cwS 3 hts gX3_so_X3_saying rfl rfl rfl (by decide +kernel) ⟨Nat.le_of_ble_eq_true rfl, Nat.le_of_ble_eq_true rfl⟩) ⟨fun a U g mk q => ⟨q.1, q.2.call⟩, fun U hU hW => ⟨rfl, PB.of hU hW hPc hK hDc hNN hSF hS hFc⟩⟩ rfl rfl hl.1 rfl (lv_room (Nat.le_of_ble_eq_true rfl)) dX3_so_43 ⟨Nat.le_of_ble_eq_true rfl, Nat.le_of_ble_eq_true rfl⟩) hS (fun q _ h => hFc q h) hFc (fun z_ u_ t H locs ht hvm hw hB hz1 hk1 hS => ?_)
      subst z_
      obtain ⟨hP1, hD1⟩ := hB
      rw [ht] at hP1
      have hJ := vb_join (ws' := (cwM cI b tW)) hP hD [1] [0, 2, 3, 4, 5, 6, 7, 8, 9] [0, 9, 1, 2, 3, 4, 5, 6, 7, 8] rfl rfl (by decide) (by decide) hk1 hFc hP1 hD1 rfl (by decide) rfl
      clear hP hD hPc hDc hFc hP1 hD1 hk1 hz1 ht hvm hG
      obtain ⟨hP, hD⟩ := hJ
      refine lv_istore_n (lv' := [(3, .int r43), (2, .int r33), (0, .ref (b 0)), (1, .int x1)]) hx hb dX3_so_46 rfl hl (by decide) rfl (fun ls hl => ?_)
      refine lv_iload_n hx hb dX3_so_47 rfl (lv_at hl 1 rfl) ?_
      refine lv_iload_n hx hb dX3_so_48 rfl (lv_at hl 0 rfl) ?_
      refine lv_iadd hx hb dX3_so_49 ?_
      refine lv_if_ne (tgt := 57) hx hb dX3_so_50 (by decide) (fun hc => ?_) (fun hc => ?_)
      · have hF := ift hc hF
        refine lv_iload_n hx hb dX3_so_57 rfl (lv_at hl 1 rfl) ?_
        refine lv_iload_n hx hb dX3_so_58 rfl (lv_at hl 0 rfl) ?_
        refine lv_icmp_lt (tgt := 66) hx hb dX3_so_59 (by decide) (fun hc => ?_) (fun hc => ?_)
        · have hF := ift hc hF
          refine lv_iconst (v := nI 2) hx hb dX3_so_66 (by decide) ?_
          obtain rfl := Option.some.inj hF
          exact W.iret (v := (nI 2)) hx hb hr (fun t ht hW => ⟨⟨(nI 2), (), rfl, rfl, QB.of ht hP hD⟩, hS.F ht⟩) hS.2.2 dX3_so_67
        · have hF := iff_ hc hF
          refine lv_iconst (v := nI 1) hx hb dX3_so_62 (by decide) ?_
          refine lv_goto (tgt := 67) hx hb dX3_so_63 (by decide) ?_
          obtain rfl := Option.some.inj hF
          exact W.iret (v := (nI 1)) hx hb hr (fun t ht hW => ⟨⟨(nI 1), (), rfl, rfl, QB.of ht hP hD⟩, hS.F ht⟩) hS.2.2 dX3_so_67
      · have hF := iff_ (fun h => h hc) hF
        refine lv_iconst (v := nI 0) hx hb dX3_so_53 (by decide) ?_
        refine lv_goto (tgt := 67) hx hb dX3_so_54 (by decide) ?_
        obtain rfl := Option.some.inj hF
        exact W.iret (v := (nI 0)) hx hb hr (fun t ht hW => ⟨⟨(nI 0), (), rfl, rfl, QB.of ht hP hD⟩, hS.F ht⟩) hS.2.2 dX3_so_67
    · have hF := iff_ hc hF
      refine lv_aload_n hx hb dX3_so_22 rfl (lv_at hl 0 rfl) ?_
      have hPc := hP.sub (ws' := (cwM cI b tW)) [0, 1, 2, 3, 4, 5, 6, 7, 8, 9] rfl
      have hDc := hD.sub (ws' := (cwM cI b tW)) [0, 1, 2, 3, 4, 5, 6, 7, 8, 9] (by decide) rfl
      have hFc := va_free (wc := (cwM cI b tW)) hD hS hA [0, 1, 2, 3, 4, 5, 6, 7, 8, 9] rfl
      refine bd hF (fun r23 hG hF => ?_)
      refine va_calli (va_runV (As := []) (rest := []) ⟨hx, hb, hml, hown, hts⟩ (c_X3_lesserAll l dC dI cI sf H.size N b tW r23 hG) (cwV 0 hts gX3_so_X3_lesserAll rfl rfl rfl (by decide +kernel) ⟨Nat.le_of_ble_eq_true rfl, Nat.le_of_ble_eq_true rfl⟩) ⟨fun a U g mk q => ⟨q.1, q.2.call⟩, va_recv hK hP (ci := 3) (q0 := 0) rfl rfl, fun U hU hW => ⟨rfl, PB.of hU hW hPc hK hDc hNN hSF hS hFc⟩⟩ rfl rfl hl.1 rfl (lv_room (Nat.le_of_ble_eq_true rfl)) dX3_so_23 ⟨Nat.le_of_ble_eq_true rfl, Nat.le_of_ble_eq_true rfl⟩) hS (fun q _ h => hFc q h) hFc (fun z_ u_ t H locs ht hvm hw hB hz1 hk1 hS => ?_)
      subst z_
      obtain ⟨hP1, hD1⟩ := hB
      rw [ht] at hP1
      have hJ := vb_join (ws' := (cwM cI b tW)) hP hD [0, 1, 2, 3, 4, 5, 6, 7, 8, 9] [] [0, 1, 2, 3, 4, 5, 6, 7, 8, 9] rfl rfl (by decide) (by decide) hk1 hFc hP1 hD1 rfl (by decide) rfl
      clear hP hD hPc hDc hFc hP1 hD1 hk1 hz1 ht hvm hG
      obtain ⟨hP, hD⟩ := hJ
      obtain rfl := Option.some.inj hF
      exact W.iret (v := r23) hx hb hr (fun t ht hW => ⟨⟨r23, (), rfl, rfl, QB.of ht hP hD⟩, hS.F ht⟩) hS.2.2 dX3_so_26
  refine lv_icmp_eq (tgt := 18) hx hb dX3_so_2 (by decide) (fun hc => ?_) (fun hc => ?_)
  · have hF := ift hc hF
    exact kJ18 tW p1 _ _ _ hF hP hD hS (lv_sub hl [0, 1] rfl)
  · have hF := iff_ hc hF
    refine lv_iload_n hx hb dX3_so_5 rfl (lv_at hl 1 rfl) ?_
    have hPc := hP.sub (ws' := ([] : va_W)) [] rfl
    have hDc := hD.sub (ws' := ([] : va_W)) [] (by decide) rfl
    have hFc := va_free (wc := ([] : va_W)) hD hS hA [] rfl
    refine bd hF (fun r6 hG hF => ?_)
    refine va_calli (va_runS (As := [.int p1]) (rest := []) ⟨hx, hb, hml, hown, hts⟩ (c_X3_isTopic l dC dI cI sf s.heap.size N  p1 r6 hG) (va_cwS 1 hts gX3_so_X3_isTopic rfl rfl rfl (by decide +kernel) ⟨Nat.le_of_ble_eq_true rfl, Nat.le_of_ble_eq_true rfl⟩) ⟨fun a U g mk q => ⟨q.1, q.2.call⟩, fun U hU hW => ⟨rfl, PB.of hU hW hPc hK hDc hNN hSF hS hFc⟩⟩ rfl rfl hl.1 rfl (lv_room (Nat.le_of_ble_eq_true rfl)) dX3_so_6 ⟨Nat.le_of_ble_eq_true rfl, Nat.le_of_ble_eq_true rfl⟩) hS (fun q _ h => hFc q h) hFc (fun z_ u_ t H locs ht hvm hw hB hz1 hk1 hS => ?_)
    subst z_
    obtain ⟨hP1, hD1⟩ := hB
    rw [ht] at hP1
    have hJ := vb_join (ws' := (cwM cI b tW)) hP hD [] [0, 1, 2, 3, 4, 5, 6, 7, 8, 9] [0, 1, 2, 3, 4, 5, 6, 7, 8, 9] rfl rfl (by decide) (by decide) hk1 hFc hP1 hD1 rfl (by decide) rfl
    clear hP hD hPc hDc hFc hP1 hD1 hk1 hz1 ht hvm hG
    obtain ⟨hP, hD⟩ := hJ
    refine lv_if_ne (tgt := 18) hx hb dX3_so_9 (by decide) (fun hc => ?_) (fun hc => ?_)
    · have hF := ift hc hF
      exact kJ18 tW p1 _ _ _ hF hP hD hS (lv_sub hl [0, 1] rfl)
    · have hF := iff_ (fun h => h hc) hF
      refine lv_aload_n hx hb dX3_so_12 rfl (lv_at hl 0 rfl) ?_
      refine lv_iconst (v := (-1)) hx hb dX3_so_13 (by decide) ?_
      have hPc := hP.sub (ws' := (cwM cI b tW)) [0, 1, 2, 3, 4, 5, 6, 7, 8, 9] rfl
      have hDc := hD.sub (ws' := (cwM cI b tW)) [0, 1, 2, 3, 4, 5, 6, 7, 8, 9] (by decide) rfl
      have hFc := va_free (wc := (cwM cI b tW)) hD hS hA [0, 1, 2, 3, 4, 5, 6, 7, 8, 9] rfl
      refine bd hF (fun r14 hG hF => ?_)
      refine va_calli (va_runV (As := [.int (-1)]) (rest := []) ⟨hx, hb, hml, hown, hts⟩ (c_X3_no l dC dI cI sf H.size N b tW (-1) r14 hG) (cwV 1 hts gX3_so_X3_no rfl rfl rfl (by decide +kernel) ⟨Nat.le_of_ble_eq_true rfl, Nat.le_of_ble_eq_true rfl⟩) ⟨fun a U g mk q => ⟨q.1, q.2.call⟩, va_recv hK hP (ci := 3) (q0 := 0) rfl rfl, fun U hU hW => ⟨rfl, PB.of hU hW hPc hK hDc hNN hSF hS hFc⟩⟩ rfl rfl hl.1 rfl (lv_room (Nat.le_of_ble_eq_true rfl)) dX3_so_14 ⟨Nat.le_of_ble_eq_true rfl, Nat.le_of_ble_eq_true rfl⟩) hS (fun q _ h => hFc q h) hFc (fun z_ u_ t H locs ht hvm hw hB hz1 hk1 hS => ?_)
      subst z_
      obtain ⟨hP1, hD1⟩ := hB
      rw [ht] at hP1
      have hJ := vb_join (ws' := (cwM cI b r14.2)) hP hD [0, 1, 2, 3, 4, 5, 6, 7, 8, 9] [] [0, 1, 2, 3, 4, 5, 6, 7, 8, 9] rfl rfl (by decide) (by decide) hk1 hFc hP1 hD1 rfl (by decide) rfl
      clear hP hD hPc hDc hFc hP1 hD1 hk1 hz1 ht hvm hG
      obtain ⟨hP, hD⟩ := hJ
      obtain rfl := Option.some.inj hF
      exact W.iret (v := r14.1) hx hb hr (fun t ht hW => ⟨⟨r14.1, (), rfl, rfl, QB.of ht hP hD⟩, hS.F ht⟩) hS.2.2 dX3_so_17
