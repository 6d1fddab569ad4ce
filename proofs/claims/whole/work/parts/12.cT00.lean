theorem inw_X1_isLiving_X1 : ∀ w ∈ u_ws RX1 TX1 8, w ∈ wsX1_isLiving := fun _ h => List.mem_cons_of_mem _ (List.mem_append_right _ h)
set_option maxHeartbeats 4000000 in
set_option maxRecDepth 100000 in
theorem c_X1_isLiving (l : Launch) (dC : Nat → ClassId) (dI : Nat → Nat → Nat) (cI : ClassId) (sf : SFP) (sz : Nat) (N : Nat) (h0 h1 h2 h3 h4 h5 : Nat) (tW : TownS) (p1 : Int32) (r : Int32) (hF : F_X1_isLiving N tW p1 = some r) : Met l yX1_isLiving wsX1_isLiving ({ frames := 0, cells := 0, slots := 0, locals := 0 }) (va_Pc [.ref h0, .int p1] (PB (dC, dI) cI (cwT cI h0 h1 h2 h3 h4 h5 tW) sz sf)) (va_Qi (fun (z : Int32) (_ : Unit) => z = r) (fun _ t => QB (dC, dI) (cwT cI h0 h1 h2 h3 h4 h5 tW) (va_A (cwT cI h0 h1 h2 h3 h4 h5 tW) sz) t) (va_A (cwT cI h0 h1 h2 h3 h4 h5 tW) sz)) 0 0 (va_A (cwT cI h0 h1 h2 h3 h4 h5 tW) sz) := by
  refine Met.ofW (cc := cX1_isLiving) (maxL := 2) (ret := (some .boolean)) (by decide) rfl ?_
  intro p e s m args below meth c s₁ B hml hv
  obtain ⟨rfl, hsz, hP, hK, hD0, hNN, hSF⟩ := hv
  have hx := B.exec
  have hb := B.bytes
  have hr := B.returns
  have hts := atoms_spec (ws := wsX1_isLiving) B.pre
  have hown : s.vm.findClass RX1 = some m.cls := findClass_of_methodNamed B.named
  have hlocks := B.notSynchronized
  subst hsz
  have hD := hD0.self (sz := s.heap.size)
  generalize hAe : va_A (cwT cI h0 h1 h2 h3 h4 h5 tW) s.heap.size = A at hD hSF ⊢
  have hA : ∀ q : Nat, s.heap.size ≤ q → A q := fun q h => by rw [← hAe]; exact Or.inr h
  clear hAe hD0
  have hS : va_S A s.heap s.heap [] := va_S.rf
  have hl := lv_entry ([.ref h0, .int p1]) (n := 2) (Nat.le_of_ble_eq_true rfl)
  rw [lg_entry_eq]
  generalize (lg_sl ([.ref h0, .int p1]) ++ List.replicate (2 - (lg_sl ([.ref h0, .int p1])).length) Slot.unset).toArray = ls at hl ⊢
  have hl : lv_has ls 2 [(0, .ref h0), (1, .int p1)] := hl
  rw [F_X1_isLiving] at hF
  refine lv_iload_n hx hb dX1_isLiving_0 rfl (lv_at hl 1 rfl) ?_
  refine lv_if_lt (tgt := 28) hx hb dX1_isLiving_1 (by decide) (fun hc => ?_) (fun hc => ?_)
  · have hF := ift hc hF
    refine lv_iconst (v := nI 0) hx hb dX1_isLiving_28 (by decide) ?_
    obtain rfl := Option.some.inj hF
    exact W.zret (v := (nI 0)) (ty := .boolean) hx hb hr (by decide +kernel) (fun t ht hW => ⟨⟨(nI 0), (), rfl, rfl, QB.of ht hP hD⟩, hS.F ht⟩) hS.2.2 dX1_isLiving_29
  · have hF := iff_ hc hF
    refine lv_iload_n hx hb dX1_isLiving_4 rfl (lv_at hl 1 rfl) ?_
    refine lv_aload_n hx hb dX1_isLiving_5 rfl (lv_at hl 0 rfl) ?_
    refine va_get (D := (dC, dI)) (ci := 1) (v := .int tW.2.2.2.2.2.1) (C := RX1) (T := TX1) (N := 8) hx hb hts inw_X1_isLiving_X1 hown hK hP 0 rfl rfl 5 (by decide) (hts (.fieldLink RX1 27 "DeniedOfEachOther$Town" "size" "I") (List.mem_of_getElem? (i := 1) rfl)) (fun _ h9 => h9) rfl dX1_isLiving_6 ?_
    refine lv_icmp_ge (tgt := 28) hx hb dX1_isLiving_9 (by decide) (fun hc => ?_) (fun hc => ?_)
    · have hF := ift hc hF
      refine lv_iconst (v := nI 0) hx hb dX1_isLiving_28 (by decide) ?_
      obtain rfl := Option.some.inj hF
      exact W.zret (v := (nI 0)) (ty := .boolean) hx hb hr (by decide +kernel) (fun t ht hW => ⟨⟨(nI 0), (), rfl, rfl, QB.of ht hP hD⟩, hS.F ht⟩) hS.2.2 dX1_isLiving_29
    · have hF := iff_ hc hF
      refine lv_aload_n hx hb dX1_isLiving_12 rfl (lv_at hl 0 rfl) ?_
      refine va_get (D := (dC, dI)) (ci := 1) (v := .int tW.2.2.2.2.2.2.1) (C := RX1) (T := TX1) (N := 8) hx hb hts inw_X1_isLiving_X1 hown hK hP 0 rfl rfl 6 (by decide) (hts (.fieldLink RX1 31 "DeniedOfEachOther$Town" "living" "I") (List.mem_of_getElem? (i := 2) rfl)) (fun _ h9 => h9) rfl dX1_isLiving_13 ?_
      refine lv_iload_n hx hb dX1_isLiving_16 rfl (lv_at hl 1 rfl) ?_
      refine lv_ishr hx hb dX1_isLiving_17 ?_
      refine lv_iconst (v := nI 1) hx hb dX1_isLiving_18 (by decide) ?_
      refine lv_iand hx hb dX1_isLiving_19 ?_
      refine lv_iconst (v := nI 1) hx hb dX1_isLiving_20 (by decide) ?_
      refine lv_icmp_ne (tgt := 28) hx hb dX1_isLiving_21 (by decide) (fun hc => ?_) (fun hc => ?_)
      · have hF := ift hc hF
        refine lv_iconst (v := nI 0) hx hb dX1_isLiving_28 (by decide) ?_
        obtain rfl := Option.some.inj hF
        exact W.zret (v := (nI 0)) (ty := .boolean) hx hb hr (by decide +kernel) (fun t ht hW => ⟨⟨(nI 0), (), rfl, rfl, QB.of ht hP hD⟩, hS.F ht⟩) hS.2.2 dX1_isLiving_29
      · have hF := iff_ (fun h => h hc) hF
        refine lv_iconst (v := nI 1) hx hb dX1_isLiving_24 (by decide) ?_
        refine lv_goto (tgt := 29) hx hb dX1_isLiving_25 (by decide) ?_
        obtain rfl := Option.some.inj hF
        exact W.zret (v := (nI 1)) (ty := .boolean) hx hb hr (by decide +kernel) (fun t ht hW => ⟨⟨(nI 1), (), rfl, rfl, QB.of ht hP hD⟩, hS.F ht⟩) hS.2.2 dX1_isLiving_29
set_option maxHeartbeats 4000000 in
set_option maxRecDepth 100000 in
theorem c_X2_noTopic (l : Launch) (dC : Nat → ClassId) (dI : Nat → Nat → Nat) (cI : ClassId) (sf : SFP) (sz : Nat) (N : Nat) (p0 : Int32) (r : Int32) (hF : F_X2_noTopic N p0 = some r) : Met l yX2_noTopic wsX2_noTopic ({ frames := 0, cells := 0, slots := 0, locals := 0 }) (va_Pc [.int p0] (PB (dC, dI) cI ([] : va_W) sz sf)) (va_Qi (fun (z : Int32) (_ : Unit) => z = r) (fun _ t => QB (dC, dI) ([] : va_W) (va_A ([] : va_W) sz) t) (va_A ([] : va_W) sz)) 0 0 (va_A ([] : va_W) sz) := by
  refine Met.ofW (cc := cX2_noTopic) (maxL := 1) (ret := (some .boolean)) (by decide) rfl ?_
  intro p e s m args below meth c s₁ B hml hv
  obtain ⟨rfl, hsz, hP, hK, hD0, hNN, hSF⟩ := hv
  have hx := B.exec
  have hb := B.bytes
  have hr := B.returns
  have hts := atoms_spec (ws := wsX2_noTopic) B.pre
  have hown : s.vm.findClass RX2 = some m.cls := findClass_of_methodNamed B.named
  have hlocks := B.notSynchronized
  subst hsz
  have hD := hD0.self (sz := s.heap.size)
  generalize hAe : va_A ([] : va_W) s.heap.size = A at hD hSF ⊢
  have hA : ∀ q : Nat, s.heap.size ≤ q → A q := fun q h => by rw [← hAe]; exact Or.inr h
  clear hAe hD0
  have hS : va_S A s.heap s.heap [] := va_S.rf
  have hl := lv_entry ([.int p0]) (n := 1) (Nat.le_of_ble_eq_true rfl)
  rw [lg_entry_eq]
  generalize (lg_sl ([.int p0]) ++ List.replicate (1 - (lg_sl ([.int p0])).length) Slot.unset).toArray = ls at hl ⊢
  have hl : lv_has ls 1 [(0, .int p0)] := hl
  rw [F_X2_noTopic] at hF
  refine lv_iload_n hx hb dX2_noTopic_0 rfl (lv_at hl 0 rfl) ?_
  refine lv_if_lt (tgt := 10) hx hb dX2_noTopic_1 (by decide) (fun hc => ?_) (fun hc => ?_)
  · have hF := ift hc hF
    refine lv_iconst (v := nI 1) hx hb dX2_noTopic_10 (by decide) ?_
    refine lv_goto (tgt := 15) hx hb dX2_noTopic_11 (by decide) ?_
    obtain rfl := Option.some.inj hF
    exact W.zret (v := (nI 1)) (ty := .boolean) hx hb hr (by decide +kernel) (fun t ht hW => ⟨⟨(nI 1), (), rfl, rfl, QB.of ht hP hD⟩, hS.F ht⟩) hS.2.2 dX2_noTopic_15
  · have hF := iff_ hc hF
    refine lv_iload_n hx hb dX2_noTopic_4 rfl (lv_at hl 0 rfl) ?_
    refine lv_bipush (v := nI 8) hx hb dX2_noTopic_5 (by decide) ?_
    refine lv_icmp_lt (tgt := 14) hx hb dX2_noTopic_7 (by decide) (fun hc => ?_) (fun hc => ?_)
    · have hF := ift hc hF
      refine lv_iconst (v := nI 0) hx hb dX2_noTopic_14 (by decide) ?_
      obtain rfl := Option.some.inj hF
      exact W.zret (v := (nI 0)) (ty := .boolean) hx hb hr (by decide +kernel) (fun t ht hW => ⟨⟨(nI 0), (), rfl, rfl, QB.of ht hP hD⟩, hS.F ht⟩) hS.2.2 dX2_noTopic_15
    · have hF := iff_ hc hF
      refine lv_iconst (v := nI 1) hx hb dX2_noTopic_10 (by decide) ?_
      refine lv_goto (tgt := 15) hx hb dX2_noTopic_11 (by decide) ?_
      obtain rfl := Option.some.inj hF
      exact W.zret (v := (nI 1)) (ty := .boolean) hx hb hr (by decide +kernel) (fun t ht hW => ⟨⟨(nI 1), (), rfl, rfl, QB.of ht hP hD⟩, hS.F ht⟩) hS.2.2 dX2_noTopic_15
theorem inw_X1_put_X1 : ∀ w ∈ u_ws RX1 TX1 8, w ∈ wsX1_put := fun _ h => List.mem_cons_of_mem _ (List.mem_append_right _ h)
set_option maxHeartbeats 4000000 in
set_option maxRecDepth 100000 in
theorem c_X1_put (l : Launch) (dC : Nat → ClassId) (dI : Nat → Nat → Nat) (cI : ClassId) (sf : SFP) (sz : Nat) (N : Nat) (h0 h1 h2 h3 h4 h5 : Nat) (tW : TownS) (p1 : Int32) (p2 : Int32) (p3 : Int32) (r : TownS) (hF : F_X1_put N tW p1 p2 p3 = some r) : Met l yX1_put wsX1_put ({ frames := 0, cells := 0, slots := 0, locals := 0 }) (va_Pc [.ref h0, .int p1, .int p2, .int p3] (PB (dC, dI) cI (cwT cI h0 h1 h2 h3 h4 h5 tW) sz sf)) (va_Qv (fun _ : Unit => True) (fun _ t => QB (dC, dI) (cwT cI h0 h1 h2 h3 h4 h5 r) (va_A (cwT cI h0 h1 h2 h3 h4 h5 tW) sz) t) (va_A (cwT cI h0 h1 h2 h3 h4 h5 tW) sz)) 0 0 (va_A (cwT cI h0 h1 h2 h3 h4 h5 tW) sz) := by
  refine Met.ofW (cc := cX1_put) (maxL := 5) (ret := none) (by decide) rfl ?_
  intro p e s m args below meth c s₁ B hml hv
  obtain ⟨rfl, hsz, hP, hK, hD0, hNN, hSF⟩ := hv
  have hx := B.exec
  have hb := B.bytes
  have hr := B.returns
  have hts := atoms_spec (ws := wsX1_put) B.pre
  have hown : s.vm.findClass RX1 = some m.cls := findClass_of_methodNamed B.named
  have hlocks := B.notSynchronized
  subst hsz
  have hD := hD0.self (sz := s.heap.size)
  generalize hAe : va_A (cwT cI h0 h1 h2 h3 h4 h5 tW) s.heap.size = A at hD hSF ⊢
  have hA : ∀ q : Nat, s.heap.size ≤ q → A q := fun q h => by rw [← hAe]; exact Or.inr h
  clear hAe hD0
  have hS : va_S A s.heap s.heap [] := va_S.rf
  have hl := lv_entry ([.ref h0, .int p1, .int p2, .int p3]) (n := 5) (Nat.le_of_ble_eq_true rfl)
  rw [lg_entry_eq]
  generalize (lg_sl ([.ref h0, .int p1, .int p2, .int p3]) ++ List.replicate (5 - (lg_sl ([.ref h0, .int p1, .int p2, .int p3])).length) Slot.unset).toArray = ls at hl ⊢
  have hl : lv_has ls 5 [(0, .ref h0), (1, .int p1), (2, .int p2), (3, .int p3)] := hl
  rw [F_X1_put] at hF
  refine lv_iconst (v := nI 1) hx hb dX1_put_0 (by decide) ?_
  refine lv_iload_n hx hb dX1_put_1 rfl (lv_at hl 1 rfl) ?_
  refine lv_ishl hx hb dX1_put_2 ?_
  refine lv_istore (lv' := [(4, .int ((nI 1) <<< (p1 &&& 31))), (0, .ref h0), (1, .int p1), (2, .int p2), (3, .int p3)]) hx hb dX1_put_3 hl (by decide) rfl (fun ls hl => ?_)
  refine lv_aload_n hx hb dX1_put_5 rfl (lv_at hl 1 rfl) ?_
  refine va_get (D := (dC, dI)) (ci := 1) (v := .ref h4) (C := RX1) (T := TX1) (N := 8) hx hb hts inw_X1_put_X1 hown hK hP 0 rfl rfl 3 (by decide) (hts (.fieldLink RX1 21 "DeniedOfEachOther$Town" "yes" "[I") (List.mem_of_getElem? (i := 1) rfl)) (fun _ h9 => h9) rfl dX1_put_6 ?_
  refine lv_iload_n hx hb dX1_put_9 rfl (lv_at hl 3 rfl) ?_
  refine lv_iload_n hx hb dX1_put_10 rfl (lv_at hl 4 rfl) ?_
  refine lv_iconst (v := nI 1) hx hb dX1_put_11 (by decide) ?_
  refine vW_have (fun R av Q => ∀ (tW : TownS) (x2 : Int32) (x3 : Int32) (x4 : Int32) (z1 : Int32) (z2 : Int32) (H : Heap) (locs : List Loc) (ls : Array Slot), F_X1_put_38 N tW x2 x3 x4 z1 z2 = some r → va_P (dC, dI) vwCl (cwT cI h0 h1 h2 h3 h4 h5 tW) H → va_D A (cwT cI h0 h1 h2 h3 h4 h5 tW) → va_S A s.heap H locs → lv_has ls 5 [(0, .ref h0), (2, .int x2), (3, .int x3), (4, .int x4)] → W p l e R s m av below meth c H locs 0 0 Q (F0 m 38 ls [.int z2, .int z1, .ref h4])) ?_ (fun kJ38 => ?_)
  · 
    intro tW x2 x3 x4 z1 z2 H locs ls hF hP hD hS hl
    rw [F_X1_put_38] at hF
    refine cki hF (fun hi hF => ?_)
    refine va_iast (D := (dC, dI)) hx hb hK hP hD hS 4 0 rfl rfl hi dX1_put_38 (fun H locs hP hD hS => ?_)
    have hP : va_P (dC, dI) vwCl (cwT cI h0 h1 h2 h3 h4 h5 (tW.1, tW.2.1, tW.2.2.1, (upd tW.2.2.2.1 z1.toNatClampNeg z2), tW.2.2.2.2.1, tW.2.2.2.2.2.1, tW.2.2.2.2.2.2.1, tW.2.2.2.2.2.2.2)) H := hP
    have hD : va_D A (cwT cI h0 h1 h2 h3 h4 h5 (tW.1, tW.2.1, tW.2.2.1, (upd tW.2.2.2.1 z1.toNatClampNeg z2), tW.2.2.2.2.1, tW.2.2.2.2.2.1, tW.2.2.2.2.2.2.1, tW.2.2.2.2.2.2.2)) := hD
    refine lv_aload_n hx hb dX1_put_39 rfl (lv_at hl 0 rfl) ?_
    refine va_get (D := (dC, dI)) (ci := 1) (v := .ref h5) (C := RX1) (T := TX1) (N := 8) hx hb hts inw_X1_put_X1 hown hK hP 0 rfl rfl 4 (by decide) (hts (.fieldLink RX1 24 "DeniedOfEachOther$Town" "no" "[I") (List.mem_of_getElem? (i := 2) rfl)) (fun _ h9 => h9) rfl dX1_put_40 ?_
    refine lv_iload_n hx hb dX1_put_43 rfl (lv_at hl 1 rfl) ?_
    refine lv_iload_n hx hb dX1_put_44 rfl (lv_at hl 2 rfl) ?_
    refine lv_iconst (v := nI 2) hx hb dX1_put_45 (by decide) ?_
    refine vW_have (fun R av Q => ∀ (tW : TownS) (z1 : Int32) (z2 : Int32) (H : Heap) (locs : List Loc) (ls : Array Slot), F_X1_put_72 N tW z1 z2 = some r → va_P (dC, dI) vwCl (cwT cI h0 h1 h2 h3 h4 h5 tW) H → va_D A (cwT cI h0 h1 h2 h3 h4 h5 tW) → va_S A s.heap H locs → lv_has ls 5 [] → W p l e R s m av below meth c H locs 0 0 Q (F0 m 72 ls [.int z2, .int z1, .ref h5])) ?_ (fun kJ72 => ?_)
    · 
      intro tW z1 z2 H locs ls hF hP hD hS hl
      rw [F_X1_put_72] at hF
      refine cki hF (fun hi hF => ?_)
      refine va_iast (D := (dC, dI)) hx hb hK hP hD hS 5 0 rfl rfl hi dX1_put_72 (fun H locs hP hD hS => ?_)
      have hP : va_P (dC, dI) vwCl (cwT cI h0 h1 h2 h3 h4 h5 (tW.1, tW.2.1, tW.2.2.1, tW.2.2.2.1, (upd tW.2.2.2.2.1 z1.toNatClampNeg z2), tW.2.2.2.2.2.1, tW.2.2.2.2.2.2.1, tW.2.2.2.2.2.2.2)) H := hP
      have hD : va_D A (cwT cI h0 h1 h2 h3 h4 h5 (tW.1, tW.2.1, tW.2.2.1, tW.2.2.2.1, (upd tW.2.2.2.2.1 z1.toNatClampNeg z2), tW.2.2.2.2.2.1, tW.2.2.2.2.2.2.1, tW.2.2.2.2.2.2.2)) := hD
      obtain rfl := Option.some.inj hF
      exact W.vret hx hb hr (fun t ht hW => ⟨⟨(), rfl, trivial, QB.of ht hP hD⟩, hS.F ht⟩) hS.2.2 dX1_put_73
    refine lv_icmp_ne (tgt := 61) hx hb dX1_put_46 (by decide) (fun hc => ?_) (fun hc => ?_)
    · have hF := ift hc hF
      refine lv_aload_n hx hb dX1_put_61 rfl (lv_at hl 0 rfl) ?_
      refine va_get (D := (dC, dI)) (ci := 1) (v := .ref h5) (C := RX1) (T := TX1) (N := 8) hx hb hts inw_X1_put_X1 hown hK hP 0 rfl rfl 4 (by decide) (hts (.fieldLink RX1 24 "DeniedOfEachOther$Town" "no" "[I") (List.mem_of_getElem? (i := 2) rfl)) (fun _ h9 => h9) rfl dX1_put_62 ?_
      refine lv_iload_n hx hb dX1_put_65 rfl (lv_at hl 1 rfl) ?_
      refine cki hF (fun hi hF => ?_)
      refine va_iald (D := (dC, dI)) hx hb hK hP 5 0 rfl rfl hi dX1_put_66 ?_
      refine lv_iload hx hb dX1_put_67 (lv_at hl 3 rfl) ?_
      refine lv_iconst (v := (-1)) hx hb dX1_put_69 (by decide) ?_
      refine lv_ixor hx hb dX1_put_70 ?_
      refine lv_iand hx hb dX1_put_71 ?_
      exact kJ72 (tW.1, tW.2.1, tW.2.2.1, (upd tW.2.2.2.1 z1.toNatClampNeg z2), tW.2.2.2.2.1, tW.2.2.2.2.2.1, tW.2.2.2.2.2.2.1, tW.2.2.2.2.2.2.2) x2 ((tW.2.2.2.2.1 x2.toNatClampNeg) &&& (x4 ^^^ (-1))) _ _ _ hF hP hD hS (lv_sub hl [] rfl)
    · have hF := iff_ (fun h => h hc) hF
      refine lv_aload_n hx hb dX1_put_49 rfl (lv_at hl 0 rfl) ?_
      refine va_get (D := (dC, dI)) (ci := 1) (v := .ref h5) (C := RX1) (T := TX1) (N := 8) hx hb hts inw_X1_put_X1 hown hK hP 0 rfl rfl 4 (by decide) (hts (.fieldLink RX1 24 "DeniedOfEachOther$Town" "no" "[I") (List.mem_of_getElem? (i := 2) rfl)) (fun _ h9 => h9) rfl dX1_put_50 ?_
      refine lv_iload_n hx hb dX1_put_53 rfl (lv_at hl 1 rfl) ?_
      refine cki hF (fun hi hF => ?_)
      refine va_iald (D := (dC, dI)) hx hb hK hP 5 0 rfl rfl hi dX1_put_54 ?_
      refine lv_iload hx hb dX1_put_55 (lv_at hl 3 rfl) ?_
      refine lv_ior hx hb dX1_put_57 ?_
      refine lv_goto (tgt := 72) hx hb dX1_put_58 (by decide) ?_
      exact kJ72 (tW.1, tW.2.1, tW.2.2.1, (upd tW.2.2.2.1 z1.toNatClampNeg z2), tW.2.2.2.2.1, tW.2.2.2.2.2.1, tW.2.2.2.2.2.2.1, tW.2.2.2.2.2.2.2) x2 ((tW.2.2.2.2.1 x2.toNatClampNeg) ||| x4) _ _ _ hF hP hD hS (lv_sub hl [] rfl)
  refine lv_icmp_ne (tgt := 27) hx hb dX1_put_12 (by decide) (fun hc => ?_) (fun hc => ?_)
  · have hF := ift hc hF
    refine lv_aload_n hx hb dX1_put_27 rfl (lv_at hl 1 rfl) ?_
    refine va_get (D := (dC, dI)) (ci := 1) (v := .ref h4) (C := RX1) (T := TX1) (N := 8) hx hb hts inw_X1_put_X1 hown hK hP 0 rfl rfl 3 (by decide) (hts (.fieldLink RX1 21 "DeniedOfEachOther$Town" "yes" "[I") (List.mem_of_getElem? (i := 1) rfl)) (fun _ h9 => h9) rfl dX1_put_28 ?_
    refine lv_iload_n hx hb dX1_put_31 rfl (lv_at hl 3 rfl) ?_
    refine cki hF (fun hi hF => ?_)
    refine va_iald (D := (dC, dI)) hx hb hK hP 4 0 rfl rfl hi dX1_put_32 ?_
    refine lv_iload hx hb dX1_put_33 (lv_at hl 0 rfl) ?_
    refine lv_iconst (v := (-1)) hx hb dX1_put_35 (by decide) ?_
    refine lv_ixor hx hb dX1_put_36 ?_
    refine lv_iand hx hb dX1_put_37 ?_
    exact kJ38 tW p2 p3 ((nI 1) <<< (p1 &&& 31)) p2 ((tW.2.2.2.1 p2.toNatClampNeg) &&& (((nI 1) <<< (p1 &&& 31)) ^^^ (-1))) _ _ _ hF hP hD hS (lv_sub hl [1, 3, 4, 0] rfl)
  · have hF := iff_ (fun h => h hc) hF
    refine lv_aload_n hx hb dX1_put_15 rfl (lv_at hl 1 rfl) ?_
    refine va_get (D := (dC, dI)) (ci := 1) (v := .ref h4) (C := RX1) (T := TX1) (N := 8) hx hb hts inw_X1_put_X1 hown hK hP 0 rfl rfl 3 (by decide) (hts (.fieldLink RX1 21 "DeniedOfEachOther$Town" "yes" "[I") (List.mem_of_getElem? (i := 1) rfl)) (fun _ h9 => h9) rfl dX1_put_16 ?_
    refine lv_iload_n hx hb dX1_put_19 rfl (lv_at hl 3 rfl) ?_
    refine cki hF (fun hi hF => ?_)
    refine va_iald (D := (dC, dI)) hx hb hK hP 4 0 rfl rfl hi dX1_put_20 ?_
    refine lv_iload hx hb dX1_put_21 (lv_at hl 0 rfl) ?_
    refine lv_ior hx hb dX1_put_23 ?_
    refine lv_goto (tgt := 38) hx hb dX1_put_24 (by decide) ?_
    exact kJ38 tW p2 p3 ((nI 1) <<< (p1 &&& 31)) p2 ((tW.2.2.2.1 p2.toNatClampNeg) ||| ((nI 1) <<< (p1 &&& 31))) _ _ _ hF hP hD hS (lv_sub hl [1, 3, 4, 0] rfl)
theorem inw_X1_hear_X1 : ∀ w ∈ u_ws RX1 TX1 8, w ∈ wsX1_hear := fun _ h => List.mem_cons_of_mem _ (List.mem_append_right _ h)
set_option maxHeartbeats 4000000 in
set_option maxRecDepth 100000 in
theorem c_X1_hear (l : Launch) (dC : Nat → ClassId) (dI : Nat → Nat → Nat) (cI : ClassId) (sf : SFP) (sz : Nat) (N : Nat) (h0 h1 h2 h3 h4 h5 : Nat) (tW : TownS) (p1 : Int32) (p2 : Int32) (p3 : Int32) (r : (Int32 × TownS)) (hF : F_X1_hear N tW p1 p2 p3 = some r) : Met l yX1_hear wsX1_hear ({ frames := 1, cells := 0, slots := 0, locals := 24 }) (va_Pc [.ref h0, .int p1, .int p2, .int p3] (PB (dC, dI) cI (cwT cI h0 h1 h2 h3 h4 h5 tW) sz sf)) (va_Qi (fun (z : Int32) (_ : Unit) => z = r.1) (fun _ t => QB (dC, dI) (cwT cI h0 h1 h2 h3 h4 h5 r.2) (va_A (cwT cI h0 h1 h2 h3 h4 h5 tW) sz) t) (va_A (cwT cI h0 h1 h2 h3 h4 h5 tW) sz)) 0 0 (va_A (cwT cI h0 h1 h2 h3 h4 h5 tW) sz) := by
  refine Met.ofW (cc := cX1_hear) (maxL := 4) (ret := (some .boolean)) (by decide) rfl ?_
  intro p e s m args below meth c s₁ B hml hv
  obtain ⟨rfl, hsz, hP, hK, hD0, hNN, hSF⟩ := hv
  have hx := B.exec
  have hb := B.bytes
  have hr := B.returns
  have hts := atoms_spec (ws := wsX1_hear) B.pre
  have hown : s.vm.findClass RX1 = some m.cls := findClass_of_methodNamed B.named
  have hlocks := B.notSynchronized
  subst hsz
  have hD := hD0.self (sz := s.heap.size)
  generalize hAe : va_A (cwT cI h0 h1 h2 h3 h4 h5 tW) s.heap.size = A at hD hSF ⊢
  have hA : ∀ q : Nat, s.heap.size ≤ q → A q := fun q h => by rw [← hAe]; exact Or.inr h
  clear hAe hD0
  have hS : va_S A s.heap s.heap [] := va_S.rf
  have hl := lv_entry ([.ref h0, .int p1, .int p2, .int p3]) (n := 4) (Nat.le_of_ble_eq_true rfl)
  rw [lg_entry_eq]
  generalize (lg_sl ([.ref h0, .int p1, .int p2, .int p3]) ++ List.replicate (4 - (lg_sl ([.ref h0, .int p1, .int p2, .int p3])).length) Slot.unset).toArray = ls at hl ⊢
  have hl : lv_has ls 4 [(0, .ref h0), (1, .int p1), (2, .int p2), (3, .int p3)] := hl
  rw [F_X1_hear] at hF
  refine lv_aload_n hx hb dX1_hear_0 rfl (lv_at hl 0 rfl) ?_
  refine lv_iload_n hx hb dX1_hear_1 rfl (lv_at hl 1 rfl) ?_
  have hPc := hP.sub (ws' := (cwT cI h0 h1 h2 h3 h4 h5 tW)) [0, 1, 2, 3, 4, 5] rfl
  have hDc := hD.sub (ws' := (cwT cI h0 h1 h2 h3 h4 h5 tW)) [0, 1, 2, 3, 4, 5] (by decide) rfl
  have hFc := va_free (wc := (cwT cI h0 h1 h2 h3 h4 h5 tW)) hD hS hA [0, 1, 2, 3, 4, 5] rfl
  refine bd hF (fun r2 hG hF => ?_)
  refine va_calli (va_runV (As := [.int p1]) (rest := []) ⟨hx, hb, hml, hown, hts⟩ (c_X1_isLiving l dC dI cI sf s.heap.size N h0 h1 h2 h3 h4 h5 tW p1 r2 hG) (cwV 1 hts gX1_hear_X1_isLiving rfl rfl rfl (by decide +kernel) ⟨Nat.le_of_ble_eq_true rfl, Nat.le_of_ble_eq_true rfl⟩) ⟨fun a U g mk q => ⟨q.1, q.2.call⟩, va_recv hK hP (ci := 1) (q0 := 0) rfl rfl, fun U hU hW => ⟨rfl, PB.of hU hW hPc hK hDc hNN hSF hS hFc⟩⟩ rfl rfl hl.1 rfl (lv_room (Nat.le_of_ble_eq_true rfl)) dX1_hear_2 ⟨Nat.le_of_ble_eq_true rfl, Nat.le_of_ble_eq_true rfl⟩) hS (fun q _ h => hFc q h) hFc (fun z_ u_ t H locs ht hvm hw hB hz1 hk1 hS => ?_)
  subst z_
  obtain ⟨hP1, hD1⟩ := hB
  rw [ht] at hP1
  have hJ := vb_join (ws' := (cwT cI h0 h1 h2 h3 h4 h5 tW)) hP hD [0, 1, 2, 3, 4, 5] [] [0, 1, 2, 3, 4, 5] rfl rfl (by decide) (by decide) hk1 hFc hP1 hD1 rfl (by decide) rfl
  clear hP hD hPc hDc hFc hP1 hD1 hk1 hz1 ht hvm hG
  obtain ⟨hP, hD⟩ := hJ
  refine lv_if_eq (tgt := 24) hx hb dX1_hear_5 (by decide) (fun hc => ?_) (fun hc => ?_)
  · have hF := ift hc hF
    refine lv_iconst (v := nI 0) hx hb dX1_hear_24 (by decide) ?_
    obtain rfl := Option.some.inj hF
    exact W.zret (v := (nI 0)) (ty := .boolean) hx hb hr (by decide +kernel) (fun t ht hW => ⟨⟨(nI 0), (), rfl, rfl, QB.of ht hP hD⟩, hS.F ht⟩) hS.2.2 dX1_hear_25
  · have hF := iff_ hc hF
    refine lv_iload_n hx hb dX1_hear_8 rfl (lv_at hl 2 rfl) ?_
    have hPc := hP.sub (ws' := ([] : va_W)) [] rfl
    have hDc := hD.sub (ws' := ([] : va_W)) [] (by decide) rfl
    have hFc := va_free (wc := ([] : va_W)) hD hS hA [] rfl
    refine bd hF (fun r9 hG hF => ?_)
    refine va_calli (va_runSN (As := [.int p2]) (rest := []) ⟨hx, hb, hml, hown, hts⟩ (c_X2_noTopic l dC dI cI sf H.size N  p2 r9 hG) ⟨va_cnB 1 hts gX1_hear_X2_noTopic_n56 rfl rfl rfl (hNN.at 6 rfl) (hts (.initialized RX2) (List.mem_of_getElem? (i := 9) rfl)) (by decide +kernel) ⟨Nat.le_of_ble_eq_true rfl, Nat.le_of_ble_eq_true rfl⟩, hts (.static yX2_noTopic) (List.mem_of_getElem? (i := 8) rfl), trivial⟩ ⟨fun a U g mk q => ⟨q.1, q.2.call⟩, fun U hU hW => ⟨rfl, PB.of hU hW hPc hK hDc hNN hSF hS hFc⟩⟩ rfl rfl hl.1 rfl (lv_room (Nat.le_of_ble_eq_true rfl)) dX1_hear_9 ⟨Nat.le_of_ble_eq_true rfl, Nat.le_of_ble_eq_true rfl⟩) hS (fun q _ h => hFc q h) hFc (fun z_ u_ t H locs ht hvm hw hB hz1 hk1 hS => ?_)
    subst z_
    obtain ⟨hP1, hD1⟩ := hB
    rw [ht] at hP1
    have hJ := vb_join (ws' := (cwT cI h0 h1 h2 h3 h4 h5 tW)) hP hD [] [0, 1, 2, 3, 4, 5] [0, 1, 2, 3, 4, 5] rfl rfl (by decide) (by decide) hk1 hFc hP1 hD1 rfl (by decide) rfl
    clear hP hD hPc hDc hFc hP1 hD1 hk1 hz1 ht hvm hG
    obtain ⟨hP, hD⟩ := hJ
    refine lv_if_ne (tgt := 24) hx hb dX1_hear_12 (by decide) (fun hc => ?_) (fun hc => ?_)
    · have hF := ift hc hF
      refine lv_iconst (v := nI 0) hx hb dX1_hear_24 (by decide) ?_
      obtain rfl := Option.some.inj hF
      exact W.zret (v := (nI 0)) (ty := .boolean) hx hb hr (by decide +kernel) (fun t ht hW => ⟨⟨(nI 0), (), rfl, rfl, QB.of ht hP hD⟩, hS.F ht⟩) hS.2.2 dX1_hear_25
    · have hF := iff_ (fun h => h hc) hF
      refine lv_iload_n hx hb dX1_hear_15 rfl (lv_at hl 3 rfl) ?_
      refine lv_if_lt (tgt := 24) hx hb dX1_hear_16 (by decide) (fun hc => ?_) (fun hc => ?_)
      · have hF := ift hc hF
        refine lv_iconst (v := nI 0) hx hb dX1_hear_24 (by decide) ?_
        obtain rfl := Option.some.inj hF
        exact W.zret (v := (nI 0)) (ty := .boolean) hx hb hr (by decide +kernel) (fun t ht hW => ⟨⟨(nI 0), (), rfl, rfl, QB.of ht hP hD⟩, hS.F ht⟩) hS.2.2 dX1_hear_25
      · have hF := iff_ hc hF
        refine lv_iload_n hx hb dX1_hear_19 rfl (lv_at hl 3 rfl) ?_
        refine lv_iconst (v := nI 3) hx hb dX1_hear_20 (by decide) ?_
        refine lv_icmp_lt (tgt := 26) hx hb dX1_hear_21 (by decide) (fun hc => ?_) (fun hc => ?_)
        · have hF := ift hc hF
          refine lv_aload_n hx hb dX1_hear_26 rfl (lv_at hl 0 rfl) ?_
          refine lv_iload_n hx hb dX1_hear_27 rfl (lv_at hl 1 rfl) ?_
          refine lv_iload_n hx hb dX1_hear_28 rfl (lv_at hl 2 rfl) ?_
          refine lv_iload_n hx hb dX1_hear_29 rfl (lv_at hl 3 rfl) ?_
          have hPc := hP.sub (ws' := (cwT cI h0 h1 h2 h3 h4 h5 tW)) [0, 1, 2, 3, 4, 5] rfl
          have hDc := hD.sub (ws' := (cwT cI h0 h1 h2 h3 h4 h5 tW)) [0, 1, 2, 3, 4, 5] (by decide) rfl
          have hFc := va_free (wc := (cwT cI h0 h1 h2 h3 h4 h5 tW)) hD hS hA [0, 1, 2, 3, 4, 5] rfl
          refine bd hF (fun r30 hG hF => ?_)
          refine va_callv (va_runV (As := [.int p1, .int p2, .int p3]) (rest := []) ⟨hx, hb, hml, hown, hts⟩ (c_X1_put l dC dI cI sf H.size N h0 h1 h2 h3 h4 h5 tW p1 p2 p3 r30 hG) (cwV 3 hts gX1_hear_X1_put rfl rfl rfl (by decide +kernel) ⟨Nat.le_of_ble_eq_true rfl, Nat.le_of_ble_eq_true rfl⟩) ⟨fun a U g mk q => ⟨q.1, q.2.call⟩, va_recv hK hP (ci := 1) (q0 := 0) rfl rfl, fun U hU hW => ⟨rfl, PB.of hU hW hPc hK hDc hNN hSF hS hFc⟩⟩ rfl rfl hl.1 rfl (lv_room (Nat.le_of_ble_eq_true rfl)) dX1_hear_30 ⟨Nat.le_of_ble_eq_true rfl, Nat.le_of_ble_eq_true rfl⟩) hS (fun q _ h => hFc q h) hFc (fun u_ t H locs ht hvm hw hB hz1 hk1 hS => ?_)
          obtain ⟨hP1, hD1⟩ := hB
          rw [ht] at hP1
          have hJ := vb_join (ws' := (cwT cI h0 h1 h2 h3 h4 h5 r30)) hP hD [0, 1, 2, 3, 4, 5] [] [0, 1, 2, 3, 4, 5] rfl rfl (by decide) (by decide) hk1 hFc hP1 hD1 rfl (by decide) rfl
          clear hP hD hPc hDc hFc hP1 hD1 hk1 hz1 ht hvm hG
          obtain ⟨hP, hD⟩ := hJ
          refine lv_iconst (v := nI 1) hx hb dX1_hear_33 (by decide) ?_
          obtain rfl := Option.some.inj hF
          exact W.zret (v := (nI 1)) (ty := .boolean) hx hb hr (by decide +kernel) (fun t ht hW => ⟨⟨(nI 1), (), rfl, rfl, QB.of ht hP hD⟩, hS.F ht⟩) hS.2.2 dX1_hear_34
        · have hF := iff_ hc hF
          refine lv_iconst (v := nI 0) hx hb dX1_hear_24 (by decide) ?_
          obtain rfl := Option.some.inj hF
          exact W.zret (v := (nI 0)) (ty := .boolean) hx hb hr (by decide +kernel) (fun t ht hW => ⟨⟨(nI 0), (), rfl, rfl, QB.of ht hP hD⟩, hS.F ht⟩) hS.2.2 dX1_hear_25
theorem inw_X1_settle_X1 : ∀ w ∈ u_ws RX1 TX1 8, w ∈ wsX1_settle := fun _ h => List.mem_cons_of_mem _ (List.mem_append_right _ h)
set_option maxHeartbeats 4000000 in
set_option maxRecDepth 100000 in
theorem c_X1_settle (l : Launch) (dC : Nat → ClassId) (dI : Nat → Nat → Nat) (cI : ClassId) (sf : SFP) (sz : Nat) (N : Nat) (h0 h1 h2 h3 h4 h5 : Nat) (tW : TownS) (p1 : Int32) (p2 : Int32) (p3 : Int32) (r : (Int32 × TownS)) (hF : F_X1_settle N tW p1 p2 p3 = some r) : Met l yX1_settle wsX1_settle ({ frames := 0, cells := 0, slots := 0, locals := 0 }) (va_Pc [.ref h0, .int p1, .int p2, .int p3] (PB (dC, dI) cI (cwT cI h0 h1 h2 h3 h4 h5 tW) sz sf)) (va_Qi (fun (z : Int32) (_ : Unit) => z = r.1) (fun _ t => QB (dC, dI) (cwT cI h0 h1 h2 h3 h4 h5 r.2) (va_A (cwT cI h0 h1 h2 h3 h4 h5 tW) sz) t) (va_A (cwT cI h0 h1 h2 h3 h4 h5 tW) sz)) 0 0 (va_A (cwT cI h0 h1 h2 h3 h4 h5 tW) sz) := by
  refine Met.ofW (cc := cX1_settle) (maxL := 4) (ret := (some .boolean)) (by decide) rfl ?_
  intro p e s m args below meth c s₁ B hml hv
  obtain ⟨rfl, hsz, hP, hK, hD0, hNN, hSF⟩ := hv
  have hx := B.exec
  have hb := B.bytes
  have hr := B.returns
  have hts := atoms_spec (ws := wsX1_settle) B.pre
  have hown : s.vm.findClass RX1 = some m.cls := findClass_of_methodNamed B.named
  have hlocks := B.notSynchronized
  subst hsz
  have hD := hD0.self (sz := s.heap.size)
  generalize hAe : va_A (cwT cI h0 h1 h2 h3 h4 h5 tW) s.heap.size = A at hD hSF ⊢
  have hA : ∀ q : Nat, s.heap.size ≤ q → A q := fun q h => by rw [← hAe]; exact Or.inr h
  clear hAe hD0
  have hS : va_S A s.heap s.heap [] := va_S.rf
  have hl := lv_entry ([.ref h0, .int p1, .int p2, .int p3]) (n := 4) (Nat.le_of_ble_eq_true rfl)
  rw [lg_entry_eq]
  generalize (lg_sl ([.ref h0, .int p1, .int p2, .int p3]) ++ List.replicate (4 - (lg_sl ([.ref h0, .int p1, .int p2, .int p3])).length) Slot.unset).toArray = ls at hl ⊢
  have hl : lv_has ls 4 [(0, .ref h0), (1, .int p1), (2, .int p2), (3, .int p3)] := hl
  rw [F_X1_settle] at hF
  refine lv_aload_n hx hb dX1_settle_0 rfl (lv_at hl 0 rfl) ?_
  refine va_get (D := (dC, dI)) (ci := 1) (v := .int tW.2.2.2.2.2.1) (C := RX1) (T := TX1) (N := 8) hx hb hts inw_X1_settle_X1 hown hK hP 0 rfl rfl 5 (by decide) (hts (.fieldLink RX1 27 "DeniedOfEachOther$Town" "size" "I") (List.mem_of_getElem? (i := 1) rfl)) (fun _ h9 => h9) rfl dX1_settle_1 ?_
  refine lv_bipush (v := nI 6) hx hb dX1_settle_4 (by decide) ?_
  refine lv_icmp_lt (tgt := 11) hx hb dX1_settle_6 (by decide) (fun hc => ?_) (fun hc => ?_)
  · have hF := ift hc hF
    refine lv_aload_n hx hb dX1_settle_11 rfl (lv_at hl 0 rfl) ?_
    refine va_get (D := (dC, dI)) (ci := 1) (v := .ref h1) (C := RX1) (T := TX1) (N := 8) hx hb hts inw_X1_settle_X1 hown hK hP 0 rfl rfl 0 (by decide) (hts (.fieldLink RX1 9 "DeniedOfEachOther$Town" "kind" "[I") (List.mem_of_getElem? (i := 2) rfl)) (fun _ h9 => h9) rfl dX1_settle_12 ?_
    refine lv_aload_n hx hb dX1_settle_15 rfl (lv_at hl 0 rfl) ?_
    refine va_get (D := (dC, dI)) (ci := 1) (v := .int tW.2.2.2.2.2.1) (C := RX1) (T := TX1) (N := 8) hx hb hts inw_X1_settle_X1 hown hK hP 0 rfl rfl 5 (by decide) (hts (.fieldLink RX1 27 "DeniedOfEachOther$Town" "size" "I") (List.mem_of_getElem? (i := 1) rfl)) (fun _ h9 => h9) rfl dX1_settle_16 ?_
    refine lv_iload_n hx hb dX1_settle_19 rfl (lv_at hl 1 rfl) ?_
    refine cki hF (fun hi hF => ?_)
    refine va_iast (D := (dC, dI)) hx hb hK hP hD hS 1 0 rfl rfl hi dX1_settle_20 (fun H locs hP hD hS => ?_)
    have hP : va_P (dC, dI) vwCl (cwT cI h0 h1 h2 h3 h4 h5 ((upd tW.1 tW.2.2.2.2.2.1.toNatClampNeg p1), tW.2.1, tW.2.2.1, tW.2.2.2.1, tW.2.2.2.2.1, tW.2.2.2.2.2.1, tW.2.2.2.2.2.2.1, tW.2.2.2.2.2.2.2)) H := hP
    have hD : va_D A (cwT cI h0 h1 h2 h3 h4 h5 ((upd tW.1 tW.2.2.2.2.2.1.toNatClampNeg p1), tW.2.1, tW.2.2.1, tW.2.2.2.1, tW.2.2.2.2.1, tW.2.2.2.2.2.1, tW.2.2.2.2.2.2.1, tW.2.2.2.2.2.2.2)) := hD
    refine lv_aload_n hx hb dX1_settle_21 rfl (lv_at hl 0 rfl) ?_
    refine va_get (D := (dC, dI)) (ci := 1) (v := .ref h2) (C := RX1) (T := TX1) (N := 8) hx hb hts inw_X1_settle_X1 hown hK hP 0 rfl rfl 1 (by decide) (hts (.fieldLink RX1 15 "DeniedOfEachOther$Town" "figure" "[I") (List.mem_of_getElem? (i := 3) rfl)) (fun _ h9 => h9) rfl dX1_settle_22 ?_
    refine lv_aload_n hx hb dX1_settle_25 rfl (lv_at hl 0 rfl) ?_
    refine va_get (D := (dC, dI)) (ci := 1) (v := .int tW.2.2.2.2.2.1) (C := RX1) (T := TX1) (N := 8) hx hb hts inw_X1_settle_X1 hown hK hP 0 rfl rfl 5 (by decide) (hts (.fieldLink RX1 27 "DeniedOfEachOther$Town" "size" "I") (List.mem_of_getElem? (i := 1) rfl)) (fun _ h9 => h9) rfl dX1_settle_26 ?_
    refine lv_iload_n hx hb dX1_settle_29 rfl (lv_at hl 2 rfl) ?_
    refine cki hF (fun hi hF => ?_)
    refine va_iast (D := (dC, dI)) hx hb hK hP hD hS 2 0 rfl rfl hi dX1_settle_30 (fun H locs hP hD hS => ?_)
    have hP : va_P (dC, dI) vwCl (cwT cI h0 h1 h2 h3 h4 h5 ((upd tW.1 tW.2.2.2.2.2.1.toNatClampNeg p1), (upd tW.2.1 tW.2.2.2.2.2.1.toNatClampNeg p2), tW.2.2.1, tW.2.2.2.1, tW.2.2.2.2.1, tW.2.2.2.2.2.1, tW.2.2.2.2.2.2.1, tW.2.2.2.2.2.2.2)) H := hP
    have hD : va_D A (cwT cI h0 h1 h2 h3 h4 h5 ((upd tW.1 tW.2.2.2.2.2.1.toNatClampNeg p1), (upd tW.2.1 tW.2.2.2.2.2.1.toNatClampNeg p2), tW.2.2.1, tW.2.2.2.1, tW.2.2.2.2.1, tW.2.2.2.2.2.1, tW.2.2.2.2.2.2.1, tW.2.2.2.2.2.2.2)) := hD
    refine lv_aload_n hx hb dX1_settle_31 rfl (lv_at hl 0 rfl) ?_
    refine va_get (D := (dC, dI)) (ci := 1) (v := .ref h3) (C := RX1) (T := TX1) (N := 8) hx hb hts inw_X1_settle_X1 hown hK hP 0 rfl rfl 2 (by decide) (hts (.fieldLink RX1 18 "DeniedOfEachOther$Town" "age" "[I") (List.mem_of_getElem? (i := 4) rfl)) (fun _ h9 => h9) rfl dX1_settle_32 ?_
    refine lv_aload_n hx hb dX1_settle_35 rfl (lv_at hl 0 rfl) ?_
    refine va_get (D := (dC, dI)) (ci := 1) (v := .int tW.2.2.2.2.2.1) (C := RX1) (T := TX1) (N := 8) hx hb hts inw_X1_settle_X1 hown hK hP 0 rfl rfl 5 (by decide) (hts (.fieldLink RX1 27 "DeniedOfEachOther$Town" "size" "I") (List.mem_of_getElem? (i := 1) rfl)) (fun _ h9 => h9) rfl dX1_settle_36 ?_
    refine lv_iload_n hx hb dX1_settle_39 rfl (lv_at hl 3 rfl) ?_
    refine cki hF (fun hi hF => ?_)
    refine va_iast (D := (dC, dI)) hx hb hK hP hD hS 3 0 rfl rfl hi dX1_settle_40 (fun H locs hP hD hS => ?_)
    have hP : va_P (dC, dI) vwCl (cwT cI h0 h1 h2 h3 h4 h5 ((upd tW.1 tW.2.2.2.2.2.1.toNatClampNeg p1), (upd tW.2.1 tW.2.2.2.2.2.1.toNatClampNeg p2), (upd tW.2.2.1 tW.2.2.2.2.2.1.toNatClampNeg p3), tW.2.2.2.1, tW.2.2.2.2.1, tW.2.2.2.2.2.1, tW.2.2.2.2.2.2.1, tW.2.2.2.2.2.2.2)) H := hP
    have hD : va_D A (cwT cI h0 h1 h2 h3 h4 h5 ((upd tW.1 tW.2.2.2.2.2.1.toNatClampNeg p1), (upd tW.2.1 tW.2.2.2.2.2.1.toNatClampNeg p2), (upd tW.2.2.1 tW.2.2.2.2.2.1.toNatClampNeg p3), tW.2.2.2.1, tW.2.2.2.2.1, tW.2.2.2.2.2.1, tW.2.2.2.2.2.2.1, tW.2.2.2.2.2.2.2)) := hD
    refine lv_aload_n hx hb dX1_settle_41 rfl (lv_at hl 0 rfl) ?_
    refine lv_dup hx hb dX1_settle_42 rfl ?_
    refine va_get (D := (dC, dI)) (ci := 1) (v := .int tW.2.2.2.2.2.2.1) (C := RX1) (T := TX1) (N := 8) hx hb hts inw_X1_settle_X1 hown hK hP 0 rfl rfl 6 (by decide) (hts (.fieldLink RX1 31 "DeniedOfEachOther$Town" "living" "I") (List.mem_of_getElem? (i := 5) rfl)) (fun _ h9 => h9) rfl dX1_settle_43 ?_
    refine lv_iconst (v := nI 1) hx hb dX1_settle_46 (by decide) ?_
    refine lv_aload_n hx hb dX1_settle_47 rfl (lv_at hl 0 rfl) ?_
    refine va_get (D := (dC, dI)) (ci := 1) (v := .int tW.2.2.2.2.2.1) (C := RX1) (T := TX1) (N := 8) hx hb hts inw_X1_settle_X1 hown hK hP 0 rfl rfl 5 (by decide) (hts (.fieldLink RX1 27 "DeniedOfEachOther$Town" "size" "I") (List.mem_of_getElem? (i := 1) rfl)) (fun _ h9 => h9) rfl dX1_settle_48 ?_
    refine lv_ishl hx hb dX1_settle_51 ?_
    refine lv_ior hx hb dX1_settle_52 ?_
    refine va_put (D := (dC, dI)) (ci := 1) (v := .int (tW.2.2.2.2.2.2.1 ||| ((nI 1) <<< (tW.2.2.2.2.2.1 &&& 31)))) (ty := .int) (C := RX1) (T := TX1) (N := 8) hx hb hts inw_X1_settle_X1 tyX1 tyX1_ok nmX1 hown hK hP hD hS 0 rfl rfl 6 (by decide) (hts (.fieldLink RX1 31 "DeniedOfEachOther$Town" "living" "I") (List.mem_of_getElem? (i := 5) rfl)) (fun _ h9 => h9) rfl (by decide +kernel) rfl rfl (Nat.le_of_ble_eq_true rfl) dX1_settle_53 (fun H locs hP hD hS => ?_)
    have hP : va_P (dC, dI) vwCl (cwT cI h0 h1 h2 h3 h4 h5 ((upd tW.1 tW.2.2.2.2.2.1.toNatClampNeg p1), (upd tW.2.1 tW.2.2.2.2.2.1.toNatClampNeg p2), (upd tW.2.2.1 tW.2.2.2.2.2.1.toNatClampNeg p3), tW.2.2.2.1, tW.2.2.2.2.1, tW.2.2.2.2.2.1, (tW.2.2.2.2.2.2.1 ||| ((nI 1) <<< (tW.2.2.2.2.2.1 &&& 31))), tW.2.2.2.2.2.2.2)) H := hP
    have hD : va_D A (cwT cI h0 h1 h2 h3 h4 h5 ((upd tW.1 tW.2.2.2.2.2.1.toNatClampNeg p1), (upd tW.2.1 tW.2.2.2.2.2.1.toNatClampNeg p2), (upd tW.2.2.1 tW.2.2.2.2.2.1.toNatClampNeg p3), tW.2.2.2.1, tW.2.2.2.2.1, tW.2.2.2.2.2.1, (tW.2.2.2.2.2.2.1 ||| ((nI 1) <<< (tW.2.2.2.2.2.1 &&& 31))), tW.2.2.2.2.2.2.2)) := hD
    refine lv_aload_n hx hb dX1_settle_56 rfl (lv_at hl 0 rfl) ?_
    refine lv_dup hx hb dX1_settle_57 rfl ?_
    refine va_get (D := (dC, dI)) (ci := 1) (v := .int tW.2.2.2.2.2.1) (C := RX1) (T := TX1) (N := 8) hx hb hts inw_X1_settle_X1 hown hK hP 0 rfl rfl 5 (by decide) (hts (.fieldLink RX1 27 "DeniedOfEachOther$Town" "size" "I") (List.mem_of_getElem? (i := 1) rfl)) (fun _ h9 => h9) rfl dX1_settle_58 ?_
    refine lv_iconst (v := nI 1) hx hb dX1_settle_61 (by decide) ?_
    refine lv_iadd hx hb dX1_settle_62 ?_
    refine va_put (D := (dC, dI)) (ci := 1) (v := .int (tW.2.2.2.2.2.1 + (nI 1))) (ty := .int) (C := RX1) (T := TX1) (N := 8) hx hb hts inw_X1_settle_X1 tyX1 tyX1_ok nmX1 hown hK hP hD hS 0 rfl rfl 5 (by decide) (hts (.fieldLink RX1 27 "DeniedOfEachOther$Town" "size" "I") (List.mem_of_getElem? (i := 1) rfl)) (fun _ h9 => h9) rfl (by decide +kernel) rfl rfl (Nat.le_of_ble_eq_true rfl) dX1_settle_63 (fun H locs hP hD hS => ?_)
    have hP : va_P (dC, dI) vwCl (cwT cI h0 h1 h2 h3 h4 h5 ((upd tW.1 tW.2.2.2.2.2.1.toNatClampNeg p1), (upd tW.2.1 tW.2.2.2.2.2.1.toNatClampNeg p2), (upd tW.2.2.1 tW.2.2.2.2.2.1.toNatClampNeg p3), tW.2.2.2.1, tW.2.2.2.2.1, (tW.2.2.2.2.2.1 + (nI 1)), (tW.2.2.2.2.2.2.1 ||| ((nI 1) <<< (tW.2.2.2.2.2.1 &&& 31))), tW.2.2.2.2.2.2.2)) H := hP
    have hD : va_D A (cwT cI h0 h1 h2 h3 h4 h5 ((upd tW.1 tW.2.2.2.2.2.1.toNatClampNeg p1), (upd tW.2.1 tW.2.2.2.2.2.1.toNatClampNeg p2), (upd tW.2.2.1 tW.2.2.2.2.2.1.toNatClampNeg p3), tW.2.2.2.1, tW.2.2.2.2.1, (tW.2.2.2.2.2.1 + (nI 1)), (tW.2.2.2.2.2.2.1 ||| ((nI 1) <<< (tW.2.2.2.2.2.1 &&& 31))), tW.2.2.2.2.2.2.2)) := hD
    refine lv_iconst (v := nI 1) hx hb dX1_settle_66 (by decide) ?_
    obtain rfl := Option.some.inj hF
    exact W.zret (v := (nI 1)) (ty := .boolean) hx hb hr (by decide +kernel) (fun t ht hW => ⟨⟨(nI 1), (), rfl, rfl, QB.of ht hP hD⟩, hS.F ht⟩) hS.2.2 dX1_settle_67
  · have hF := iff_ hc hF
    refine lv_iconst (v := nI 0) hx hb dX1_settle_9 (by decide) ?_
    obtain rfl := Option.some.inj hF
    exact W.zret (v := (nI 0)) (ty := .boolean) hx hb hr (by decide +kernel) (fun t ht hW => ⟨⟨(nI 0), (), rfl, rfl, QB.of ht hP hD⟩, hS.F ht⟩) hS.2.2 dX1_settle_10
theorem inw_X1_bury_X1 : ∀ w ∈ u_ws RX1 TX1 8, w ∈ wsX1_bury := fun _ h => List.mem_cons_of_mem _ (List.mem_append_right _ h)
set_option maxHeartbeats 4000000 in
set_option maxRecDepth 100000 in
theorem c_X1_bury (l : Launch) (dC : Nat → ClassId) (dI : Nat → Nat → Nat) (cI : ClassId) (sf : SFP) (sz : Nat) (N : Nat) (h0 h1 h2 h3 h4 h5 : Nat) (tW : TownS) (p1 : Int32) (r : (Int32 × TownS)) (hF : F_X1_bury N tW p1 = some r) : Met l yX1_bury wsX1_bury ({ frames := 1, cells := 0, slots := 0, locals := 21 }) (va_Pc [.ref h0, .int p1] (PB (dC, dI) cI (cwT cI h0 h1 h2 h3 h4 h5 tW) sz sf)) (va_Qi (fun (z : Int32) (_ : Unit) => z = r.1) (fun _ t => QB (dC, dI) (cwT cI h0 h1 h2 h3 h4 h5 r.2) (va_A (cwT cI h0 h1 h2 h3 h4 h5 tW) sz) t) (va_A (cwT cI h0 h1 h2 h3 h4 h5 tW) sz)) 0 0 (va_A (cwT cI h0 h1 h2 h3 h4 h5 tW) sz) := by
  refine Met.ofW (cc := cX1_bury) (maxL := 2) (ret := (some .boolean)) (by decide) rfl ?_
  intro p e s m args below meth c s₁ B hml hv
  obtain ⟨rfl, hsz, hP, hK, hD0, hNN, hSF⟩ := hv
  have hx := B.exec
  have hb := B.bytes
  have hr := B.returns
  have hts := atoms_spec (ws := wsX1_bury) B.pre
  have hown : s.vm.findClass RX1 = some m.cls := findClass_of_methodNamed B.named
  have hlocks := B.notSynchronized
  subst hsz
  have hD := hD0.self (sz := s.heap.size)
  generalize hAe : va_A (cwT cI h0 h1 h2 h3 h4 h5 tW) s.heap.size = A at hD hSF ⊢
  have hA : ∀ q : Nat, s.heap.size ≤ q → A q := fun q h => by rw [← hAe]; exact Or.inr h
  clear hAe hD0
  have hS : va_S A s.heap s.heap [] := va_S.rf
  have hl := lv_entry ([.ref h0, .int p1]) (n := 2) (Nat.le_of_ble_eq_true rfl)
  rw [lg_entry_eq]
  generalize (lg_sl ([.ref h0, .int p1]) ++ List.replicate (2 - (lg_sl ([.ref h0, .int p1])).length) Slot.unset).toArray = ls at hl ⊢
  have hl : lv_has ls 2 [(0, .ref h0), (1, .int p1)] := hl
  rw [F_X1_bury] at hF
  refine lv_aload_n hx hb dX1_bury_0 rfl (lv_at hl 0 rfl) ?_
  refine lv_iload_n hx hb dX1_bury_1 rfl (lv_at hl 1 rfl) ?_
  have hPc := hP.sub (ws' := (cwT cI h0 h1 h2 h3 h4 h5 tW)) [0, 1, 2, 3, 4, 5] rfl
  have hDc := hD.sub (ws' := (cwT cI h0 h1 h2 h3 h4 h5 tW)) [0, 1, 2, 3, 4, 5] (by decide) rfl
  have hFc := va_free (wc := (cwT cI h0 h1 h2 h3 h4 h5 tW)) hD hS hA [0, 1, 2, 3, 4, 5] rfl
  refine bd hF (fun r2 hG hF => ?_)
  refine va_calli (va_runV (As := [.int p1]) (rest := []) ⟨hx, hb, hml, hown, hts⟩ (c_X1_isLiving l dC dI cI sf s.heap.size N h0 h1 h2 h3 h4 h5 tW p1 r2 hG) (cwV 1 hts gX1_bury_X1_isLiving rfl rfl rfl (by decide +kernel) ⟨Nat.le_of_ble_eq_true rfl, Nat.le_of_ble_eq_true rfl⟩) ⟨fun a U g mk q => ⟨q.1, q.2.call⟩, va_recv hK hP (ci := 1) (q0 := 0) rfl rfl, fun U hU hW => ⟨rfl, PB.of hU hW hPc hK hDc hNN hSF hS hFc⟩⟩ rfl rfl hl.1 rfl (lv_room (Nat.le_of_ble_eq_true rfl)) dX1_bury_2 ⟨Nat.le_of_ble_eq_true rfl, Nat.le_of_ble_eq_true rfl⟩) hS (fun q _ h => hFc q h) hFc (fun z_ u_ t H locs ht hvm hw hB hz1 hk1 hS => ?_)
  subst z_
  obtain ⟨hP1, hD1⟩ := hB
  rw [ht] at hP1
  have hJ := vb_join (ws' := (cwT cI h0 h1 h2 h3 h4 h5 tW)) hP hD [0, 1, 2, 3, 4, 5] [] [0, 1, 2, 3, 4, 5] rfl rfl (by decide) (by decide) hk1 hFc hP1 hD1 rfl (by decide) rfl
  clear hP hD hPc hDc hFc hP1 hD1 hk1 hz1 ht hvm hG
  obtain ⟨hP, hD⟩ := hJ
  refine lv_if_ne (tgt := 10) hx hb dX1_bury_5 (by decide) (fun hc => ?_) (fun hc => ?_)
  · have hF := ift hc hF
    refine lv_aload_n hx hb dX1_bury_10 rfl (lv_at hl 0 rfl) ?_
    refine lv_dup hx hb dX1_bury_11 rfl ?_
    refine va_get (D := (dC, dI)) (ci := 1) (v := .int tW.2.2.2.2.2.2.1) (C := RX1) (T := TX1) (N := 8) hx hb hts inw_X1_bury_X1 hown hK hP 0 rfl rfl 6 (by decide) (hts (.fieldLink RX1 31 "DeniedOfEachOther$Town" "living" "I") (List.mem_of_getElem? (i := 1) rfl)) (fun _ h9 => h9) rfl dX1_bury_12 ?_
    refine lv_iconst (v := nI 1) hx hb dX1_bury_15 (by decide) ?_
    refine lv_iload_n hx hb dX1_bury_16 rfl (lv_at hl 1 rfl) ?_
    refine lv_ishl hx hb dX1_bury_17 ?_
    refine lv_iconst (v := (-1)) hx hb dX1_bury_18 (by decide) ?_
    refine lv_ixor hx hb dX1_bury_19 ?_
    refine lv_iand hx hb dX1_bury_20 ?_
    refine va_put (D := (dC, dI)) (ci := 1) (v := .int (tW.2.2.2.2.2.2.1 &&& (((nI 1) <<< (p1 &&& 31)) ^^^ (-1)))) (ty := .int) (C := RX1) (T := TX1) (N := 8) hx hb hts inw_X1_bury_X1 tyX1 tyX1_ok nmX1 hown hK hP hD hS 0 rfl rfl 6 (by decide) (hts (.fieldLink RX1 31 "DeniedOfEachOther$Town" "living" "I") (List.mem_of_getElem? (i := 1) rfl)) (fun _ h9 => h9) rfl (by decide +kernel) rfl rfl (Nat.le_of_ble_eq_true rfl) dX1_bury_21 (fun H locs hP hD hS => ?_)
    have hP : va_P (dC, dI) vwCl (cwT cI h0 h1 h2 h3 h4 h5 (tW.1, tW.2.1, tW.2.2.1, tW.2.2.2.1, tW.2.2.2.2.1, tW.2.2.2.2.2.1, (tW.2.2.2.2.2.2.1 &&& (((nI 1) <<< (p1 &&& 31)) ^^^ (-1))), tW.2.2.2.2.2.2.2)) H := hP
    have hD : va_D A (cwT cI h0 h1 h2 h3 h4 h5 (tW.1, tW.2.1, tW.2.2.1, tW.2.2.2.1, tW.2.2.2.2.1, tW.2.2.2.2.2.1, (tW.2.2.2.2.2.2.1 &&& (((nI 1) <<< (p1 &&& 31)) ^^^ (-1))), tW.2.2.2.2.2.2.2)) := hD
    refine lv_iconst (v := nI 1) hx hb dX1_bury_24 (by decide) ?_
    obtain rfl := Option.some.inj hF
    exact W.zret (v := (nI 1)) (ty := .boolean) hx hb hr (by decide +kernel) (fun t ht hW => ⟨⟨(nI 1), (), rfl, rfl, QB.of ht hP hD⟩, hS.F ht⟩) hS.2.2 dX1_bury_25
  · have hF := iff_ (fun h => h hc) hF
    refine lv_iconst (v := nI 0) hx hb dX1_bury_8 (by decide) ?_
    obtain rfl := Option.some.inj hF
    exact W.zret (v := (nI 0)) (ty := .boolean) hx hb hr (by decide +kernel) (fun t ht hW => ⟨⟨(nI 0), (), rfl, rfl, QB.of ht hP hD⟩, hS.F ht⟩) hS.2.2 dX1_bury_9
theorem inw_X1_growOlder_X1 : ∀ w ∈ u_ws RX1 TX1 8, w ∈ wsX1_growOlder := fun _ h => List.mem_cons_of_mem _ (List.mem_append_right _ h)
set_option maxHeartbeats 4000000 in
set_option maxRecDepth 100000 in
theorem c_X1_growOlder (l : Launch) (dC : Nat → ClassId) (dI : Nat → Nat → Nat) (cI : ClassId) (sf : SFP) (sz : Nat) (N : Nat) (h0 h1 h2 h3 h4 h5 : Nat) (tW : TownS) (p1 : Int32) (r : TownS) (hF : F_X1_growOlder N tW p1 = some r) : Met l yX1_growOlder wsX1_growOlder ({ frames := 1, cells := 0, slots := 0, locals := 40 }) (va_Pc [.ref h0, .int p1] (PB (dC, dI) cI (cwT cI h0 h1 h2 h3 h4 h5 tW) sz sf)) (va_Qv (fun _ : Unit => True) (fun _ t => QB (dC, dI) (cwT cI h0 h1 h2 h3 h4 h5 r) (va_A (cwT cI h0 h1 h2 h3 h4 h5 tW) sz) t) (va_A (cwT cI h0 h1 h2 h3 h4 h5 tW) sz)) 0 0 (va_A (cwT cI h0 h1 h2 h3 h4 h5 tW) sz) := by
  refine Met.ofW (cc := cX1_growOlder) (maxL := 3) (ret := none) (by decide) rfl ?_
  intro p e s m args below meth c s₁ B hml hv
  obtain ⟨rfl, hsz, hP, hK, hD0, hNN, hSF⟩ := hv
  have hx := B.exec
  have hb := B.bytes
  have hr := B.returns
  have hts := atoms_spec (ws := wsX1_growOlder) B.pre
  have hown : s.vm.findClass RX1 = some m.cls := findClass_of_methodNamed B.named
  have hlocks := B.notSynchronized
  subst hsz
  have hD := hD0.self (sz := s.heap.size)
  generalize hAe : va_A (cwT cI h0 h1 h2 h3 h4 h5 tW) s.heap.size = A at hD hSF ⊢
  have hA : ∀ q : Nat, s.heap.size ≤ q → A q := fun q h => by rw [← hAe]; exact Or.inr h
  clear hAe hD0
  have hS : va_S A s.heap s.heap [] := va_S.rf
  have hl := lv_entry ([.ref h0, .int p1]) (n := 3) (Nat.le_of_ble_eq_true rfl)
  rw [lg_entry_eq]
  generalize (lg_sl ([.ref h0, .int p1]) ++ List.replicate (3 - (lg_sl ([.ref h0, .int p1])).length) Slot.unset).toArray = ls at hl ⊢
  have hl : lv_has ls 3 [(0, .ref h0), (1, .int p1)] := hl
  rw [F_X1_growOlder] at hF
  refine lv_iconst (v := nI 0) hx hb dX1_growOlder_0 (by decide) ?_
  refine vW_have (fun R av Q => ∀ (n2 : Nat) (tW : TownS) (x1 : Int32) (x2 : Int32) (H : Heap) (locs : List Loc) (ls : Array Slot), F_X1_growOlder_2 N n2 tW x1 x2 = some r → va_P (dC, dI) vwCl (cwT cI h0 h1 h2 h3 h4 h5 tW) H → va_D A (cwT cI h0 h1 h2 h3 h4 h5 tW) → va_S A s.heap H locs → lv_has ls 3 [(0, .ref h0), (1, .int x1), (2, .int x2)] → W p l e R s m av below meth c H locs 0 0 Q (F0 m 2 ls [])) ?_ (fun kJ2 => ?_)
  · intro n2
    induction n2 with
    | zero => intro tW x1 x2 H locs ls hF; exact nn hF
    | succ n2 ih2 =>
      intro tW x1 x2 H locs ls hF hP hD hS hl
      rw [F_X1_growOlder_2] at hF
      refine lv_iload_n hx hb dX1_growOlder_2 rfl (lv_at hl 2 rfl) ?_
      refine lv_aload_n hx hb dX1_growOlder_3 rfl (lv_at hl 0 rfl) ?_
      refine va_get (D := (dC, dI)) (ci := 1) (v := .int tW.2.2.2.2.2.1) (C := RX1) (T := TX1) (N := 8) hx hb hts inw_X1_growOlder_X1 hown hK hP 0 rfl rfl 5 (by decide) (hts (.fieldLink RX1 27 "DeniedOfEachOther$Town" "size" "I") (List.mem_of_getElem? (i := 1) rfl)) (fun _ h9 => h9) rfl dX1_growOlder_4 ?_
      refine lv_icmp_ge (tgt := 43) hx hb dX1_growOlder_7 (by decide) (fun hc => ?_) (fun hc => ?_)
      · have hF := ift hc hF
        obtain rfl := Option.some.inj hF
        exact W.vret hx hb hr (fun t ht hW => ⟨⟨(), rfl, trivial, QB.of ht hP hD⟩, hS.F ht⟩) hS.2.2 dX1_growOlder_43
      · have hF := iff_ hc hF
        refine lv_aload_n hx hb dX1_growOlder_10 rfl (lv_at hl 0 rfl) ?_
        refine lv_iload_n hx hb dX1_growOlder_11 rfl (lv_at hl 2 rfl) ?_
        have hPc := hP.sub (ws' := (cwT cI h0 h1 h2 h3 h4 h5 tW)) [0, 1, 2, 3, 4, 5] rfl
        have hDc := hD.sub (ws' := (cwT cI h0 h1 h2 h3 h4 h5 tW)) [0, 1, 2, 3, 4, 5] (by decide) rfl
        have hFc := va_free (wc := (cwT cI h0 h1 h2 h3 h4 h5 tW)) hD hS hA [0, 1, 2, 3, 4, 5] rfl
        refine bd hF (fun r12 hG hF => ?_)
        refine va_calli (va_runV (As := [.int x2]) (rest := []) ⟨hx, hb, hml, hown, hts⟩ (c_X1_isLiving l dC dI cI sf H.size N h0 h1 h2 h3 h4 h5 tW x2 r12 hG) (cwV 1 hts gX1_growOlder_X1_isLiving rfl rfl rfl (by decide +kernel) ⟨Nat.le_of_ble_eq_true rfl, Nat.le_of_ble_eq_true rfl⟩) ⟨fun a U g mk q => ⟨q.1, q.2.call⟩, va_recv hK hP (ci := 1) (q0 := 0) rfl rfl, fun U hU hW => ⟨rfl, PB.of hU hW hPc hK hDc hNN hSF hS hFc⟩⟩ rfl rfl hl.1 rfl (lv_room (Nat.le_of_ble_eq_true rfl)) dX1_growOlder_12 ⟨Nat.le_of_ble_eq_true rfl, Nat.le_of_ble_eq_true rfl⟩) hS (fun q _ h => hFc q h) hFc (fun z_ u_ t H locs ht hvm hw hB hz1 hk1 hS => ?_)
        subst z_
        obtain ⟨hP1, hD1⟩ := hB
        rw [ht] at hP1
        have hJ := vb_join (ws' := (cwT cI h0 h1 h2 h3 h4 h5 tW)) hP hD [0, 1, 2, 3, 4, 5] [] [0, 1, 2, 3, 4, 5] rfl rfl (by decide) (by decide) hk1 hFc hP1 hD1 rfl (by decide) rfl
        clear hP hD hPc hDc hFc hP1 hD1 hk1 hz1 ht hvm hG
        obtain ⟨hP, hD⟩ := hJ
        refine vW_have (fun R av Q => ∀ (tW : TownS) (x1 : Int32) (x2 : Int32) (H : Heap) (locs : List Loc) (ls : Array Slot), F_X1_growOlder_37 N (fun ctW cx1 cx2 => F_X1_growOlder_2 N n2 ctW cx1 cx2) tW x1 x2 = some r → va_P (dC, dI) vwCl (cwT cI h0 h1 h2 h3 h4 h5 tW) H → va_D A (cwT cI h0 h1 h2 h3 h4 h5 tW) → va_S A s.heap H locs → lv_has ls 3 [(0, .ref h0), (1, .int x1), (2, .int x2)] → W p l e R s m av below meth c H locs 0 0 Q (F0 m 37 ls [])) ?_ (fun kJ37 => ?_)
        · 
          intro tW x1 x2 H locs ls hF hP hD hS hl
          rw [F_X1_growOlder_37] at hF
          refine lv_iinc (v := x2 + (nI 1)) (lv' := [(2, .int (x2 + (nI 1))), (0, .ref h0), (1, .int x1)]) hx hb dX1_growOlder_37 hl (k := 2) rfl (by rfl) (by decide) rfl (fun ls hl => ?_)
          refine lv_goto (tgt := 2) hx hb dX1_growOlder_40 (by decide) ?_
          exact ih2 tW x1 (x2 + (nI 1)) _ _ _ hF hP hD hS (lv_sub hl [1, 2, 0] rfl)
        refine lv_if_eq (tgt := 37) hx hb dX1_growOlder_15 (by decide) (fun hc => ?_) (fun hc => ?_)
        · have hF := ift hc hF
          exact kJ37 tW x1 x2 _ _ _ hF hP hD hS (lv_sub hl [0, 1, 2] rfl)
        · have hF := iff_ hc hF
          refine lv_aload_n hx hb dX1_growOlder_18 rfl (lv_at hl 0 rfl) ?_
          refine va_get (D := (dC, dI)) (ci := 1) (v := .ref h3) (C := RX1) (T := TX1) (N := 8) hx hb hts inw_X1_growOlder_X1 hown hK hP 0 rfl rfl 2 (by decide) (hts (.fieldLink RX1 18 "DeniedOfEachOther$Town" "age" "[I") (List.mem_of_getElem? (i := 2) rfl)) (fun _ h9 => h9) rfl dX1_growOlder_19 ?_
          refine lv_iload_n hx hb dX1_growOlder_22 rfl (lv_at hl 2 rfl) ?_
          refine lv_bipush (v := nI 99) hx hb dX1_growOlder_23 (by decide) ?_
          refine lv_aload_n hx hb dX1_growOlder_25 rfl (lv_at hl 0 rfl) ?_
          refine va_get (D := (dC, dI)) (ci := 1) (v := .ref h3) (C := RX1) (T := TX1) (N := 8) hx hb hts inw_X1_growOlder_X1 hown hK hP 0 rfl rfl 2 (by decide) (hts (.fieldLink RX1 18 "DeniedOfEachOther$Town" "age" "[I") (List.mem_of_getElem? (i := 2) rfl)) (fun _ h9 => h9) rfl dX1_growOlder_26 ?_
          refine lv_iload_n hx hb dX1_growOlder_29 rfl (lv_at hl 2 rfl) ?_
          refine cki hF (fun hi hF => ?_)
          refine va_iald (D := (dC, dI)) hx hb hK hP 3 0 rfl rfl hi dX1_growOlder_30 ?_
          refine lv_iload_n hx hb dX1_growOlder_31 rfl (lv_at hl 1 rfl) ?_
          refine lv_iadd hx hb dX1_growOlder_32 ?_
          refine va_mmin hx hb (hml.trans hl.1.symm) hown (hts (.methodLink RX1 97 Lib.Math.min.name) (List.mem_of_getElem? (i := 3) rfl)) (hts (.static Lib.Math.min.name) (List.mem_of_getElem? (i := 4) rfl)) (hts (.initialized "java/lang/Math") (List.mem_of_getElem? (i := 5) rfl)) (hts (.code Lib.Math.min.name Lib.Math.min.code 2 (some .int)) (List.mem_of_getElem? (i := 6) rfl)) (Nat.le_of_ble_eq_true rfl) (Nat.le_of_ble_eq_true rfl) (Nat.le_of_ble_eq_true rfl) (Nat.le_of_ble_eq_true rfl) dX1_growOlder_33 ?_
          refine cki hF (fun hi hF => ?_)
          refine va_iast (D := (dC, dI)) hx hb hK hP hD hS 3 0 rfl rfl hi dX1_growOlder_36 (fun H locs hP hD hS => ?_)
          have hP : va_P (dC, dI) vwCl (cwT cI h0 h1 h2 h3 h4 h5 (tW.1, tW.2.1, (upd tW.2.2.1 x2.toNatClampNeg (if ((tW.2.2.1 x2.toNatClampNeg) + x1) < (nI 99) then ((tW.2.2.1 x2.toNatClampNeg) + x1) else (nI 99))), tW.2.2.2.1, tW.2.2.2.2.1, tW.2.2.2.2.2.1, tW.2.2.2.2.2.2.1, tW.2.2.2.2.2.2.2)) H := hP
          have hD : va_D A (cwT cI h0 h1 h2 h3 h4 h5 (tW.1, tW.2.1, (upd tW.2.2.1 x2.toNatClampNeg (if ((tW.2.2.1 x2.toNatClampNeg) + x1) < (nI 99) then ((tW.2.2.1 x2.toNatClampNeg) + x1) else (nI 99))), tW.2.2.2.1, tW.2.2.2.2.1, tW.2.2.2.2.2.1, tW.2.2.2.2.2.2.1, tW.2.2.2.2.2.2.2)) := hD
          exact kJ37 (tW.1, tW.2.1, (upd tW.2.2.1 x2.toNatClampNeg (if ((tW.2.2.1 x2.toNatClampNeg) + x1) < (nI 99) then ((tW.2.2.1 x2.toNatClampNeg) + x1) else (nI 99))), tW.2.2.2.1, tW.2.2.2.2.1, tW.2.2.2.2.2.1, tW.2.2.2.2.2.2.1, tW.2.2.2.2.2.2.2) x1 x2 _ _ _ hF hP hD hS (lv_sub hl [0, 1, 2] rfl)
  refine lv_istore_n (lv' := [(2, .int (nI 0)), (0, .ref h0), (1, .int p1)]) hx hb dX1_growOlder_1 rfl hl (by decide) rfl (fun ls hl => ?_)
  exact kJ2 N tW p1 (nI 0) _ _ _ hF hP hD hS (lv_sub hl [1, 2, 0] rfl)
theorem inw_X1_lifeOf_X1 : ∀ w ∈ u_ws RX1 TX1 8, w ∈ wsX1_lifeOf := fun _ h => List.mem_cons_of_mem _ (List.mem_append_right _ h)
set_option maxHeartbeats 4000000 in
set_option maxRecDepth 100000 in
theorem c_X1_lifeOf (l : Launch) (dC : Nat → ClassId) (dI : Nat → Nat → Nat) (cI : ClassId) (sf : SFP) (sz : Nat) (N : Nat) (h0 h1 h2 h3 h4 h5 : Nat) (tW : TownS) (p1 : Int32) (r : Int32) (hF : F_X1_lifeOf N tW p1 = some r) : Met l yX1_lifeOf wsX1_lifeOf ({ frames := 0, cells := 0, slots := 0, locals := 0 }) (va_Pc [.ref h0, .int p1] (PB (dC, dI) cI (cwT cI h0 h1 h2 h3 h4 h5 tW) sz sf)) (va_Qi (fun (z : Int32) (_ : Unit) => z = r) (fun _ t => QB (dC, dI) (cwT cI h0 h1 h2 h3 h4 h5 tW) (va_A (cwT cI h0 h1 h2 h3 h4 h5 tW) sz) t) (va_A (cwT cI h0 h1 h2 h3 h4 h5 tW) sz)) 0 0 (va_A (cwT cI h0 h1 h2 h3 h4 h5 tW) sz) := by
  refine Met.ofW (cc := cX1_lifeOf) (maxL := 3) (ret := (some .int)) (by decide) rfl ?_
  intro p e s m args below meth c s₁ B hml hv
  obtain ⟨rfl, hsz, hP, hK, hD0, hNN, hSF⟩ := hv
  have hx := B.exec
  have hb := B.bytes
  have hr := B.returns
  have hts := atoms_spec (ws := wsX1_lifeOf) B.pre
  have hown : s.vm.findClass RX1 = some m.cls := findClass_of_methodNamed B.named
  have hlocks := B.notSynchronized
  subst hsz
  have hD := hD0.self (sz := s.heap.size)
  generalize hAe : va_A (cwT cI h0 h1 h2 h3 h4 h5 tW) s.heap.size = A at hD hSF ⊢
  have hA : ∀ q : Nat, s.heap.size ≤ q → A q := fun q h => by rw [← hAe]; exact Or.inr h
  clear hAe hD0
  have hS : va_S A s.heap s.heap [] := va_S.rf
  have hl := lv_entry ([.ref h0, .int p1]) (n := 3) (Nat.le_of_ble_eq_true rfl)
  rw [lg_entry_eq]
  generalize (lg_sl ([.ref h0, .int p1]) ++ List.replicate (3 - (lg_sl ([.ref h0, .int p1])).length) Slot.unset).toArray = ls at hl ⊢
  have hl : lv_has ls 3 [(0, .ref h0), (1, .int p1)] := hl
  rw [F_X1_lifeOf] at hF
  refine lv_aload_n hx hb dX1_lifeOf_0 rfl (lv_at hl 0 rfl) ?_
  refine va_get (D := (dC, dI)) (ci := 1) (v := .ref h1) (C := RX1) (T := TX1) (N := 8) hx hb hts inw_X1_lifeOf_X1 hown hK hP 0 rfl rfl 0 (by decide) (hts (.fieldLink RX1 9 "DeniedOfEachOther$Town" "kind" "[I") (List.mem_of_getElem? (i := 1) rfl)) (fun _ h9 => h9) rfl dX1_lifeOf_1 ?_
  refine lv_iload_n hx hb dX1_lifeOf_4 rfl (lv_at hl 1 rfl) ?_
  refine cki hF (fun hi hF => ?_)
  refine va_iald (D := (dC, dI)) hx hb hK hP 1 0 rfl rfl hi dX1_lifeOf_5 ?_
  refine lv_istore_n (lv' := [(2, .int (tW.1 p1.toNatClampNeg)), (0, .ref h0), (1, .int p1)]) hx hb dX1_lifeOf_6 rfl hl (by decide) rfl (fun ls hl => ?_)
  refine lv_iload_n hx hb dX1_lifeOf_7 rfl (lv_at hl 0 rfl) ?_
  refine lv_if_lt (tgt := 34) hx hb dX1_lifeOf_8 (by decide) (fun hc => ?_) (fun hc => ?_)
  · have hF := ift hc hF
    refine lv_bipush (v := nI 99) hx hb dX1_lifeOf_34 (by decide) ?_
    obtain rfl := Option.some.inj hF
    exact W.iret (v := (nI 99)) hx hb hr (fun t ht hW => ⟨⟨(nI 99), (), rfl, rfl, QB.of ht hP hD⟩, hS.F ht⟩) hS.2.2 dX1_lifeOf_36
  · have hF := iff_ hc hF
    refine lv_iload_n hx hb dX1_lifeOf_11 rfl (lv_at hl 0 rfl) ?_
    refine va_getsN (v := .ref sf.1) hx hb hSF.1 hS hown (hNN.use 41 rfl) (fun _ h9 => h9) dX1_lifeOf_12 ?_
    refine va_tlen hx hb hSF.2.1 hS (v := nI 6) rfl dX1_lifeOf_15 ?_
    refine lv_icmp_ge (tgt := 34) hx hb dX1_lifeOf_16 (by decide) (fun hc => ?_) (fun hc => ?_)
    · have hF := ift hc hF
      refine lv_bipush (v := nI 99) hx hb dX1_lifeOf_34 (by decide) ?_
      obtain rfl := Option.some.inj hF
      exact W.iret (v := (nI 99)) hx hb hr (fun t ht hW => ⟨⟨(nI 99), (), rfl, rfl, QB.of ht hP hD⟩, hS.F ht⟩) hS.2.2 dX1_lifeOf_36
    · have hF := iff_ hc hF
      refine va_getsN (v := .ref sf.1) hx hb hSF.1 hS hown (hNN.use 41 rfl) (fun _ h9 => h9) dX1_lifeOf_19 ?_
      refine lv_iload_n hx hb dX1_lifeOf_22 rfl (lv_at hl 0 rfl) ?_
      refine cki hF (fun hi hF => ?_)
      refine va_ti hx hb hSF.2.1 hS hi rfl dX1_lifeOf_23 ?_
      refine lv_aload_n hx hb dX1_lifeOf_24 rfl (lv_at hl 1 rfl) ?_
      refine va_get (D := (dC, dI)) (ci := 1) (v := .ref h2) (C := RX1) (T := TX1) (N := 8) hx hb hts inw_X1_lifeOf_X1 hown hK hP 0 rfl rfl 1 (by decide) (hts (.fieldLink RX1 15 "DeniedOfEachOther$Town" "figure" "[I") (List.mem_of_getElem? (i := 2) rfl)) (fun _ h9 => h9) rfl dX1_lifeOf_25 ?_
      refine lv_iload_n hx hb dX1_lifeOf_28 rfl (lv_at hl 2 rfl) ?_
      refine cki hF (fun hi hF => ?_)
      refine va_iald (D := (dC, dI)) hx hb hK hP 2 0 rfl rfl hi dX1_lifeOf_29 ?_
      refine lv_iadd hx hb dX1_lifeOf_30 ?_
      refine lv_goto (tgt := 36) hx hb dX1_lifeOf_31 (by decide) ?_
      obtain rfl := Option.some.inj hF
      exact W.iret (v := ((lifeN (tW.1 p1.toNatClampNeg).toNatClampNeg) + (tW.2.1 p1.toNatClampNeg))) hx hb hr (fun t ht hW => ⟨⟨((lifeN (tW.1 p1.toNatClampNeg).toNatClampNeg) + (tW.2.1 p1.toNatClampNeg)), (), rfl, rfl, QB.of ht hP hD⟩, hS.F ht⟩) hS.2.2 dX1_lifeOf_36
theorem inw_X1_buryTheOld_X1 : ∀ w ∈ u_ws RX1 TX1 8, w ∈ wsX1_buryTheOld := fun _ h => List.mem_cons_of_mem _ (List.mem_append_right _ h)
set_option maxHeartbeats 4000000 in
set_option maxRecDepth 100000 in
theorem c_X1_buryTheOld (l : Launch) (dC : Nat → ClassId) (dI : Nat → Nat → Nat) (cI : ClassId) (sf : SFP) (sz : Nat) (N : Nat) (h0 h1 h2 h3 h4 h5 : Nat) (tW : TownS) (r : TownS) (hF : F_X1_buryTheOld N tW = some r) : Met l yX1_buryTheOld wsX1_buryTheOld ({ frames := 2, cells := 0, slots := 0, locals := 42 }) (va_Pc [.ref h0] (PB (dC, dI) cI (cwT cI h0 h1 h2 h3 h4 h5 tW) sz sf)) (va_Qv (fun _ : Unit => True) (fun _ t => QB (dC, dI) (cwT cI h0 h1 h2 h3 h4 h5 r) (va_A (cwT cI h0 h1 h2 h3 h4 h5 tW) sz) t) (va_A (cwT cI h0 h1 h2 h3 h4 h5 tW) sz)) 0 0 (va_A (cwT cI h0 h1 h2 h3 h4 h5 tW) sz) := by
  refine Met.ofW (cc := cX1_buryTheOld) (maxL := 2) (ret := none) (by decide) rfl ?_
  intro p e s m args below meth c s₁ B hml hv
  obtain ⟨rfl, hsz, hP, hK, hD0, hNN, hSF⟩ := hv
  have hx := B.exec
  have hb := B.bytes
  have hr := B.returns
  have hts := atoms_spec (ws := wsX1_buryTheOld) B.pre
  have hown : s.vm.findClass RX1 = some m.cls := findClass_of_methodNamed B.named
  have hlocks := B.notSynchronized
  subst hsz
  have hD := hD0.self (sz := s.heap.size)
  generalize hAe : va_A (cwT cI h0 h1 h2 h3 h4 h5 tW) s.heap.size = A at hD hSF ⊢
  have hA : ∀ q : Nat, s.heap.size ≤ q → A q := fun q h => by rw [← hAe]; exact Or.inr h
  clear hAe hD0
  have hS : va_S A s.heap s.heap [] := va_S.rf
  have hl := lv_entry ([.ref h0]) (n := 2) (Nat.le_of_ble_eq_true rfl)
  rw [lg_entry_eq]
  generalize (lg_sl ([.ref h0]) ++ List.replicate (2 - (lg_sl ([.ref h0])).length) Slot.unset).toArray = ls at hl ⊢
  have hl : lv_has ls 2 [(0, .ref h0)] := hl
  rw [F_X1_buryTheOld] at hF
  refine lv_iconst (v := nI 0) hx hb dX1_buryTheOld_0 (by decide) ?_
  refine vW_have (fun R av Q => ∀ (n2 : Nat) (tW : TownS) (x1 : Int32) (H : Heap) (locs : List Loc) (ls : Array Slot), F_X1_buryTheOld_2 N n2 tW x1 = some r → va_P (dC, dI) vwCl (cwT cI h0 h1 h2 h3 h4 h5 tW) H → va_D A (cwT cI h0 h1 h2 h3 h4 h5 tW) → va_S A s.heap H locs → lv_has ls 2 [(0, .ref h0), (1, .int x1)] → W p l e R s m av below meth c H locs 0 0 Q (F0 m 2 ls [])) ?_ (fun kJ2 => ?_)
  · intro n2
    induction n2 with
    | zero => intro tW x1 H locs ls hF; exact nn hF
    | succ n2 ih2 =>
      intro tW x1 H locs ls hF hP hD hS hl
      rw [F_X1_buryTheOld_2] at hF
      refine lv_iload_n hx hb dX1_buryTheOld_2 rfl (lv_at hl 1 rfl) ?_
      refine lv_aload_n hx hb dX1_buryTheOld_3 rfl (lv_at hl 0 rfl) ?_
      refine va_get (D := (dC, dI)) (ci := 1) (v := .int tW.2.2.2.2.2.1) (C := RX1) (T := TX1) (N := 8) hx hb hts inw_X1_buryTheOld_X1 hown hK hP 0 rfl rfl 5 (by decide) (hts (.fieldLink RX1 27 "DeniedOfEachOther$Town" "size" "I") (List.mem_of_getElem? (i := 1) rfl)) (fun _ h9 => h9) rfl dX1_buryTheOld_4 ?_
      refine lv_icmp_ge (tgt := 36) hx hb dX1_buryTheOld_7 (by decide) (fun hc => ?_) (fun hc => ?_)
      · have hF := ift hc hF
        obtain rfl := Option.some.inj hF
        exact W.vret hx hb hr (fun t ht hW => ⟨⟨(), rfl, trivial, QB.of ht hP hD⟩, hS.F ht⟩) hS.2.2 dX1_buryTheOld_36
      · have hF := iff_ hc hF
        refine lv_aload_n hx hb dX1_buryTheOld_10 rfl (lv_at hl 0 rfl) ?_
        refine va_get (D := (dC, dI)) (ci := 1) (v := .ref h3) (C := RX1) (T := TX1) (N := 8) hx hb hts inw_X1_buryTheOld_X1 hown hK hP 0 rfl rfl 2 (by decide) (hts (.fieldLink RX1 18 "DeniedOfEachOther$Town" "age" "[I") (List.mem_of_getElem? (i := 2) rfl)) (fun _ h9 => h9) rfl dX1_buryTheOld_11 ?_
        refine lv_iload_n hx hb dX1_buryTheOld_14 rfl (lv_at hl 1 rfl) ?_
        refine cki hF (fun hi hF => ?_)
        refine va_iald (D := (dC, dI)) hx hb hK hP 3 0 rfl rfl hi dX1_buryTheOld_15 ?_
        refine lv_aload_n hx hb dX1_buryTheOld_16 rfl (lv_at hl 0 rfl) ?_
        refine lv_iload_n hx hb dX1_buryTheOld_17 rfl (lv_at hl 1 rfl) ?_
        have hPc := hP.sub (ws' := (cwT cI h0 h1 h2 h3 h4 h5 tW)) [0, 1, 2, 3, 4, 5] rfl
        have hDc := hD.sub (ws' := (cwT cI h0 h1 h2 h3 h4 h5 tW)) [0, 1, 2, 3, 4, 5] (by decide) rfl
        have hFc := va_free (wc := (cwT cI h0 h1 h2 h3 h4 h5 tW)) hD hS hA [0, 1, 2, 3, 4, 5] rfl
        refine bd hF (fun r18 hG hF => ?_)
        refine va_calli (va_runV (As := [.int x1]) (rest := [.int (tW.2.2.1 x1.toNatClampNeg)]) ⟨hx, hb, hml, hown, hts⟩ (c_X1_lifeOf l dC dI cI sf H.size N h0 h1 h2 h3 h4 h5 tW x1 r18 hG) (cwV 1 hts gX1_buryTheOld_X1_lifeOf rfl rfl rfl (by decide +kernel) ⟨Nat.le_of_ble_eq_true rfl, Nat.le_of_ble_eq_true rfl⟩) ⟨fun a U g mk q => ⟨q.1, q.2.call⟩, va_recv hK hP (ci := 1) (q0 := 0) rfl rfl, fun U hU hW => ⟨rfl, PB.of hU hW hPc hK hDc hNN hSF hS hFc⟩⟩ rfl rfl hl.1 rfl (lv_room (Nat.le_of_ble_eq_true rfl)) dX1_buryTheOld_18 ⟨Nat.le_of_ble_eq_true rfl, Nat.le_of_ble_eq_true rfl⟩) hS (fun q _ h => hFc q h) hFc (fun z_ u_ t H locs ht hvm hw hB hz1 hk1 hS => ?_)
        subst z_
        obtain ⟨hP1, hD1⟩ := hB
        rw [ht] at hP1
        have hJ := vb_join (ws' := (cwT cI h0 h1 h2 h3 h4 h5 tW)) hP hD [0, 1, 2, 3, 4, 5] [] [0, 1, 2, 3, 4, 5] rfl rfl (by decide) (by decide) hk1 hFc hP1 hD1 rfl (by decide) rfl
        clear hP hD hPc hDc hFc hP1 hD1 hk1 hz1 ht hvm hG
        obtain ⟨hP, hD⟩ := hJ
        refine vW_have (fun R av Q => ∀ (tW : TownS) (x1 : Int32) (H : Heap) (locs : List Loc) (ls : Array Slot), F_X1_buryTheOld_30 N (fun ctW cx1 => F_X1_buryTheOld_2 N n2 ctW cx1) tW x1 = some r → va_P (dC, dI) vwCl (cwT cI h0 h1 h2 h3 h4 h5 tW) H → va_D A (cwT cI h0 h1 h2 h3 h4 h5 tW) → va_S A s.heap H locs → lv_has ls 2 [(0, .ref h0), (1, .int x1)] → W p l e R s m av below meth c H locs 0 0 Q (F0 m 30 ls [])) ?_ (fun kJ30 => ?_)
        · 
          intro tW x1 H locs ls hF hP hD hS hl
          rw [F_X1_buryTheOld_30] at hF
          refine lv_iinc (v := x1 + (nI 1)) (lv' := [(1, .int (x1 + (nI 1))), (0, .ref h0)]) hx hb dX1_buryTheOld_30 hl (k := 1) rfl (by rfl) (by decide) rfl (fun ls hl => ?_)
          refine lv_goto (tgt := 2) hx hb dX1_buryTheOld_33 (by decide) ?_
          exact ih2 tW (x1 + (nI 1)) _ _ _ hF hP hD hS (lv_sub hl [1, 0] rfl)
        refine lv_icmp_lt (tgt := 30) hx hb dX1_buryTheOld_21 (by decide) (fun hc => ?_) (fun hc => ?_)
        · have hF := ift hc hF
          exact kJ30 tW x1 _ _ _ hF hP hD hS (lv_sub hl [0, 1] rfl)
        · have hF := iff_ hc hF
          refine lv_aload_n hx hb dX1_buryTheOld_24 rfl (lv_at hl 0 rfl) ?_
          refine lv_iload_n hx hb dX1_buryTheOld_25 rfl (lv_at hl 1 rfl) ?_
          have hPc := hP.sub (ws' := (cwT cI h0 h1 h2 h3 h4 h5 tW)) [0, 1, 2, 3, 4, 5] rfl
          have hDc := hD.sub (ws' := (cwT cI h0 h1 h2 h3 h4 h5 tW)) [0, 1, 2, 3, 4, 5] (by decide) rfl
          have hFc := va_free (wc := (cwT cI h0 h1 h2 h3 h4 h5 tW)) hD hS hA [0, 1, 2, 3, 4, 5] rfl
          refine bd hF (fun r26 hG hF => ?_)
          refine va_calli (va_runV (As := [.int x1]) (rest := []) ⟨hx, hb, hml, hown, hts⟩ (c_X1_bury l dC dI cI sf H.size N h0 h1 h2 h3 h4 h5 tW x1 r26 hG) (cwV 1 hts gX1_buryTheOld_X1_bury rfl rfl rfl (by decide +kernel) ⟨Nat.le_of_ble_eq_true rfl, Nat.le_of_ble_eq_true rfl⟩) ⟨fun a U g mk q => ⟨q.1, q.2.call⟩, va_recv hK hP (ci := 1) (q0 := 0) rfl rfl, fun U hU hW => ⟨rfl, PB.of hU hW hPc hK hDc hNN hSF hS hFc⟩⟩ rfl rfl hl.1 rfl (lv_room (Nat.le_of_ble_eq_true rfl)) dX1_buryTheOld_26 ⟨Nat.le_of_ble_eq_true rfl, Nat.le_of_ble_eq_true rfl⟩) hS (fun q _ h => hFc q h) hFc (fun z_ u_ t H locs ht hvm hw hB hz1 hk1 hS => ?_)
          subst z_
          obtain ⟨hP1, hD1⟩ := hB
          rw [ht] at hP1
          have hJ := vb_join (ws' := (cwT cI h0 h1 h2 h3 h4 h5 r26.2)) hP hD [0, 1, 2, 3, 4, 5] [] [0, 1, 2, 3, 4, 5] rfl rfl (by decide) (by decide) hk1 hFc hP1 hD1 rfl (by decide) rfl
          clear hP hD hPc hDc hFc hP1 hD1 hk1 hz1 ht hvm hG
          obtain ⟨hP, hD⟩ := hJ
          refine lv_pop hx hb dX1_buryTheOld_29 rfl ?_
          exact kJ30 r26.2 x1 _ _ _ hF hP hD hS (lv_sub hl [0, 1] rfl)
  refine lv_istore_n (lv' := [(1, .int (nI 0)), (0, .ref h0)]) hx hb dX1_buryTheOld_1 rfl hl (by decide) rfl (fun ls hl => ?_)
  exact kJ2 N tW (nI 0) _ _ _ hF hP hD hS (lv_sub hl [1, 0] rfl)
theorem inw_X1_wordOf_X1 : ∀ w ∈ u_ws RX1 TX1 8, w ∈ wsX1_wordOf := fun _ h => List.mem_cons_of_mem _ (List.mem_append_right _ h)
set_option maxHeartbeats 4000000 in
set_option maxRecDepth 100000 in
theorem c_X1_wordOf (l : Launch) (dC : Nat → ClassId) (dI : Nat → Nat → Nat) (cI : ClassId) (sf : SFP) (sz : Nat) (N : Nat) (h0 h1 h2 h3 h4 h5 : Nat) (tW : TownS) (p1 : Int32) (p2 : Int32) (r : Int32) (hF : F_X1_wordOf N tW p1 p2 = some r) : Met l yX1_wordOf wsX1_wordOf ({ frames := 0, cells := 0, slots := 0, locals := 0 }) (va_Pc [.ref h0, .int p1, .int p2] (PB (dC, dI) cI (cwT cI h0 h1 h2 h3 h4 h5 tW) sz sf)) (va_Qi (fun (z : Int32) (_ : Unit) => z = r) (fun _ t => QB (dC, dI) (cwT cI h0 h1 h2 h3 h4 h5 tW) (va_A (cwT cI h0 h1 h2 h3 h4 h5 tW) sz) t) (va_A (cwT cI h0 h1 h2 h3 h4 h5 tW) sz)) 0 0 (va_A (cwT cI h0 h1 h2 h3 h4 h5 tW) sz) := by
  refine Met.ofW (cc := cX1_wordOf) (maxL := 3) (ret := (some .int)) (by decide) rfl ?_
  intro p e s m args below meth c s₁ B hml hv
  obtain ⟨rfl, hsz, hP, hK, hD0, hNN, hSF⟩ := hv
  have hx := B.exec
  have hb := B.bytes
  have hr := B.returns
  have hts := atoms_spec (ws := wsX1_wordOf) B.pre
  have hown : s.vm.findClass RX1 = some m.cls := findClass_of_methodNamed B.named
  have hlocks := B.notSynchronized
  subst hsz
  have hD := hD0.self (sz := s.heap.size)
  generalize hAe : va_A (cwT cI h0 h1 h2 h3 h4 h5 tW) s.heap.size = A at hD hSF ⊢
  have hA : ∀ q : Nat, s.heap.size ≤ q → A q := fun q h => by rw [← hAe]; exact Or.inr h
  clear hAe hD0
  have hS : va_S A s.heap s.heap [] := va_S.rf
  have hl := lv_entry ([.ref h0, .int p1, .int p2]) (n := 3) (Nat.le_of_ble_eq_true rfl)
  rw [lg_entry_eq]
  generalize (lg_sl ([.ref h0, .int p1, .int p2]) ++ List.replicate (3 - (lg_sl ([.ref h0, .int p1, .int p2])).length) Slot.unset).toArray = ls at hl ⊢
  have hl : lv_has ls 3 [(0, .ref h0), (1, .int p1), (2, .int p2)] := hl
  rw [F_X1_wordOf] at hF
  refine lv_aload_n hx hb dX1_wordOf_0 rfl (lv_at hl 0 rfl) ?_
  refine va_get (D := (dC, dI)) (ci := 1) (v := .ref h4) (C := RX1) (T := TX1) (N := 8) hx hb hts inw_X1_wordOf_X1 hown hK hP 0 rfl rfl 3 (by decide) (hts (.fieldLink RX1 21 "DeniedOfEachOther$Town" "yes" "[I") (List.mem_of_getElem? (i := 1) rfl)) (fun _ h9 => h9) rfl dX1_wordOf_1 ?_
  refine lv_iload_n hx hb dX1_wordOf_4 rfl (lv_at hl 2 rfl) ?_
  refine cki hF (fun hi hF => ?_)
  refine va_iald (D := (dC, dI)) hx hb hK hP 4 0 rfl rfl hi dX1_wordOf_5 ?_
  refine lv_iload_n hx hb dX1_wordOf_6 rfl (lv_at hl 1 rfl) ?_
  refine lv_ishr hx hb dX1_wordOf_7 ?_
  refine lv_iconst (v := nI 1) hx hb dX1_wordOf_8 (by decide) ?_
  refine lv_iand hx hb dX1_wordOf_9 ?_
  refine lv_iconst (v := nI 1) hx hb dX1_wordOf_10 (by decide) ?_
  refine lv_icmp_ne (tgt := 16) hx hb dX1_wordOf_11 (by decide) (fun hc => ?_) (fun hc => ?_)
  · have hF := ift hc hF
    refine lv_aload_n hx hb dX1_wordOf_16 rfl (lv_at hl 0 rfl) ?_
    refine va_get (D := (dC, dI)) (ci := 1) (v := .ref h5) (C := RX1) (T := TX1) (N := 8) hx hb hts inw_X1_wordOf_X1 hown hK hP 0 rfl rfl 4 (by decide) (hts (.fieldLink RX1 24 "DeniedOfEachOther$Town" "no" "[I") (List.mem_of_getElem? (i := 2) rfl)) (fun _ h9 => h9) rfl dX1_wordOf_17 ?_
    refine lv_iload_n hx hb dX1_wordOf_20 rfl (lv_at hl 2 rfl) ?_
    refine cki hF (fun hi hF => ?_)
    refine va_iald (D := (dC, dI)) hx hb hK hP 5 0 rfl rfl hi dX1_wordOf_21 ?_
    refine lv_iload_n hx hb dX1_wordOf_22 rfl (lv_at hl 1 rfl) ?_
    refine lv_ishr hx hb dX1_wordOf_23 ?_
    refine lv_iconst (v := nI 1) hx hb dX1_wordOf_24 (by decide) ?_
    refine lv_iand hx hb dX1_wordOf_25 ?_
    refine lv_iconst (v := nI 1) hx hb dX1_wordOf_26 (by decide) ?_
    refine lv_icmp_ne (tgt := 34) hx hb dX1_wordOf_27 (by decide) (fun hc => ?_) (fun hc => ?_)
    · have hF := ift hc hF
      refine lv_iconst (v := nI 0) hx hb dX1_wordOf_34 (by decide) ?_
      obtain rfl := Option.some.inj hF
      exact W.iret (v := (nI 0)) hx hb hr (fun t ht hW => ⟨⟨(nI 0), (), rfl, rfl, QB.of ht hP hD⟩, hS.F ht⟩) hS.2.2 dX1_wordOf_35
    · have hF := iff_ (fun h => h hc) hF
      refine lv_iconst (v := nI 2) hx hb dX1_wordOf_30 (by decide) ?_
      refine lv_goto (tgt := 35) hx hb dX1_wordOf_31 (by decide) ?_
      obtain rfl := Option.some.inj hF
      exact W.iret (v := (nI 2)) hx hb hr (fun t ht hW => ⟨⟨(nI 2), (), rfl, rfl, QB.of ht hP hD⟩, hS.F ht⟩) hS.2.2 dX1_wordOf_35
  · have hF := iff_ (fun h => h hc) hF
    refine lv_iconst (v := nI 1) hx hb dX1_wordOf_14 (by decide) ?_
    obtain rfl := Option.some.inj hF
    exact W.iret (v := (nI 1)) hx hb hr (fun t ht hW => ⟨⟨(nI 1), (), rfl, rfl, QB.of ht hP hD⟩, hS.F ht⟩) hS.2.2 dX1_wordOf_15
theorem inw_X1_livingYes_X1 : ∀ w ∈ u_ws RX1 TX1 8, w ∈ wsX1_livingYes := fun _ h => List.mem_cons_of_mem _ (List.mem_append_right _ h)
set_option maxHeartbeats 4000000 in
set_option maxRecDepth 100000 in
theorem c_X1_livingYes (l : Launch) (dC : Nat → ClassId) (dI : Nat → Nat → Nat) (cI : ClassId) (sf : SFP) (sz : Nat) (N : Nat) (h0 h1 h2 h3 h4 h5 : Nat) (tW : TownS) (p1 : Int32) (r : Int32) (hF : F_X1_livingYes N tW p1 = some r) : Met l yX1_livingYes wsX1_livingYes ({ frames := 0, cells := 0, slots := 0, locals := 0 }) (va_Pc [.ref h0, .int p1] (PB (dC, dI) cI (cwT cI h0 h1 h2 h3 h4 h5 tW) sz sf)) (va_Qi (fun (z : Int32) (_ : Unit) => z = r) (fun _ t => QB (dC, dI) (cwT cI h0 h1 h2 h3 h4 h5 tW) (va_A (cwT cI h0 h1 h2 h3 h4 h5 tW) sz) t) (va_A (cwT cI h0 h1 h2 h3 h4 h5 tW) sz)) 0 0 (va_A (cwT cI h0 h1 h2 h3 h4 h5 tW) sz) := by
  refine Met.ofW (cc := cX1_livingYes) (maxL := 2) (ret := (some .int)) (by decide) rfl ?_
  intro p e s m args below meth c s₁ B hml hv
  obtain ⟨rfl, hsz, hP, hK, hD0, hNN, hSF⟩ := hv
  have hx := B.exec
  have hb := B.bytes
  have hr := B.returns
  have hts := atoms_spec (ws := wsX1_livingYes) B.pre
  have hown : s.vm.findClass RX1 = some m.cls := findClass_of_methodNamed B.named
  have hlocks := B.notSynchronized
  subst hsz
  have hD := hD0.self (sz := s.heap.size)
  generalize hAe : va_A (cwT cI h0 h1 h2 h3 h4 h5 tW) s.heap.size = A at hD hSF ⊢
  have hA : ∀ q : Nat, s.heap.size ≤ q → A q := fun q h => by rw [← hAe]; exact Or.inr h
  clear hAe hD0
  have hS : va_S A s.heap s.heap [] := va_S.rf
  have hl := lv_entry ([.ref h0, .int p1]) (n := 2) (Nat.le_of_ble_eq_true rfl)
  rw [lg_entry_eq]
  generalize (lg_sl ([.ref h0, .int p1]) ++ List.replicate (2 - (lg_sl ([.ref h0, .int p1])).length) Slot.unset).toArray = ls at hl ⊢
  have hl : lv_has ls 2 [(0, .ref h0), (1, .int p1)] := hl
  rw [F_X1_livingYes] at hF
  refine lv_aload_n hx hb dX1_livingYes_0 rfl (lv_at hl 0 rfl) ?_
  refine va_get (D := (dC, dI)) (ci := 1) (v := .ref h4) (C := RX1) (T := TX1) (N := 8) hx hb hts inw_X1_livingYes_X1 hown hK hP 0 rfl rfl 3 (by decide) (hts (.fieldLink RX1 21 "DeniedOfEachOther$Town" "yes" "[I") (List.mem_of_getElem? (i := 1) rfl)) (fun _ h9 => h9) rfl dX1_livingYes_1 ?_
  refine lv_iload_n hx hb dX1_livingYes_4 rfl (lv_at hl 1 rfl) ?_
  refine cki hF (fun hi hF => ?_)
  refine va_iald (D := (dC, dI)) hx hb hK hP 4 0 rfl rfl hi dX1_livingYes_5 ?_
  refine lv_aload_n hx hb dX1_livingYes_6 rfl (lv_at hl 0 rfl) ?_
  refine va_get (D := (dC, dI)) (ci := 1) (v := .int tW.2.2.2.2.2.2.1) (C := RX1) (T := TX1) (N := 8) hx hb hts inw_X1_livingYes_X1 hown hK hP 0 rfl rfl 6 (by decide) (hts (.fieldLink RX1 31 "DeniedOfEachOther$Town" "living" "I") (List.mem_of_getElem? (i := 2) rfl)) (fun _ h9 => h9) rfl dX1_livingYes_7 ?_
  refine lv_iand hx hb dX1_livingYes_10 ?_
  obtain rfl := Option.some.inj hF
  exact W.iret (v := ((tW.2.2.2.1 p1.toNatClampNeg) &&& tW.2.2.2.2.2.2.1)) hx hb hr (fun t ht hW => ⟨⟨((tW.2.2.2.1 p1.toNatClampNeg) &&& tW.2.2.2.2.2.2.1), (), rfl, rfl, QB.of ht hP hD⟩, hS.F ht⟩) hS.2.2 dX1_livingYes_11
theorem inw_X1_livingNo_X1 : ∀ w ∈ u_ws RX1 TX1 8, w ∈ wsX1_livingNo := fun _ h => List.mem_cons_of_mem _ (List.mem_append_right _ h)
set_option maxHeartbeats 4000000 in
set_option maxRecDepth 100000 in
theorem c_X1_livingNo (l : Launch) (dC : Nat → ClassId) (dI : Nat → Nat → Nat) (cI : ClassId) (sf : SFP) (sz : Nat) (N : Nat) (h0 h1 h2 h3 h4 h5 : Nat) (tW : TownS) (p1 : Int32) (r : Int32) (hF : F_X1_livingNo N tW p1 = some r) : Met l yX1_livingNo wsX1_livingNo ({ frames := 0, cells := 0, slots := 0, locals := 0 }) (va_Pc [.ref h0, .int p1] (PB (dC, dI) cI (cwT cI h0 h1 h2 h3 h4 h5 tW) sz sf)) (va_Qi (fun (z : Int32) (_ : Unit) => z = r) (fun _ t => QB (dC, dI) (cwT cI h0 h1 h2 h3 h4 h5 tW) (va_A (cwT cI h0 h1 h2 h3 h4 h5 tW) sz) t) (va_A (cwT cI h0 h1 h2 h3 h4 h5 tW) sz)) 0 0 (va_A (cwT cI h0 h1 h2 h3 h4 h5 tW) sz) := by
  refine Met.ofW (cc := cX1_livingNo) (maxL := 2) (ret := (some .int)) (by decide) rfl ?_
  intro p e s m args below meth c s₁ B hml hv
  obtain ⟨rfl, hsz, hP, hK, hD0, hNN, hSF⟩ := hv
  have hx := B.exec
  have hb := B.bytes
  have hr := B.returns
  have hts := atoms_spec (ws := wsX1_livingNo) B.pre
  have hown : s.vm.findClass RX1 = some m.cls := findClass_of_methodNamed B.named
  have hlocks := B.notSynchronized
  subst hsz
  have hD := hD0.self (sz := s.heap.size)
  generalize hAe : va_A (cwT cI h0 h1 h2 h3 h4 h5 tW) s.heap.size = A at hD hSF ⊢
  have hA : ∀ q : Nat, s.heap.size ≤ q → A q := fun q h => by rw [← hAe]; exact Or.inr h
  clear hAe hD0
  have hS : va_S A s.heap s.heap [] := va_S.rf
  have hl := lv_entry ([.ref h0, .int p1]) (n := 2) (Nat.le_of_ble_eq_true rfl)
  rw [lg_entry_eq]
  generalize (lg_sl ([.ref h0, .int p1]) ++ List.replicate (2 - (lg_sl ([.ref h0, .int p1])).length) Slot.unset).toArray = ls at hl ⊢
  have hl : lv_has ls 2 [(0, .ref h0), (1, .int p1)] := hl
  rw [F_X1_livingNo] at hF
  refine lv_aload_n hx hb dX1_livingNo_0 rfl (lv_at hl 0 rfl) ?_
  refine va_get (D := (dC, dI)) (ci := 1) (v := .ref h5) (C := RX1) (T := TX1) (N := 8) hx hb hts inw_X1_livingNo_X1 hown hK hP 0 rfl rfl 4 (by decide) (hts (.fieldLink RX1 24 "DeniedOfEachOther$Town" "no" "[I") (List.mem_of_getElem? (i := 1) rfl)) (fun _ h9 => h9) rfl dX1_livingNo_1 ?_
  refine lv_iload_n hx hb dX1_livingNo_4 rfl (lv_at hl 1 rfl) ?_
  refine cki hF (fun hi hF => ?_)
  refine va_iald (D := (dC, dI)) hx hb hK hP 5 0 rfl rfl hi dX1_livingNo_5 ?_
  refine lv_aload_n hx hb dX1_livingNo_6 rfl (lv_at hl 0 rfl) ?_
  refine va_get (D := (dC, dI)) (ci := 1) (v := .int tW.2.2.2.2.2.2.1) (C := RX1) (T := TX1) (N := 8) hx hb hts inw_X1_livingNo_X1 hown hK hP 0 rfl rfl 6 (by decide) (hts (.fieldLink RX1 31 "DeniedOfEachOther$Town" "living" "I") (List.mem_of_getElem? (i := 2) rfl)) (fun _ h9 => h9) rfl dX1_livingNo_7 ?_
  refine lv_iand hx hb dX1_livingNo_10 ?_
  obtain rfl := Option.some.inj hF
  exact W.iret (v := ((tW.2.2.2.2.1 p1.toNatClampNeg) &&& tW.2.2.2.2.2.2.1)) hx hb hr (fun t ht hW => ⟨⟨((tW.2.2.2.2.1 p1.toNatClampNeg) &&& tW.2.2.2.2.2.2.1), (), rfl, rfl, QB.of ht hP hD⟩, hS.F ht⟩) hS.2.2 dX1_livingNo_11
theorem inw_X1_isYearOf_X1 : ∀ w ∈ u_ws RX1 TX1 8, w ∈ wsX1_isYearOf := fun _ h => List.mem_cons_of_mem _ (List.mem_append_right _ h)
set_option maxHeartbeats 4000000 in
set_option maxRecDepth 100000 in
theorem c_X1_isYearOf (l : Launch) (dC : Nat → ClassId) (dI : Nat → Nat → Nat) (cI : ClassId) (sf : SFP) (sz : Nat) (N : Nat) (h0 h1 h2 h3 h4 h5 : Nat) (tW : TownS) (p1 : Int32) (r : Int32) (hF : F_X1_isYearOf N tW p1 = some r) : Met l yX1_isYearOf wsX1_isYearOf ({ frames := 0, cells := 0, slots := 0, locals := 0 }) (va_Pc [.ref h0, .int p1] (PB (dC, dI) cI (cwT cI h0 h1 h2 h3 h4 h5 tW) sz sf)) (va_Qi (fun (z : Int32) (_ : Unit) => z = r) (fun _ t => QB (dC, dI) (cwT cI h0 h1 h2 h3 h4 h5 tW) (va_A (cwT cI h0 h1 h2 h3 h4 h5 tW) sz) t) (va_A (cwT cI h0 h1 h2 h3 h4 h5 tW) sz)) 0 0 (va_A (cwT cI h0 h1 h2 h3 h4 h5 tW) sz) := by
  refine Met.ofW (cc := cX1_isYearOf) (maxL := 2) (ret := (some .boolean)) (by decide) rfl ?_
  intro p e s m args below meth c s₁ B hml hv
  obtain ⟨rfl, hsz, hP, hK, hD0, hNN, hSF⟩ := hv
  have hx := B.exec
  have hb := B.bytes
  have hr := B.returns
  have hts := atoms_spec (ws := wsX1_isYearOf) B.pre
  have hown : s.vm.findClass RX1 = some m.cls := findClass_of_methodNamed B.named
  have hlocks := B.notSynchronized
  subst hsz
  have hD := hD0.self (sz := s.heap.size)
  generalize hAe : va_A (cwT cI h0 h1 h2 h3 h4 h5 tW) s.heap.size = A at hD hSF ⊢
  have hA : ∀ q : Nat, s.heap.size ≤ q → A q := fun q h => by rw [← hAe]; exact Or.inr h
  clear hAe hD0
  have hS : va_S A s.heap s.heap [] := va_S.rf
  have hl := lv_entry ([.ref h0, .int p1]) (n := 2) (Nat.le_of_ble_eq_true rfl)
  rw [lg_entry_eq]
  generalize (lg_sl ([.ref h0, .int p1]) ++ List.replicate (2 - (lg_sl ([.ref h0, .int p1])).length) Slot.unset).toArray = ls at hl ⊢
  have hl : lv_has ls 2 [(0, .ref h0), (1, .int p1)] := hl
  rw [F_X1_isYearOf] at hF
  refine lv_iload_n hx hb dX1_isYearOf_0 rfl (lv_at hl 1 rfl) ?_
  refine lv_if_le (tgt := 17) hx hb dX1_isYearOf_1 (by decide) (fun hc => ?_) (fun hc => ?_)
  · have hF := ift hc hF
    refine lv_iconst (v := nI 0) hx hb dX1_isYearOf_17 (by decide) ?_
    obtain rfl := Option.some.inj hF
    exact W.zret (v := (nI 0)) (ty := .boolean) hx hb hr (by decide +kernel) (fun t ht hW => ⟨⟨(nI 0), (), rfl, rfl, QB.of ht hP hD⟩, hS.F ht⟩) hS.2.2 dX1_isYearOf_18
  · have hF := iff_ hc hF
    refine lv_aload_n hx hb dX1_isYearOf_4 rfl (lv_at hl 0 rfl) ?_
    refine va_get (D := (dC, dI)) (ci := 1) (v := .int tW.2.2.2.2.2.2.2) (C := RX1) (T := TX1) (N := 8) hx hb hts inw_X1_isYearOf_X1 hown hK hP 0 rfl rfl 7 (by decide) (hts (.fieldLink RX1 34 "DeniedOfEachOther$Town" "year" "I") (List.mem_of_getElem? (i := 1) rfl)) (fun _ h9 => h9) rfl dX1_isYearOf_5 ?_
    refine lv_iload_n hx hb dX1_isYearOf_8 rfl (lv_at hl 1 rfl) ?_
    refine ckz hF (fun hz hF => ?_)
    refine lv_irem hx hb dX1_isYearOf_9 hz ?_
    refine lv_if_ne (tgt := 17) hx hb dX1_isYearOf_10 (by decide) (fun hc => ?_) (fun hc => ?_)
    · have hF := ift hc hF
      refine lv_iconst (v := nI 0) hx hb dX1_isYearOf_17 (by decide) ?_
      obtain rfl := Option.some.inj hF
      exact W.zret (v := (nI 0)) (ty := .boolean) hx hb hr (by decide +kernel) (fun t ht hW => ⟨⟨(nI 0), (), rfl, rfl, QB.of ht hP hD⟩, hS.F ht⟩) hS.2.2 dX1_isYearOf_18
    · have hF := iff_ (fun h => h hc) hF
      refine lv_iconst (v := nI 1) hx hb dX1_isYearOf_13 (by decide) ?_
      refine lv_goto (tgt := 18) hx hb dX1_isYearOf_14 (by decide) ?_
      obtain rfl := Option.some.inj hF
      exact W.zret (v := (nI 1)) (ty := .boolean) hx hb hr (by decide +kernel) (fun t ht hW => ⟨⟨(nI 1), (), rfl, rfl, QB.of ht hP hD⟩, hS.F ht⟩) hS.2.2 dX1_isYearOf_18
theorem inw_X1_deedOf_X1 : ∀ w ∈ u_ws RX1 TX1 8, w ∈ wsX1_deedOf := fun _ h => List.mem_cons_of_mem _ (List.mem_append_right _ h)
set_option maxHeartbeats 4000000 in
set_option maxRecDepth 100000 in
theorem c_X1_deedOf (l : Launch) (dC : Nat → ClassId) (dI : Nat → Nat → Nat) (cI : ClassId) (sf : SFP) (sz : Nat) (N : Nat) (h0 h1 h2 h3 h4 h5 : Nat) (tW : TownS) (p1 : Int32) (p2 : Int32) (p3 : Int32) (r : Int32) (hF : F_X1_deedOf N tW p1 p2 p3 = some r) : Met l yX1_deedOf wsX1_deedOf ({ frames := 1, cells := 0, slots := 0, locals := 21 }) (va_Pc [.ref h0, .int p1, .int p2, .int p3] (PB (dC, dI) cI (cwT cI h0 h1 h2 h3 h4 h5 tW) sz sf)) (va_Qi (fun (z : Int32) (_ : Unit) => z = r) (fun _ t => QB (dC, dI) (cwT cI h0 h1 h2 h3 h4 h5 tW) (va_A (cwT cI h0 h1 h2 h3 h4 h5 tW) sz) t) (va_A (cwT cI h0 h1 h2 h3 h4 h5 tW) sz)) 0 0 (va_A (cwT cI h0 h1 h2 h3 h4 h5 tW) sz) := by
  refine Met.ofW (cc := cX1_deedOf) (maxL := 5) (ret := (some .int)) (by decide) rfl ?_
  intro p e s m args below meth c s₁ B hml hv
  obtain ⟨rfl, hsz, hP, hK, hD0, hNN, hSF⟩ := hv
  have hx := B.exec
  have hb := B.bytes
  have hr := B.returns
  have hts := atoms_spec (ws := wsX1_deedOf) B.pre
  have hown : s.vm.findClass RX1 = some m.cls := findClass_of_methodNamed B.named
  have hlocks := B.notSynchronized
  subst hsz
  have hD := hD0.self (sz := s.heap.size)
  generalize hAe : va_A (cwT cI h0 h1 h2 h3 h4 h5 tW) s.heap.size = A at hD hSF ⊢
  have hA : ∀ q : Nat, s.heap.size ≤ q → A q := fun q h => by rw [← hAe]; exact Or.inr h
  clear hAe hD0
  have hS : va_S A s.heap s.heap [] := va_S.rf
  have hl := lv_entry ([.ref h0, .int p1, .int p2, .int p3]) (n := 5) (Nat.le_of_ble_eq_true rfl)
  rw [lg_entry_eq]
  generalize (lg_sl ([.ref h0, .int p1, .int p2, .int p3]) ++ List.replicate (5 - (lg_sl ([.ref h0, .int p1, .int p2, .int p3])).length) Slot.unset).toArray = ls at hl ⊢
  have hl : lv_has ls 5 [(0, .ref h0), (1, .int p1), (2, .int p2), (3, .int p3)] := hl
  rw [F_X1_deedOf] at hF
  refine lv_iload_n hx hb dX1_deedOf_0 rfl (lv_at hl 2 rfl) ?_
  refine lv_iconst (v := nI 1) hx hb dX1_deedOf_1 (by decide) ?_
  refine vW_have (fun R av Q => ∀ (x1 : Int32) (x3 : Int32) (z0 : Int32) (H : Heap) (locs : List Loc) (ls : Array Slot), F_X1_deedOf_15 N tW x1 x3 z0 = some r → va_P (dC, dI) vwCl (cwT cI h0 h1 h2 h3 h4 h5 tW) H → va_D A (cwT cI h0 h1 h2 h3 h4 h5 tW) → va_S A s.heap H locs → lv_has ls 5 [(0, .ref h0), (1, .int x1), (3, .int x3)] → W p l e R s m av below meth c H locs 0 0 Q (F0 m 15 ls [.int z0])) ?_ (fun kJ15 => ?_)
  · 
    intro x1 x3 z0 H locs ls hF hP hD hS hl
    rw [F_X1_deedOf_15] at hF
    refine lv_istore (lv' := [(4, .int z0), (0, .ref h0), (1, .int x1), (3, .int x3)]) hx hb dX1_deedOf_15 hl (by decide) rfl (fun ls hl => ?_)
    refine lv_aload_n hx hb dX1_deedOf_17 rfl (lv_at hl 1 rfl) ?_
    refine va_get (D := (dC, dI)) (ci := 1) (v := .ref h1) (C := RX1) (T := TX1) (N := 8) hx hb hts inw_X1_deedOf_X1 hown hK hP 0 rfl rfl 0 (by decide) (hts (.fieldLink RX1 9 "DeniedOfEachOther$Town" "kind" "[I") (List.mem_of_getElem? (i := 1) rfl)) (fun _ h9 => h9) rfl dX1_deedOf_18 ?_
    refine lv_iload_n hx hb dX1_deedOf_21 rfl (lv_at hl 2 rfl) ?_
    refine cki hF (fun hi hF => ?_)
    refine va_iald (D := (dC, dI)) hx hb hK hP 1 0 rfl rfl hi dX1_deedOf_22 ?_
    by_cases hc0 : (tW.1 x1.toNatClampNeg) = nI 0
    · have hF := ift hc0 hF
      refine lv_tableIn (off := 37) (tgt := 60) hx hb dX1_deedOf_23 (by rw [hc0]; decide) (by rw [hc0]; decide) (by rw [hc0]; rfl) (by decide) ?_
      refine lv_iload hx hb dX1_deedOf_60 (lv_at hl 0 rfl) ?_
      refine lv_if_eq (tgt := 69) hx hb dX1_deedOf_62 (by decide) (fun hc => ?_) (fun hc => ?_)
      · have hF := ift hc hF
        refine lv_iconst (v := nI 0) hx hb dX1_deedOf_69 (by decide) ?_
        obtain rfl := Option.some.inj hF
        exact W.iret (v := (nI 0)) hx hb hr (fun t ht hW => ⟨⟨(nI 0), (), rfl, rfl, QB.of ht hP hD⟩, hS.F ht⟩) hS.2.2 dX1_deedOf_70
      · have hF := iff_ hc hF
        refine lv_iconst (v := nI 1) hx hb dX1_deedOf_65 (by decide) ?_
        refine lv_goto (tgt := 70) hx hb dX1_deedOf_66 (by decide) ?_
        obtain rfl := Option.some.inj hF
        exact W.iret (v := (nI 1)) hx hb hr (fun t ht hW => ⟨⟨(nI 1), (), rfl, rfl, QB.of ht hP hD⟩, hS.F ht⟩) hS.2.2 dX1_deedOf_70
    · have hF := iff_ hc0 hF
      by_cases hc1 : (tW.1 x1.toNatClampNeg) = nI 1
      · have hF := ift hc1 hF
        refine lv_tableIn (off := 48) (tgt := 71) hx hb dX1_deedOf_23 (by rw [hc1]; decide) (by rw [hc1]; decide) (by rw [hc1]; rfl) (by decide) ?_
        refine lv_iload hx hb dX1_deedOf_71 (lv_at hl 0 rfl) ?_
        refine lv_if_ne (tgt := 91) hx hb dX1_deedOf_73 (by decide) (fun hc => ?_) (fun hc => ?_)
        · have hF := ift hc hF
          refine lv_iconst (v := nI 1) hx hb dX1_deedOf_91 (by decide) ?_
          refine lv_goto (tgt := 96) hx hb dX1_deedOf_92 (by decide) ?_
          obtain rfl := Option.some.inj hF
          exact W.iret (v := (nI 1)) hx hb hr (fun t ht hW => ⟨⟨(nI 1), (), rfl, rfl, QB.of ht hP hD⟩, hS.F ht⟩) hS.2.2 dX1_deedOf_96
        · have hF := iff_ (fun h => h hc) hF
          refine lv_aload_n hx hb dX1_deedOf_76 rfl (lv_at hl 1 rfl) ?_
          refine lv_aload_n hx hb dX1_deedOf_77 rfl (lv_at hl 1 rfl) ?_
          refine va_get (D := (dC, dI)) (ci := 1) (v := .ref h2) (C := RX1) (T := TX1) (N := 8) hx hb hts inw_X1_deedOf_X1 hown hK hP 0 rfl rfl 1 (by decide) (hts (.fieldLink RX1 15 "DeniedOfEachOther$Town" "figure" "[I") (List.mem_of_getElem? (i := 2) rfl)) (fun _ h9 => h9) rfl dX1_deedOf_78 ?_
          refine lv_iload_n hx hb dX1_deedOf_81 rfl (lv_at hl 2 rfl) ?_
          refine cki hF (fun hi hF => ?_)
          refine va_iald (D := (dC, dI)) hx hb hK hP 2 0 rfl rfl hi dX1_deedOf_82 ?_
          refine lv_iconst (v := nI 1) hx hb dX1_deedOf_83 (by decide) ?_
          refine lv_iadd hx hb dX1_deedOf_84 ?_
          have hPc := hP.sub (ws' := (cwT cI h0 h1 h2 h3 h4 h5 tW)) [0, 1, 2, 3, 4, 5] rfl
          have hDc := hD.sub (ws' := (cwT cI h0 h1 h2 h3 h4 h5 tW)) [0, 1, 2, 3, 4, 5] (by decide) rfl
          have hFc := va_free (wc := (cwT cI h0 h1 h2 h3 h4 h5 tW)) hD hS hA [0, 1, 2, 3, 4, 5] rfl
          refine bd hF (fun r85 hG hF => ?_)
          refine va_calli (va_runV (As := [.int ((tW.2.1 x1.toNatClampNeg) + (nI 1))]) (rest := []) ⟨hx, hb, hml, hown, hts⟩ (c_X1_isYearOf l dC dI cI sf H.size N h0 h1 h2 h3 h4 h5 tW ((tW.2.1 x1.toNatClampNeg) + (nI 1)) r85 hG) (cwV 1 hts gX1_deedOf_X1_isYearOf rfl rfl rfl (by decide +kernel) ⟨Nat.le_of_ble_eq_true rfl, Nat.le_of_ble_eq_true rfl⟩) ⟨fun a U g mk q => ⟨q.1, q.2.call⟩, va_recv hK hP (ci := 1) (q0 := 0) rfl rfl, fun U hU hW => ⟨rfl, PB.of hU hW hPc hK hDc hNN hSF hS hFc⟩⟩ rfl rfl hl.1 rfl (lv_room (Nat.le_of_ble_eq_true rfl)) dX1_deedOf_85 ⟨Nat.le_of_ble_eq_true rfl, Nat.le_of_ble_eq_true rfl⟩) hS (fun q _ h => hFc q h) hFc (fun z_ u_ t H locs ht hvm hw hB hz1 hk1 hS => ?_)
          subst z_
          obtain ⟨hP1, hD1⟩ := hB
          rw [ht] at hP1
          have hJ := vb_join (ws' := (cwT cI h0 h1 h2 h3 h4 h5 tW)) hP hD [0, 1, 2, 3, 4, 5] [] [0, 1, 2, 3, 4, 5] rfl rfl (by decide) (by decide) hk1 hFc hP1 hD1 rfl (by decide) rfl
          clear hP hD hPc hDc hFc hP1 hD1 hk1 hz1 ht hvm hG
          obtain ⟨hP, hD⟩ := hJ
          refine lv_if_eq (tgt := 95) hx hb dX1_deedOf_88 (by decide) (fun hc => ?_) (fun hc => ?_)
          · have hF := ift hc hF
            refine lv_iconst (v := nI 0) hx hb dX1_deedOf_95 (by decide) ?_
            obtain rfl := Option.some.inj hF
            exact W.iret (v := (nI 0)) hx hb hr (fun t ht hW => ⟨⟨(nI 0), (), rfl, rfl, QB.of ht hP hD⟩, hS.F ht⟩) hS.2.2 dX1_deedOf_96
          · have hF := iff_ hc hF
            refine lv_iconst (v := nI 1) hx hb dX1_deedOf_91 (by decide) ?_
            refine lv_goto (tgt := 96) hx hb dX1_deedOf_92 (by decide) ?_
            obtain rfl := Option.some.inj hF
            exact W.iret (v := (nI 1)) hx hb hr (fun t ht hW => ⟨⟨(nI 1), (), rfl, rfl, QB.of ht hP hD⟩, hS.F ht⟩) hS.2.2 dX1_deedOf_96
      · have hF := iff_ hc1 hF
        by_cases hc2 : (tW.1 x1.toNatClampNeg) = nI 2
        · have hF := ift hc2 hF
          refine lv_tableIn (off := 121) (tgt := 144) hx hb dX1_deedOf_23 (by rw [hc2]; decide) (by rw [hc2]; decide) (by rw [hc2]; rfl) (by decide) ?_
          refine lv_iconst (v := nI 0) hx hb dX1_deedOf_144 (by decide) ?_
          obtain rfl := Option.some.inj hF
          exact W.iret (v := (nI 0)) hx hb hr (fun t ht hW => ⟨⟨(nI 0), (), rfl, rfl, QB.of ht hP hD⟩, hS.F ht⟩) hS.2.2 dX1_deedOf_145
        · have hF := iff_ hc2 hF
          by_cases hc3 : (tW.1 x1.toNatClampNeg) = nI 3
          · have hF := ift hc3 hF
            refine lv_tableIn (off := 74) (tgt := 97) hx hb dX1_deedOf_23 (by rw [hc3]; decide) (by rw [hc3]; decide) (by rw [hc3]; rfl) (by decide) ?_
            refine lv_iload hx hb dX1_deedOf_97 (lv_at hl 0 rfl) ?_
            refine lv_if_eq (tgt := 106) hx hb dX1_deedOf_99 (by decide) (fun hc => ?_) (fun hc => ?_)
            · have hF := ift hc hF
              refine lv_iconst (v := nI 0) hx hb dX1_deedOf_106 (by decide) ?_
              obtain rfl := Option.some.inj hF
              exact W.iret (v := (nI 0)) hx hb hr (fun t ht hW => ⟨⟨(nI 0), (), rfl, rfl, QB.of ht hP hD⟩, hS.F ht⟩) hS.2.2 dX1_deedOf_107
            · have hF := iff_ hc hF
              refine lv_iconst (v := nI 2) hx hb dX1_deedOf_102 (by decide) ?_
              refine lv_goto (tgt := 107) hx hb dX1_deedOf_103 (by decide) ?_
              obtain rfl := Option.some.inj hF
              exact W.iret (v := (nI 2)) hx hb hr (fun t ht hW => ⟨⟨(nI 2), (), rfl, rfl, QB.of ht hP hD⟩, hS.F ht⟩) hS.2.2 dX1_deedOf_107
          · have hF := iff_ hc3 hF
            by_cases hc4 : (tW.1 x1.toNatClampNeg) = nI 4
            · have hF := ift hc4 hF
              refine lv_tableIn (off := 85) (tgt := 108) hx hb dX1_deedOf_23 (by rw [hc4]; decide) (by rw [hc4]; decide) (by rw [hc4]; rfl) (by decide) ?_
              refine lv_iload hx hb dX1_deedOf_108 (lv_at hl 0 rfl) ?_
              refine lv_if_ne (tgt := 128) hx hb dX1_deedOf_110 (by decide) (fun hc => ?_) (fun hc => ?_)
              · have hF := ift hc hF
                refine lv_iconst (v := nI 2) hx hb dX1_deedOf_128 (by decide) ?_
                refine lv_goto (tgt := 133) hx hb dX1_deedOf_129 (by decide) ?_
                obtain rfl := Option.some.inj hF
                exact W.iret (v := (nI 2)) hx hb hr (fun t ht hW => ⟨⟨(nI 2), (), rfl, rfl, QB.of ht hP hD⟩, hS.F ht⟩) hS.2.2 dX1_deedOf_133
              · have hF := iff_ (fun h => h hc) hF
                refine lv_aload_n hx hb dX1_deedOf_113 rfl (lv_at hl 1 rfl) ?_
                refine lv_aload_n hx hb dX1_deedOf_114 rfl (lv_at hl 1 rfl) ?_
                refine va_get (D := (dC, dI)) (ci := 1) (v := .ref h2) (C := RX1) (T := TX1) (N := 8) hx hb hts inw_X1_deedOf_X1 hown hK hP 0 rfl rfl 1 (by decide) (hts (.fieldLink RX1 15 "DeniedOfEachOther$Town" "figure" "[I") (List.mem_of_getElem? (i := 2) rfl)) (fun _ h9 => h9) rfl dX1_deedOf_115 ?_
                refine lv_iload_n hx hb dX1_deedOf_118 rfl (lv_at hl 2 rfl) ?_
                refine cki hF (fun hi hF => ?_)
                refine va_iald (D := (dC, dI)) hx hb hK hP 2 0 rfl rfl hi dX1_deedOf_119 ?_
                refine lv_iconst (v := nI 2) hx hb dX1_deedOf_120 (by decide) ?_
                refine lv_iadd hx hb dX1_deedOf_121 ?_
                have hPc := hP.sub (ws' := (cwT cI h0 h1 h2 h3 h4 h5 tW)) [0, 1, 2, 3, 4, 5] rfl
                have hDc := hD.sub (ws' := (cwT cI h0 h1 h2 h3 h4 h5 tW)) [0, 1, 2, 3, 4, 5] (by decide) rfl
                have hFc := va_free (wc := (cwT cI h0 h1 h2 h3 h4 h5 tW)) hD hS hA [0, 1, 2, 3, 4, 5] rfl
                refine bd hF (fun r122 hG hF => ?_)
                refine va_calli (va_runV (As := [.int ((tW.2.1 x1.toNatClampNeg) + (nI 2))]) (rest := []) ⟨hx, hb, hml, hown, hts⟩ (c_X1_isYearOf l dC dI cI sf H.size N h0 h1 h2 h3 h4 h5 tW ((tW.2.1 x1.toNatClampNeg) + (nI 2)) r122 hG) (cwV 1 hts gX1_deedOf_X1_isYearOf rfl rfl rfl (by decide +kernel) ⟨Nat.le_of_ble_eq_true rfl, Nat.le_of_ble_eq_true rfl⟩) ⟨fun a U g mk q => ⟨q.1, q.2.call⟩, va_recv hK hP (ci := 1) (q0 := 0) rfl rfl, fun U hU hW => ⟨rfl, PB.of hU hW hPc hK hDc hNN hSF hS hFc⟩⟩ rfl rfl hl.1 rfl (lv_room (Nat.le_of_ble_eq_true rfl)) dX1_deedOf_122 ⟨Nat.le_of_ble_eq_true rfl, Nat.le_of_ble_eq_true rfl⟩) hS (fun q _ h => hFc q h) hFc (fun z_ u_ t H locs ht hvm hw hB hz1 hk1 hS => ?_)
                subst z_
                obtain ⟨hP1, hD1⟩ := hB
                rw [ht] at hP1
                have hJ := vb_join (ws' := (cwT cI h0 h1 h2 h3 h4 h5 tW)) hP hD [0, 1, 2, 3, 4, 5] [] [0, 1, 2, 3, 4, 5] rfl rfl (by decide) (by decide) hk1 hFc hP1 hD1 rfl (by decide) rfl
                clear hP hD hPc hDc hFc hP1 hD1 hk1 hz1 ht hvm hG
                obtain ⟨hP, hD⟩ := hJ
                refine lv_if_eq (tgt := 132) hx hb dX1_deedOf_125 (by decide) (fun hc => ?_) (fun hc => ?_)
                · have hF := ift hc hF
                  refine lv_iconst (v := nI 0) hx hb dX1_deedOf_132 (by decide) ?_
                  obtain rfl := Option.some.inj hF
                  exact W.iret (v := (nI 0)) hx hb hr (fun t ht hW => ⟨⟨(nI 0), (), rfl, rfl, QB.of ht hP hD⟩, hS.F ht⟩) hS.2.2 dX1_deedOf_133
                · have hF := iff_ hc hF
                  refine lv_iconst (v := nI 2) hx hb dX1_deedOf_128 (by decide) ?_
                  refine lv_goto (tgt := 133) hx hb dX1_deedOf_129 (by decide) ?_
                  obtain rfl := Option.some.inj hF
                  exact W.iret (v := (nI 2)) hx hb hr (fun t ht hW => ⟨⟨(nI 2), (), rfl, rfl, QB.of ht hP hD⟩, hS.F ht⟩) hS.2.2 dX1_deedOf_133
            · have hF := iff_ hc4 hF
              by_cases hc5 : (tW.1 x1.toNatClampNeg) = nI 5
              · have hF := ift hc5 hF
                refine lv_tableIn (off := 111) (tgt := 134) hx hb dX1_deedOf_23 (by rw [hc5]; decide) (by rw [hc5]; decide) (by rw [hc5]; rfl) (by decide) ?_
                refine lv_iload_n hx hb dX1_deedOf_134 rfl (lv_at hl 3 rfl) ?_
                refine lv_if_ne (tgt := 142) hx hb dX1_deedOf_135 (by decide) (fun hc => ?_) (fun hc => ?_)
                · have hF := ift hc hF
                  refine lv_iconst (v := nI 0) hx hb dX1_deedOf_142 (by decide) ?_
                  obtain rfl := Option.some.inj hF
                  exact W.iret (v := (nI 0)) hx hb hr (fun t ht hW => ⟨⟨(nI 0), (), rfl, rfl, QB.of ht hP hD⟩, hS.F ht⟩) hS.2.2 dX1_deedOf_143
                · have hF := iff_ (fun h => h hc) hF
                  refine lv_iconst (v := nI 1) hx hb dX1_deedOf_138 (by decide) ?_
                  refine lv_goto (tgt := 143) hx hb dX1_deedOf_139 (by decide) ?_
                  obtain rfl := Option.some.inj hF
                  exact W.iret (v := (nI 1)) hx hb hr (fun t ht hW => ⟨⟨(nI 1), (), rfl, rfl, QB.of ht hP hD⟩, hS.F ht⟩) hS.2.2 dX1_deedOf_143
              · have hF := iff_ hc5 hF
                refine lv_tableOut (tgt := 144) hx hb dX1_deedOf_23 (tb_out (lo := 0) (hi := 5) (by decide) (fun k h1 h2 => by rcases (show k = 0 ∨ k = 1 ∨ k = 2 ∨ k = 3 ∨ k = 4 ∨ k = 5 by omega) with rfl | rfl | rfl | rfl | rfl | rfl <;> assumption)) (by decide) ?_
                refine lv_iconst (v := nI 0) hx hb dX1_deedOf_144 (by decide) ?_
                obtain rfl := Option.some.inj hF
                exact W.iret (v := (nI 0)) hx hb hr (fun t ht hW => ⟨⟨(nI 0), (), rfl, rfl, QB.of ht hP hD⟩, hS.F ht⟩) hS.2.2 dX1_deedOf_145
  refine lv_icmp_ne (tgt := 14) hx hb dX1_deedOf_2 (by decide) (fun hc => ?_) (fun hc => ?_)
  · have hF := ift hc hF
    refine lv_iconst (v := nI 0) hx hb dX1_deedOf_14 (by decide) ?_
    exact kJ15 p1 p3 (nI 0) _ _ _ hF hP hD hS (lv_sub hl [0, 1, 3] rfl)
  · have hF := iff_ (fun h => h hc) hF
    refine lv_iload_n hx hb dX1_deedOf_5 rfl (lv_at hl 3 rfl) ?_
    refine lv_iconst (v := nI 2) hx hb dX1_deedOf_6 (by decide) ?_
    refine lv_icmp_lt (tgt := 14) hx hb dX1_deedOf_7 (by decide) (fun hc => ?_) (fun hc => ?_)
    · have hF := ift hc hF
      refine lv_iconst (v := nI 0) hx hb dX1_deedOf_14 (by decide) ?_
      exact kJ15 p1 p3 (nI 0) _ _ _ hF hP hD hS (lv_sub hl [0, 1, 3] rfl)
    · have hF := iff_ hc hF
      refine lv_iconst (v := nI 1) hx hb dX1_deedOf_10 (by decide) ?_
      refine lv_goto (tgt := 15) hx hb dX1_deedOf_11 (by decide) ?_
      exact kJ15 p1 p3 (nI 1) _ _ _ hF hP hD hS (lv_sub hl [0, 1, 3] rfl)
