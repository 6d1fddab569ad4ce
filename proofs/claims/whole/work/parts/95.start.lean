theorem start_known {s : State} {b : Addr} (hts0 : ∀ w ∈ lw_tbl, w.before #[Value.ref b] s = true) : ∃ (dC : Nat → ClassId) (dI : Nat → Nat → Nat), va_K (dC, dI) vwCl [] s := by
  obtain ⟨c0, iS0, hKn0⟩ := u_known (C := RX0) (T := TX0) (N := 2) (n := 2) hts0 inX0 (hts0 (.instantiable RX0 2) (List.mem_append_right _ (List.mem_of_getElem? (i := 59) (by decide +kernel))))
  obtain ⟨c1, iS1, hKn1⟩ := u_known (C := RX1) (T := TX1) (N := 8) (n := 8) hts0 inX1 (hts0 (.instantiable RX1 8) (List.mem_append_right _ (List.mem_of_getElem? (i := 21) (by decide +kernel))))
  obtain ⟨c2, iS2, hKn2⟩ := u_known (C := RX2) (T := TX2) (N := 9) (n := 9) hts0 inX2 (hts0 (.instantiable RX2 9) (List.mem_append_right _ (List.mem_of_getElem? (i := 13) (by decide +kernel))))
  obtain ⟨c3, iS3, hKn3⟩ := u_known (C := RX3) (T := TX3) (N := 15) (n := 15) hts0 inX3 (hts0 (.instantiable RX3 15) (List.mem_append_right _ (List.mem_of_getElem? (i := 568) (by decide +kernel))))
  refine ⟨fun k => match k with | 0 => c0 | 1 => c1 | 2 => c2 | _ => c3, fun k => match k with | 0 => iS0 | 1 => iS1 | 2 => iS2 | _ => iS3, ?_, fun k q h => by simp at h⟩
  intro k q hq
  match k, hq with
  | 0, hq => cases hq; exact hKn0
  | 1, hq => cases hq; exact hKn1
  | 2, hq => cases hq; exact hKn2
  | 3, hq => cases hq; exact hKn3
  | k + 4, hq => simp [vwCl] at hq
theorem start_NN {s : State} {b : Addr} (hts0 : ∀ w ∈ lw_tbl, w.before #[Value.ref b] s = true) : NN s := fun w hw => va_Nw.of (List.all_eq_true.mp nest_tab w hw) (hts0 w (nest_in w hw))
theorem start_SF {s : State} {b : Addr} (hts0 : ∀ w ∈ lw_tbl, w.before #[Value.ref b] s = true) (hgv : (Jvm.Cond.and given_1 narrow_1).before #[Value.ref b] s = true) : ∃ sf : SFP, SF sf (fun q : Nat => s.heap.size ≤ q) s s.heap := by
  have hs := flat_of_before _ hgv
  have hA : ∀ a : Nat, a < s.heap.size → ¬ (fun q : Nat => s.heap.size ≤ q) a := fun a h => Nat.not_le.mpr h
  obtain ⟨t, ht, hT⟩ := va_Tof (tm := .static "DeniedOfEachOther" "LIFE" "[I") (ty := .int) (N := 6) (f := fun j => .int (lifeN j)) (A := fun q : Nat => s.heap.size ≤ q) (args := #[Value.ref b]) (s := s) (by decide) (hs _ (by decide +kernel)) (va_eqt (hs (Cond.eq (.length (.static "DeniedOfEachOther" "LIFE" "[I")) (.int 6)) (by decide +kernel))) (fun j hj => by
    rcases (show j = 0 ∨ j = 1 ∨ j = 2 ∨ j = 3 ∨ j = 4 ∨ j = 5 by omega) with rfl | rfl | rfl | rfl | rfl | rfl
    · exact va_eqt (hs (Cond.eq (.elem (.static "DeniedOfEachOther" "LIFE" "[I") (.int 0)) (.int 60)) (by decide +kernel))
    · exact va_eqt (hs (Cond.eq (.elem (.static "DeniedOfEachOther" "LIFE" "[I") (.int 1)) (.int 50)) (by decide +kernel))
    · exact va_eqt (hs (Cond.eq (.elem (.static "DeniedOfEachOther" "LIFE" "[I") (.int 2)) (.int 80)) (by decide +kernel))
    · exact va_eqt (hs (Cond.eq (.elem (.static "DeniedOfEachOther" "LIFE" "[I") (.int 3)) (.int 60)) (by decide +kernel))
    · exact va_eqt (hs (Cond.eq (.elem (.static "DeniedOfEachOther" "LIFE" "[I") (.int 4)) (.int 65)) (by decide +kernel))
    · exact va_eqt (hs (Cond.eq (.elem (.static "DeniedOfEachOther" "LIFE" "[I") (.int 5)) (.int 85)) (by decide +kernel))) hA
  have hZ := va_Zref (hts0 (.laysStatic "DeniedOfEachOther" "LIFE" "[I") (List.mem_append_right _ (List.mem_of_getElem? (i := 263) (by decide +kernel)))) (hts0 (.initialized "DeniedOfEachOther") (List.mem_append_right _ (List.mem_of_getElem? (i := 1) (by decide +kernel)))) ht hA
  have z1 : ∀ i : Nat, i < 1 → i = 0 := fun i hi => by omega
  obtain ⟨adK, adV, hS, hSe⟩ := vk_Sof (args := #[Value.ref b]) (s := s) (N := 1) (tm := fun _ => .string "DeniedOfEachOther$Letters" 26) (len := [6]) (byt := [kindBs]) (A := fun q : Nat => s.heap.size ≤ q) (fun i hi => by rw [z1 i hi]; decide) (fun i _ => hs (Cond.exactly (.string "DeniedOfEachOther$Letters" 26) "java/lang/String") (by decide +kernel)) (fun i _ => hs (Cond.eq (.field (.string "DeniedOfEachOther$Letters" 26) "java/lang/String" "coder" "B") (.int 0)) (by decide +kernel)) (fun i _ => hs (Cond.arrayOf (.field (.string "DeniedOfEachOther$Letters" 26) "java/lang/String" "value" "[B") .byte) (by decide +kernel)) (fun i hi => by rw [z1 i hi]; exact hs (Cond.eq (.length (.field (.string "DeniedOfEachOther$Letters" 26) "java/lang/String" "value" "[B")) (.int 6)) (by decide +kernel)) (fun i hi j hj => by
    have hi0 := z1 i hi
    subst hi0
    have hj : j < 6 := hj
    rcases (show j = 0 ∨ j = 1 ∨ j = 2 ∨ j = 3 ∨ j = 4 ∨ j = 5 by omega) with rfl | rfl | rfl | rfl | rfl | rfl
    · exact hs (Cond.eq (.elem (.field (.string "DeniedOfEachOther$Letters" 26) "java/lang/String" "value" "[B") (.int 0)) (.int 99)) (by decide +kernel)
    · exact hs (Cond.eq (.elem (.field (.string "DeniedOfEachOther$Letters" 26) "java/lang/String" "value" "[B") (.int 1)) (.int 104)) (by decide +kernel)
    · exact hs (Cond.eq (.elem (.field (.string "DeniedOfEachOther$Letters" 26) "java/lang/String" "value" "[B") (.int 2)) (.int 119)) (by decide +kernel)
    · exact hs (Cond.eq (.elem (.field (.string "DeniedOfEachOther$Letters" 26) "java/lang/String" "value" "[B") (.int 3)) (.int 102)) (by decide +kernel)
    · exact hs (Cond.eq (.elem (.field (.string "DeniedOfEachOther$Letters" 26) "java/lang/String" "value" "[B") (.int 4)) (.int 108)) (by decide +kernel)
    · exact hs (Cond.eq (.elem (.field (.string "DeniedOfEachOther$Letters" 26) "java/lang/String" "value" "[B") (.int 5)) (.int 107)) (by decide +kernel)) (fun i j hi hj hne => absurd ((z1 i hi).trans (z1 j hj).symm) hne) hA
  have hR := vk_R.of (tx := "chwflk") (hts0 (.stringRef "DeniedOfEachOther$Letters" 26 "chwflk") (List.mem_append_right _ (List.mem_of_getElem? (i := 132) (by decide +kernel)))) (hSe 0 (by decide))
  have hC := va_Zof (hts0 (.laysStatic "java/lang/String" "COMPACT_STRINGS" "Z") (List.mem_append_right _ (List.mem_of_getElem? (i := 142) (by decide +kernel)))) (hts0 (.initialized "java/lang/String") (List.mem_append_right _ (List.mem_of_getElem? (i := 5) (by decide +kernel)))) (va_eqi (hs (Cond.eq (.static "java/lang/String" "COMPACT_STRINGS" "Z") (.int 1)) (by decide +kernel))) hA
  have hQ := va_Zqof (hts0 (.laysStatic "jdk/internal/util/Preconditions" "SIOOBE_FORMATTER" "Ljava/util/function/BiFunction;") (List.mem_append_right _ (List.mem_of_getElem? (i := 158) (by decide +kernel)))) (hts0 (.initialized "jdk/internal/util/Preconditions") (List.mem_append_right _ (List.mem_of_getElem? (i := 7) (by decide +kernel)))) (hs (Cond.isRef (.static "jdk/internal/util/Preconditions" "SIOOBE_FORMATTER" "Ljava/util/function/BiFunction;")) (by decide +kernel)) hA
  exact ⟨(t, adK, adV), hZ, hT, hR, hS, hC, hQ⟩
set_option maxHeartbeats 8000000 in
set_option maxRecDepth 100000 in
theorem whole_start {p : Program} {e : Env} {s : State} {m : MethodId} {below : List Frame} {meth : Method} {c : Code} (l : Launch) (hflags : l.flags = flags0) {b L : Nat} {xs : Nat → Int32} (hL : L ≤ 2560) (C0 : lw_At p s m meth c b L xs) : W p l e room_1 s m #[Value.ref b] below meth c s.heap [] 0 0 (lw_Z below #[Value.ref b] s) (entryFrame m ([Value.ref b] : List Value).toArray 4) := by
  obtain ⟨hx, hb, hr, hml, hown, hts0, hX, hbl, hlocks, hgv⟩ := id C0
  have hown : s.vm.findClass RL = some m.cls := hown
  have hts : ∀ w ∈ wsL_law, w.before #[Value.ref b] s = true := fun w h => hts0 w (wsL_law_in w h)
  have hNN := start_NN hts0
  obtain ⟨sf, hSF⟩ := start_SF hts0 hgv
  obtain ⟨dC, dI, hK⟩ := start_known hts0
  have hA : ∀ q : Nat, s.heap.size ≤ q → (fun q : Nat => s.heap.size ≤ q) q := fun _ h => h
  have hS : va_S (fun q : Nat => s.heap.size ≤ q) s.heap s.heap [] := va_S.rf
  have hP : va_P (dC, dI) vwCl [] s.heap := fun k q h => by simp at h
  have hD : va_D (fun q : Nat => s.heap.size ≤ q) [] := ⟨fun i j p q h => by simp at h, fun k q h => by simp at h⟩
  have hl := lv_entry ([.ref b]) (n := 4) (Nat.le_of_ble_eq_true rfl)
  rw [lg_entry_eq]
  generalize (lg_sl ([.ref b]) ++ List.replicate (4 - (lg_sl ([.ref b])).length) Slot.unset).toArray = ls at hl ⊢
  have hl : lv_has ls 4 [(0, .ref b)] := hl
  refine va_new (ci := 2) (fs := [.null, .null, .null, .int 0, .null, .null, .int 0, .null, .null]) (C := RX2) (T := TX2) (N := 9) hx hb hts0 inX2 tyX2 tyX2_ok hown (hts0 (.classLink RL 7 RX2) (List.mem_append_right _ (List.mem_of_getElem? (i := 12) (by decide +kernel)))) (hts0 (.instantiable RX2 9) (List.mem_append_right _ (List.mem_of_getElem? (i := 13) (by decide +kernel)))) (hts0 (.initialized RX2) (List.mem_append_right _ (List.mem_of_getElem? (i := 1) (by decide +kernel)))) hK hP hD hS hA rfl (fun j hj => by rcases (show j = 0 ∨ j = 1 ∨ j = 2 ∨ j = 3 ∨ j = 4 ∨ j = 5 ∨ j = 6 ∨ j = 7 ∨ j = 8 by omega) with rfl | rfl | rfl | rfl | rfl | rfl | rfl | rfl | rfl <;> rfl) (Nat.le_of_ble_eq_true rfl) (Nat.le_of_ble_eq_true rfl) dL_law_0 (fun q0 H hP hD hS => ?_)
  have hP : va_P (dC, dI) vwCl [(q0, .inr (2, [.null, .null, .null, .int 0, .null, .null, .int 0, .null, .null]))] H := hP
  have hD : va_D (fun q : Nat => s.heap.size ≤ q) [(q0, .inr (2, [.null, .null, .null, .int 0, .null, .null, .int 0, .null, .null]))] := hD
  refine lv_dup hx hb dL_law_3 rfl ?_
  have hPc := hP.sub (ws' := [(q0, .inr (2, [.null, .null, .null, .int 0, .null, .null, .int 0, .null, .null]))]) [0] rfl
  have hDc := hD.sub (ws' := [(q0, .inr (2, [.null, .null, .null, .int 0, .null, .null, .int 0, .null, .null]))]) [0] (by decide) rfl
  have hFc := va_free (wc := [(q0, .inr (2, [.null, .null, .null, .int 0, .null, .null, .int 0, .null, .null]))]) hD hS hA [0] rfl
  have hKc := hK.sub (tys' := []) [] rfl
  refine va_callv (va_runI (As := []) (rest := [.ref q0]) ⟨hx, hb, hml, hown, hts⟩ (c_X2_init l dC dI q0 H.size) (cwI 0 hts gL_law_X2_init rfl rfl rfl (hts0 (.initialized RX2) (List.mem_append_right _ (List.mem_of_getElem? (i := 1) (by decide +kernel)))) (hts0 (.methodLink RL 9 yX2_init) (List.mem_append_right _ (List.mem_of_getElem? (i := 14) (by decide +kernel)))) (hts0 (.instanceMethod yX2_init) (List.mem_append_right _ (List.mem_of_getElem? (i := 15) (by decide +kernel)))) rfl (by decide +kernel) ⟨Nat.le_of_ble_eq_true rfl, Nat.le_of_ble_eq_true rfl⟩) ⟨fun a U g mk q => ⟨q.1, q.2.call⟩, fun U hU hW => ⟨rfl, PB0.of hU hW hPc hKc hDc⟩⟩ rfl rfl hl.1 rfl (lv_room (Nat.le_of_ble_eq_true rfl)) dL_law_4 ⟨Nat.le_of_ble_eq_true rfl, Nat.le_of_ble_eq_true rfl⟩) hS (fun q _ h => hFc q h) hFc (fun u t H locs ht hvm hw hB hz1 hk1 hS => ?_)
  obtain ⟨cI, a⟩ := u
  obtain ⟨e0, hP1, hK1, hD1⟩ := hB
  rw [ht] at hP1
  have hK1 := va_K.moved hvm.symm hK1
  have hP1 : va_P (dC, dI) vwCl (cwX cI a zeroX) H := hP1
  have hD1 : va_D _ (cwX cI a zeroX) := hD1
  have e0 : a 0 = q0 := e0
  subst e0
  have hJ := vb_join (ws' := (cwX cI a zeroX)) hP hD [0] [] [0, 1, 2, 3, 4, 5, 6, 7, 8, 9, 10, 11, 12, 13, 14, 15, 16, 17, 18, 19, 20, 21, 22, 23] rfl rfl (by decide) (by decide) hk1 hFc hP1 hD1 rfl (by decide) rfl
  have hK : va_K (dC, dI) vwCl [(cI, .int)] s := hK1
  clear hP hD hPc hDc hFc hP1 hD1 hk1 hz1 ht hvm
  obtain ⟨hP, hD⟩ := hJ
  refine lv_astore_n (lv' := [(1, .ref (a 0)), (0, .ref b)]) hx hb dL_law_7 rfl hl (by decide) rfl (fun ls hl => ?_)
  refine va_new (ci := 3) (fs := [.null, .null, .null, .null, .int 0, .null, .null, .null, .int 0, .int 0, .int 0, .int 0, .null, .null, .int 0]) (C := RX3) (T := TX3) (N := 15) hx hb hts0 inX3 tyX3 tyX3_ok hown (hts0 (.classLink RL 10 RX3) (List.mem_append_right _ (List.mem_of_getElem? (i := 567) (by decide +kernel)))) (hts0 (.instantiable RX3 15) (List.mem_append_right _ (List.mem_of_getElem? (i := 568) (by decide +kernel)))) (hts0 (.initialized RX3) (List.mem_append_right _ (List.mem_of_getElem? (i := 4) (by decide +kernel)))) hK hP hD hS hA rfl (fun j hj => by rcases (show j = 0 ∨ j = 1 ∨ j = 2 ∨ j = 3 ∨ j = 4 ∨ j = 5 ∨ j = 6 ∨ j = 7 ∨ j = 8 ∨ j = 9 ∨ j = 10 ∨ j = 11 ∨ j = 12 ∨ j = 13 ∨ j = 14 by omega) with rfl | rfl | rfl | rfl | rfl | rfl | rfl | rfl | rfl | rfl | rfl | rfl | rfl | rfl | rfl <;> rfl) (Nat.le_of_ble_eq_true rfl) (Nat.le_of_ble_eq_true rfl) dL_law_8 (fun q8 H hP hD hS => ?_)
  have hP : va_P (dC, dI) vwCl (cwX cI a zeroX ++ [(q8, .inr (3, [.null, .null, .null, .null, .int 0, .null, .null, .null, .int 0, .int 0, .int 0, .int 0, .null, .null, .int 0]))]) H := hP
  have hD : va_D (fun q : Nat => s.heap.size ≤ q) (cwX cI a zeroX ++ [(q8, .inr (3, [.null, .null, .null, .null, .int 0, .null, .null, .null, .int 0, .int 0, .int 0, .int 0, .null, .null, .int 0]))]) := hD
  refine lv_dup hx hb dL_law_11 rfl ?_
  have hPc := hP.sub (ws' := [(q8, .inr (3, [.null, .null, .null, .null, .int 0, .null, .null, .null, .int 0, .int 0, .int 0, .int 0, .null, .null, .int 0]))]) [24] rfl
  have hDc := hD.sub (ws' := [(q8, .inr (3, [.null, .null, .null, .null, .int 0, .null, .null, .null, .int 0, .int 0, .int 0, .int 0, .null, .null, .int 0]))]) [24] (by decide) rfl
  have hFc := va_free (wc := [(q8, .inr (3, [.null, .null, .null, .null, .int 0, .null, .null, .null, .int 0, .int 0, .int 0, .int 0, .null, .null, .int 0]))]) hD hS hA [24] rfl
  have hKc := hK.sub (tys' := []) [] rfl
  refine va_callv (va_runI (As := []) (rest := [.ref q8]) ⟨hx, hb, hml, hown, hts⟩ (c_X3_init l dC dI q8 H.size) (cwI 0 hts gL_law_X3_init rfl rfl rfl (hts0 (.initialized RX3) (List.mem_append_right _ (List.mem_of_getElem? (i := 4) (by decide +kernel)))) (hts0 (.methodLink RL 12 yX3_init) (List.mem_append_right _ (List.mem_of_getElem? (i := 569) (by decide +kernel)))) (hts0 (.instanceMethod yX3_init) (List.mem_append_right _ (List.mem_of_getElem? (i := 570) (by decide +kernel)))) rfl (by decide +kernel) ⟨Nat.le_of_ble_eq_true rfl, Nat.le_of_ble_eq_true rfl⟩) ⟨fun a U g mk q => ⟨q.1, q.2.call⟩, fun U hU hW => ⟨rfl, PB0.of hU hW hPc hKc hDc⟩⟩ rfl rfl hl.1 rfl (lv_room (Nat.le_of_ble_eq_true rfl)) dL_law_12 ⟨Nat.le_of_ble_eq_true rfl, Nat.le_of_ble_eq_true rfl⟩) hS (fun q _ h => hFc q h) hFc (fun u t H locs ht hvm hw hB hz1 hk1 hS => ?_)
  obtain ⟨cJ, d⟩ := u
  obtain ⟨e2, hP2, hK2, hD2⟩ := hB
  rw [ht] at hP2
  have hK2 := va_K.moved hvm.symm hK2
  have hcc := va_same (hK.app hK2)
  have hcc : cJ = cI := hcc
  subst hcc
  have hP2 : va_P (dC, dI) vwCl (cwM cJ d zeroM) H := hP2
  have hD2 : va_D _ (cwM cJ d zeroM) := hD2
  have e2 : d 0 = q8 := e2
  subst e2
  have hJ := vb_join (ws' := (cwX cJ a zeroX ++ cwM cJ d zeroM)) hP hD [24] [0, 1, 2, 3, 4, 5, 6, 7, 8, 9, 10, 11, 12, 13, 14, 15, 16, 17, 18, 19, 20, 21, 22, 23] [0, 1, 2, 3, 4, 5, 6, 7, 8, 9, 10, 11, 12, 13, 14, 15, 16, 17, 18, 19, 20, 21, 22, 23, 24, 25, 26, 27, 28, 29, 30, 31, 32, 33] rfl rfl (by decide) (by decide) hk1 hFc hP2 hD2 rfl (by decide) rfl
  clear hP hD hPc hDc hFc hP2 hD2 hk1 hz1 ht hvm
  obtain ⟨hP, hD⟩ := hJ
  refine lv_astore_n (lv' := [(2, .ref (d 0)), (1, .ref (a 0)), (0, .ref b)]) hx hb dL_law_15 rfl hl (by decide) rfl (fun ls hl => ?_)
  refine W.widen (k := 40) (n := 1000) (Nat.le_of_ble_eq_true rfl) (Nat.le_of_ble_eq_true rfl) ?_
  exact law_body l dC dI cJ sf 5000 C0 a d zeroX zeroM hNN hSF hK () (law_true hL xs) hP hD hS hl
