/-! base: the worlds of the class and of the reference, what every contract takes as given, small lemmas -/
def nestWs : List Cond := [.methodLinkNest RX2 54 yX0_append RX2,
  .methodLinkNest RX2 57 yX0_spelling RX2,
  .methodLinkNest RX2 61 yX1_become RX2,
  .methodLinkNest RX2 65 yX0_tellStatement RX2,
  .methodLinkNest RX0 55 yX1_settle RX2,
  .methodLinkNest RX0 61 yX1_hear RX2,
  .methodLinkNest RX1 56 yX2_noTopic RX2,
  .methodLinkNest RX0 71 yX1_bury RX2,
  .methodLinkNest RX0 74 yX1_spend RX2,
  .methodLinkNest RX2 69 yX0_behindStatement RX2,
  .methodLinkNest RX2 85 yX1_isLiving RX2,
  .methodLinkNest RX2 88 yX1_lifeOf RX2,
  .methodLinkNest RX2 91 yX1_topicsOf RX2,
  .methodLinkNest RX2 97 yX1_wordOf RX2,
  .methodLinkNest RX2 101 yX1_book RX2,
  .methodLinkNest RX2 104 yX1_put RX2,
  .methodLinkNest RX2 108 yX1_bury RX2,
  .methodLinkNest RX2 111 yX1_howManyLive RX2,
  .methodLinkNest RX2 114 yX1_spend RX2,
  .methodLinkNest RX2 117 yX1_bookSize RX2,
  .methodLinkNest RX2 120 yX1_pass RX2,
  .methodLinkNest RX2 124 yX1_passFor RX2,
  .methodLinkNest RX2 128 yX1_everybody RX2,
  .methodLinkNest RX2 134 yX1_endOf RX2,
  .methodLinkNest RX2 142 yX1_passOne RX2,
  .methodLinkNest RX2 149 yX1_chapterOf RX2,
  .methodLinkNest RX2 157 yX1_livingYes RX2,
  .methodLinkNest RX2 160 yX1_livingNo RX2,
  .methodLinkNest RX2 163 yX1_isWritten RX2,
  .methodLinkNest RX2 178 yX1_denials RX2,
  .methodLinkNest RX2 225 yX1_growOlder RX2,
  .methodLinkNest RX2 197 yX1_agesOfLiving RX2,
  .methodLinkNest RX2 206 yX1_drawWords RX2,
  .methodLinkNest RX2 212 yX1_wordsOfLiving RX2,
  .fieldLinkNest RX2 76 "DeniedOfEachOther$Town" "kind" "[I" RX2,
  .fieldLinkNest RX2 79 "DeniedOfEachOther$Town" "figure" "[I" RX2,
  .fieldLinkNest RX2 82 "DeniedOfEachOther$Town" "age" "[I" RX2,
  .fieldLinkNest RX2 152 "DeniedOfEachOther$Town" "size" "I" RX2,
  .fieldLinkNest RX2 131 "DeniedOfEachOther$Town" "living" "I" RX2,
  .fieldLinkNest RX2 209 "DeniedOfEachOther$Town" "year" "I" RX2,
  .fieldLinkNest RX2 51 "DeniedOfEachOther$Letters" "size" "I" RX2,
  .fieldLinkNest RX1 53 "DeniedOfEachOther" "LIFE" "[I" RX2]
def NN (U : State) : Prop := ∀ w ∈ nestWs, va_Nw w U
def nestB (w : Cond) : Bool := match w with
  | .fieldLinkNest .. => true
  | .methodLinkNest .. => true
  | _ => false
theorem nest_all : nestWs.all nestB = true := rfl
theorem nest_tab : nestWs.all Cond.onTables = true := rfl
theorem NN.warm {s U : State} (hW : s.WarmedH U.vm) (h : NN s) : NN U := by
  intro w hw
  have hb := List.all_eq_true.mp nest_all w hw
  have h0 := h w hw
  cases w <;> first | exact va_Nw.warmF hW h0 | exact va_Nw.warmM hW h0 | cases hb
theorem NN.same {u U : State} (hv : u.vm = U.vm) (h : NN u) : NN U := fun w hw => va_Nw.same (List.all_eq_true.mp nest_tab w hw) hv (h w hw)
theorem NN.use {s : State} (h : NN s) (k : Nat) {w : Cond} (hk : nestWs[k]? = some w) {A : Array Value} : w.before A s = true := va_Nw.use (List.all_eq_true.mp nest_tab w (List.mem_of_getElem? hk)) (h w (List.mem_of_getElem? hk))
theorem NN.at {s : State} (h : NN s) (k : Nat) {w : Cond} (hk : nestWs[k]? = some w) : va_Nw w s := h w (List.mem_of_getElem? hk)
abbrev FA : Type := Nat → Int32
abbrev TownS : Type := FA × FA × FA × FA × FA × Int32 × Int32 × Int32
abbrev LetS : Type := FA × Int32
abbrev XS : Type := TownS × TownS × TownS × Int32 × LetS × FA × Int32 × FA × FA
abbrev MS : Type := FA × FA × FA × FA × Int32 × FA × FA × FA × Int32 × Int32 × Int32 × Int32 × FA × FA × Int32
abbrev cwT (cI : ClassId) (q qk qf qa qy qn : Nat) (w : TownS) : va_W := [(q, .inr (1, [.ref qk, .ref qf, .ref qa, .ref qy, .ref qn, .int w.2.2.2.2.2.1, .int w.2.2.2.2.2.2.1, .int w.2.2.2.2.2.2.2])), (qk, .inl (cI, 6, .inl w.1)), (qf, .inl (cI, 6, .inl w.2.1)), (qa, .inl (cI, 6, .inl w.2.2.1)), (qy, .inl (cI, 8, .inl w.2.2.2.1)), (qn, .inl (cI, 8, .inl w.2.2.2.2.1))]
abbrev cwL (cI : ClassId) (q qs : Nat) (w : LetS) : va_W := [(q, .inr (0, [.ref qs, .int w.2])), (qs, .inl (cI, 96, .inl w.1))]
abbrev cwA (cI : ClassId) (q : Nat) (f : FA) : va_W := [(q, .inl (cI, 74, .inl f))]
abbrev cwX (cI : ClassId) (a : Nat → Nat) (x : XS) : va_W := [(a 0, .inr (2, [.ref (a 1), .ref (a 7), .ref (a 13), .int x.2.2.2.1, .ref (a 19), .ref (a 21), .int x.2.2.2.2.2.2.1, .ref (a 22), .ref (a 23)])),
  (a 1, .inr (1, [.ref (a 2), .ref (a 3), .ref (a 4), .ref (a 5), .ref (a 6), .int x.1.2.2.2.2.2.1, .int x.1.2.2.2.2.2.2.1, .int x.1.2.2.2.2.2.2.2])), (a 2, .inl (cI, 6, .inl x.1.1)), (a 3, .inl (cI, 6, .inl x.1.2.1)), (a 4, .inl (cI, 6, .inl x.1.2.2.1)), (a 5, .inl (cI, 8, .inl x.1.2.2.2.1)), (a 6, .inl (cI, 8, .inl x.1.2.2.2.2.1)),
  (a 7, .inr (1, [.ref (a 8), .ref (a 9), .ref (a 10), .ref (a 11), .ref (a 12), .int x.2.1.2.2.2.2.2.1, .int x.2.1.2.2.2.2.2.2.1, .int x.2.1.2.2.2.2.2.2.2])), (a 8, .inl (cI, 6, .inl x.2.1.1)), (a 9, .inl (cI, 6, .inl x.2.1.2.1)), (a 10, .inl (cI, 6, .inl x.2.1.2.2.1)), (a 11, .inl (cI, 8, .inl x.2.1.2.2.2.1)), (a 12, .inl (cI, 8, .inl x.2.1.2.2.2.2.1)),
  (a 13, .inr (1, [.ref (a 14), .ref (a 15), .ref (a 16), .ref (a 17), .ref (a 18), .int x.2.2.1.2.2.2.2.2.1, .int x.2.2.1.2.2.2.2.2.2.1, .int x.2.2.1.2.2.2.2.2.2.2])), (a 14, .inl (cI, 6, .inl x.2.2.1.1)), (a 15, .inl (cI, 6, .inl x.2.2.1.2.1)), (a 16, .inl (cI, 6, .inl x.2.2.1.2.2.1)), (a 17, .inl (cI, 8, .inl x.2.2.1.2.2.2.1)), (a 18, .inl (cI, 8, .inl x.2.2.1.2.2.2.2.1)),
  (a 19, .inr (0, [.ref (a 20), .int x.2.2.2.2.1.2])), (a 20, .inl (cI, 96, .inl x.2.2.2.2.1.1)), (a 21, .inl (cI, 16, .inl x.2.2.2.2.2.1)), (a 22, .inl (cI, 7, .inl x.2.2.2.2.2.2.2.1)), (a 23, .inl (cI, 64, .inl x.2.2.2.2.2.2.2.2))]
abbrev cwM (cI : ClassId) (b : Nat → Nat) (y : MS) : va_W := [(b 0, .inr (3, [.ref (b 1), .ref (b 2), .ref (b 3), .ref (b 4), .int y.2.2.2.2.1, .ref (b 5), .ref (b 6), .ref (b 7), .int y.2.2.2.2.2.2.2.2.1, .int y.2.2.2.2.2.2.2.2.2.1, .int y.2.2.2.2.2.2.2.2.2.2.1, .int y.2.2.2.2.2.2.2.2.2.2.2.1, .ref (b 8), .ref (b 9), .int y.2.2.2.2.2.2.2.2.2.2.2.2.2.2])),
  (b 1, .inl (cI, 74, .inl y.1)), (b 2, .inl (cI, 74, .inl y.2.1)), (b 3, .inl (cI, 74, .inl y.2.2.1)), (b 4, .inl (cI, 74, .inl y.2.2.2.1)), (b 5, .inl (cI, 96, .inl y.2.2.2.2.2.1)), (b 6, .inl (cI, 16, .inl y.2.2.2.2.2.2.1)), (b 7, .inl (cI, 7, .inl y.2.2.2.2.2.2.2.1)), (b 8, .inl (cI, 3, .inl y.2.2.2.2.2.2.2.2.2.2.2.2.1)), (b 9, .inl (cI, 8, .inl y.2.2.2.2.2.2.2.2.2.2.2.2.2.1))]
abbrev SFP : Type := Nat × (Nat → Nat) × (Nat → Nat)
def lifeN : FA := fun j => nI ([60, 50, 80, 60, 65, 85].getD j 0)
def kindBs : List Int32 := [99, 104, 119, 102, 108, 107]
def SF (sf : SFP) (A : Nat → Prop) (U : State) (H : Heap) : Prop := va_Z "DeniedOfEachOther" "LIFE" "[I" (.ref sf.1) A U H ∧ va_T .int sf.1 6 (fun j => .int (lifeN j)) A U H ∧ vk_R "DeniedOfEachOther$Letters" 26 "chwflk" (sf.2.1 0) U ∧ vk_S 1 [6] [kindBs] sf.2.1 sf.2.2 A U H ∧ va_Z "java/lang/String" "COMPACT_STRINGS" "Z" (.int (nI 1)) A U H ∧ va_Zq "jdk/internal/util/Preconditions" "SIOOBE_FORMATTER" "Ljava/util/function/BiFunction;" A U H
theorem SF.call {sf : SFP} {A : Nat → Prop} {U : State} {H : Heap} {g : JFrame} {mk : MethodId} {a : Array Value} (h : SF sf A U H) : SF sf A (U.calling g mk a) H :=
  ⟨va_Z.moved (u := U) (U := U.calling g mk a) (Vm.Alike.refl U.vm) h.1, va_T.moved (u := U) (U := U.calling g mk a) (Vm.Alike.refl U.vm) h.2.1, vk_R.same (u := U) (U := U.calling g mk a) rfl h.2.2.1, vk_S.moved (u := U) (U := U.calling g mk a) (Vm.Alike.refl U.vm) h.2.2.2.1, va_Z.moved (u := U) (U := U.calling g mk a) (Vm.Alike.refl U.vm) h.2.2.2.2.1, va_Zq.moved (u := U) (U := U.calling g mk a) (Vm.Alike.refl U.vm) h.2.2.2.2.2⟩
theorem SF.pass {sf : SFP} {A B : Nat → Prop} {s U : State} {H : Heap} {locs : List Loc} (hW : s.WarmedH U.vm) (hS : va_S A s.heap H locs) (hAB : ∀ q, B q → A q) (h : SF sf A s s.heap) : SF sf B U H :=
  ⟨(va_Z.moved hW.alike (h.1.kept hS.2.1)).narrow hAB, (va_T.moved hW.alike (h.2.1.kept hS.2.1)).narrow hAB, vk_R.warm hW h.2.2.1, (vk_S.moved hW.alike (h.2.2.2.1.kept hS.2.1)).narrow hAB, (va_Z.moved hW.alike (h.2.2.2.2.1.kept hS.2.1)).narrow hAB, (va_Zq.moved hW.alike (h.2.2.2.2.2.kept hS.2.1)).narrow hAB⟩
/-- a method's start -/
def PB (D : va_G) (cI : ClassId) (ws : va_W) (sz : Nat) (sf : SFP) (U : State) : Prop := U.heap.size = sz ∧ va_P D vwCl ws U.heap ∧ va_K D vwCl [(cI, .int)] U ∧ va_D (fun _ => True) ws ∧ NN U ∧ SF sf (va_A ws sz) U U.heap
theorem PB.call {D : va_G} {cI : ClassId} {ws : va_W} {sz : Nat} {sf : SFP} {U : State} {g : JFrame} {mk : MethodId} {a : Array Value} (h : PB D cI ws sz sf U) : PB D cI ws sz sf (U.calling g mk a) :=
  ⟨h.1, h.2.1, va_K.moved (u := U) (U := U.calling g mk a) (Vm.Alike.refl U.vm) h.2.2.1, h.2.2.2.1, NN.same (u := U) (U := U.calling g mk a) rfl h.2.2.2.2.1, SF.call h.2.2.2.2.2⟩
theorem PB.of {D : va_G} {cI : ClassId} {wc : va_W} {sf : SFP} {s U : State} {H : Heap} {A : Nat → Prop} {locs : List Loc} (hU : U.heap = H) (hW : s.WarmedH U.vm) (hPc : va_P D vwCl wc H) (hK : va_K D vwCl [(cI, .int)] s) (hDc : va_D A wc) (hNN : NN s) (hSF : SF sf A s s.heap) (hS : va_S A s.heap H locs) (hFc : ∀ q, va_A wc H.size q → A q) : PB D cI wc H.size sf U := by
  subst hU
  exact ⟨rfl, hPc, va_K.moved hW.alike hK, hDc.weaken (fun _ _ _ _ => trivial), NN.warm hW hNN, SF.pass hW hS hFc hSF⟩
/-- a method's end -/
def QB (D : va_G) (ws : va_W) (A : Nat → Prop) (t : State) : Prop := va_P D vwCl ws t.heap ∧ va_D A ws
theorem QB.of {D : va_G} {ws : va_W} {A : Nat → Prop} {t : State} {H : Heap} (ht : t.heap = H) (hP : va_P D vwCl ws H) (hD : va_D A ws) : QB D ws A t := ⟨by rw [ht]; exact hP, hD⟩
theorem vb_join {A0 : Nat → Prop} {D : va_G} {cl : List vw_C} {ws wc w1 : va_W} {H H1 : Heap} (hP : va_P D cl ws H) (hD : va_D A0 ws) (isC isR perm : List Nat) (hC : isC.map (fun i => ws[i]?) = wc.map some) (hR : isR.map (fun i => ws[i]?) = (isR.filterMap (fun i => ws[i]?)).map some) (hn : va_nd isR = true) (hdis : ∀ i ∈ isR, i ∉ isC)
    (hk : ∀ q : Nat, q < H.size → ¬ va_A wc H.size q → H1[q]? = H[q]?) (hF : ∀ q, va_A wc H.size q → A0 q) (hP1 : va_P D cl w1 H1) (hD1 : va_D (va_A wc H.size) w1) {ws' : va_W} (hp : perm.filterMap (fun i => (isR.filterMap (fun i => ws[i]?) ++ w1)[i]?) = ws') (hpn : va_nd perm = true) (hp2 : perm.map (fun i => (isR.filterMap (fun i => ws[i]?) ++ w1)[i]?) = ws'.map some) : va_P D cl ws' H1 ∧ va_D A0 ws' := by
  obtain ⟨h1, h2⟩ := va_join hP hD isC isR hC hR hn hdis hk hF hP1 hD1
  exact ⟨h1.sub perm hp, h2.sub perm hpn hp2⟩
section VWH
variable {p : Program} {l : Launch} {e : Env} {R : Room} {s : State} {m : MethodId} {av : Array Value} {below : List Frame} {meth : Method} {c : Code} {H : Heap} {locs : List Loc} {cells slots : Nat} {Q : State → Prop} {g : JFrame}
theorem vW_have (T : Room → Array Value → (State → Prop) → Prop) (h1 : T R av Q) (h2 : T R av Q → W p l e R s m av below meth c H locs cells slots Q g) : W p l e R s m av below meth c H locs cells slots Q g := h2 h1
end VWH
/-- the checks of the machine, in a method's value -/
def ckI {α : Type} (i : Int32) (n : Nat) (k : Option α) : Option α := if i < 0 ∨ n ≤ i.toNatClampNeg then none else k
def ckZ {α : Type} (y : Int32) (k : Option α) : Option α := if y = 0 then none else k
def ckL {α : Type} (y : Int64) (k : Option α) : Option α := if y = 0 then none else k
def ckB {α : Type} (y : Int32) (k : Option α) : Option α := if y = 0 ∨ y = 1 then k else none
theorem cki {α : Type} {i : Int32} {n : Nat} {k : Option α} {r : α} {C : Prop} (h : ckI i n k = some r) (f : vp_in i n → k = some r → C) : C := by
  unfold ckI at h
  split at h
  · cases h
  · rename_i h2; exact f h2 h
theorem ckz {α : Type} {y : Int32} {k : Option α} {r : α} {C : Prop} (h : ckZ y k = some r) (f : ¬ y = 0 → k = some r → C) : C := by
  unfold ckZ at h
  split at h
  · cases h
  · rename_i h2; exact f h2 h
theorem ckl {α : Type} {y : Int64} {k : Option α} {r : α} {C : Prop} (h : ckL y k = some r) (f : ¬ y = 0 → k = some r → C) : C := by
  unfold ckL at h
  split at h
  · cases h
  · rename_i h2; exact f h2 h
theorem ckb {α : Type} {y : Int32} {k : Option α} {r : α} {C : Prop} (h : ckB y k = some r) (f : (narrow .boolean (.int y) = .int y ∧ fits .boolean (.int y) = true) → k = some r → C) : C := by
  unfold ckB at h
  split at h
  · rename_i h2
    refine f ?_ h
    rcases h2 with rfl | rfl <;> exact ⟨by decide +kernel, by decide +kernel⟩
  · cases h
def ckC {α : Type} (y : Int32) (k : Option α) : Option α := if (y.toUInt32 % 65536).toInt32 = y then k else none
theorem ckc {α : Type} {y : Int32} {k : Option α} {r : α} {C : Prop} (h : ckC y k = some r) (f : narrow .char (.int y) = .int y → k = some r → C) : C := by
  unfold ckC at h
  split at h
  · rename_i h2
    exact f (by rw [← h2]; exact pk_nc _) h
  · cases h
theorem bd {α β : Type} {x : Option α} {k : α → Option β} {r : β} {C : Prop} (h : x.bind k = some r) (f : ∀ a, x = some a → k a = some r → C) : C := by
  cases x with
  | none => cases h
  | some a => exact f a rfl h
theorem nn {α : Type} {r : α} {C : Prop} (h : (none : Option α) = some r) : C := by cases h
theorem ift {α : Type} {c : Prop} {inst : Decidable c} {A B : Option α} {r : α} (hc : c) (h : (@ite _ c inst A B) = some r) : A = some r := (if_pos hc).symm.trans h
theorem iff_ {α : Type} {c : Prop} {inst : Decidable c} {A B : Option α} {r : α} (hc : ¬ c) (h : (@ite _ c inst A B) = some r) : B = some r := (if_neg hc).symm.trans h
theorem tb_out {x : Int32} {lo hi : Nat} (hhi : hi < 2147483648) (h : ∀ k, lo ≤ k → k ≤ hi → ¬ x = nI k) : x.toInt < (lo : Int) ∨ (hi : Int) < x.toInt := by
  by_cases h1 : x.toInt < (lo : Int)
  · exact Or.inl h1
  by_cases h2 : (hi : Int) < x.toInt
  · exact Or.inr h2
  exfalso
  have e : x = nI x.toInt.toNat := by
    apply Int32.toInt_inj.mp
    rw [nI_toInt (by omega)]
    omega
  exact h x.toInt.toNat (by omega) (by omega) e
theorem sw_ne {x : Int32} {k : Nat} (hk : k < 2147483648) (h : ¬ x = nI k) : ¬ (k : Int) = x.toInt := fun e => h (Int32.toInt_inj.mp (by rw [nI_toInt hk]; exact e.symm))
