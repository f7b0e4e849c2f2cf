/-! GENERIC: one word list for all methods, one form of contract, calls and returns in it -/
def wT : List Cond := lw_tbl.filter goodWord
theorem wT_of {w : Cond} (h : w ∈ lw_tbl) (g : goodWord w = true) : w ∈ wT := List.mem_filter.mpr ⟨h, g⟩
theorem wT_self : ∀ w ∈ wT, (w.onTables && w.keeps) = true ∨ ∃ ty, w = .arrayClass ty := fun w h => good_of_word (List.mem_filter.mp h).2
theorem wT_good {c : Cond} {ws : List Cond} (h : ∀ w ∈ ws, w ∈ wT) : GoodIn (c :: wT) ws := fun w hw => ⟨List.mem_cons_of_mem _ (h w hw), wT_self w (h w hw)⟩
abbrev wM (y : MethodName) (cc : ByteArray) (n : Nat) (ret : Option FieldType) : List Cond := Cond.code y cc n ret :: wT
-- booleans of the machine
def bI (b : Bool) : Int32 := if b then 1 else 0
theorem bI_t : bI true = 1 := rfl
theorem bI_f : bI false = 0 := rfl
theorem bI_0 {b : Bool} (h : bI b = 0) : ¬ b = true := by cases b with
  | false => decide
  | true => exact absurd h (by decide)
theorem bI_n {b : Bool} (h : ¬ bI b = 0) : b = true := by cases b with
  | false => exact absurd rfl h
  | true => rfl
theorem bI_nar (b : Bool) : narrow .boolean (.int (bI b)) = .int (bI b) := by cases b <;> decide
-- the pure side: a checked index, a named value
def ck {α : Type} (i : Int32) (n : Nat) (k : Option α) : Option α := if i < 0 ∨ n ≤ i.toNatClampNeg then none else k
theorem ck_some {α : Type} {i : Int32} {n : Nat} {k : Option α} {r : α} (h : ck i n k = some r) : vp_in i n ∧ k = some r := by
  unfold ck at h
  by_cases c : i < 0 ∨ n ≤ i.toNatClampNeg
  · rw [if_pos c] at h; cases h
  · rw [if_neg c] at h; exact ⟨c, h⟩
theorem ck_in {α : Type} {i : Int32} {n : Nat} {k : Option α} (h : vp_in i n) : ck i n k = k := if_neg h
def lt {α β : Type} (a : α) (k : α → β) : β := k a
theorem lt_eq {α β : Type} {a y : α} {k : α → β} {r : β} (h : lt a k = r) (e : y = a) : k y = r := by subst e; exact h
def bd {α β : Type} (a : Option α) (k : α → Option β) : Option β := match a with
  | none => none
  | some x => k x
theorem bd_some {α β : Type} {a : Option α} {k : α → Option β} {r : β} (h : bd a k = some r) : ∃ x, a = some x ∧ k x = some r := by
  cases a with
  | none => cases h
  | some x => exact ⟨x, rfl, h⟩
theorem bd_of {α β : Type} {a : Option α} {k : α → Option β} {x : α} (h : a = some x) : bd a k = k x := by rw [h]; rfl
def FU : Nat := 100000
-- the strings of the system, by their places: false, true, null, hexadecimal digits, 2 to the 64, \u00
def gTx : List (List Int32) := [[102, 97, 108, 115, 101], [116, 114, 117, 101], [110, 117, 108, 108], [48, 49, 50, 51, 52, 53, 54, 55, 56, 57, 97, 98, 99, 100, 101, 102], [49, 56, 52, 52, 54, 55, 52, 52, 48, 55, 51, 55, 48, 57, 53, 53, 49, 54, 49, 54], [92, 117, 48, 48]]
def gLn : List Nat := [5, 4, 4, 16, 20, 4]
abbrev gSt : List (String × Nat × String × Nat) := [("TextBridge$JsonReader", 45, "false", 0), ("TextBridge$JsonReader", 51, "true", 1), ("TextBridge$JsonReader", 53, "null", 2), ("TextBridge$CborReader", 121, "0123456789abcdef", 3), ("TextBridge$CborReader", 63, "false", 0), ("TextBridge$CborReader", 67, "true", 1), ("TextBridge$CborReader", 69, "null", 2), ("TextBridgeModel", 161, "false", 0), ("TextBridgeModel", 167, "true", 1), ("TextBridgeModel", 169, "null", 2), ("TextBridgeModel", 109, "18446744073709551616", 4), ("TextBridgeModel", 240, "\\u00", 5)]
abbrev gNs : List (String × Nat × MethodName) := [(RX3, 48, yX4_shortestInfo), (RX3, 52, yX4_bytesBehind), (RX1, 109, yX4_signLength), (RX0, 83, yX4_bytesBehind), (RX0, 90, yX4_shortestInfo), (RX0, 108, yX4_signLength)]
def gR (aK : Nat → Nat) (U : State) : Prop := (∀ q ∈ gSt, vk_R q.1 q.2.1 q.2.2.1 (aK q.2.2.2) U) ∧ ∀ q ∈ gNs, va_Nw (.methodLinkNest q.1 q.2.1 q.2.2 "TextBridge") U
theorem gR.same {aK : Nat → Nat} {u U : State} (hv : U.vm = u.vm) (h : gR aK u) : gR aK U := ⟨fun q hq => (h.1 q hq).same hv, fun q hq => va_Nw.same rfl hv.symm (h.2 q hq)⟩
theorem gR.warm {aK : Nat → Nat} {s U : State} (hW : s.WarmedH U.vm) (h : gR aK s) : gR aK U := ⟨fun q hq => (h.1 q hq).warm hW, fun q hq => va_Nw.warmM hW (h.2 q hq)⟩
def gH (aK aV : Nat → Nat) (A : Nat → Prop) (U : State) (H : Heap) : Prop := vk_S 6 gLn gTx aK aV A U H ∧ va_Z "java/lang/String" "COMPACT_STRINGS" "Z" (.int 1) A U H ∧ va_Zq "jdk/internal/util/Preconditions" "SIOOBE_FORMATTER" "Ljava/util/function/BiFunction;" A U H
theorem gH.moved {aK aV : Nat → Nat} {A : Nat → Prop} {u U : State} {H : Heap} (hvm : u.vm.Alike U.vm) (h : gH aK aV A u H) : gH aK aV A U H := ⟨h.1.moved hvm, h.2.1.moved hvm, h.2.2.moved hvm⟩
theorem gH.kept {aK aV : Nat → Nat} {A : Nat → Prop} {U : State} {H H1 : Heap} (h : gH aK aV A U H) (hq : ∀ a : Nat, a < H.size → ¬ A a → H1[a]? = H[a]?) : gH aK aV A U H1 := ⟨h.1.kept hq, h.2.1.kept hq, h.2.2.kept hq⟩
theorem gH.narrow {aK aV : Nat → Nat} {A B : Nat → Prop} {U : State} {H : Heap} (h : gH aK aV A U H) (hAB : ∀ q, B q → A q) : gH aK aV B U H := ⟨h.1.narrow hAB, h.2.1.narrow hAB, h.2.2.narrow hAB⟩
-- the contract
def cP (D : va_G) (tys : List (ClassId × FieldType)) (aK aV : Nat → Nat) (w : va_W) (sz : Nat) (U : State) : Prop := U.heap.size = sz ∧ va_P D vwCl w U.heap ∧ va_K D vwCl tys U ∧ va_D (fun _ => True) w ∧ gR aK U ∧ gH aK aV (va_A w sz) U U.heap
def cQ (D : va_G) (tys : List (ClassId × FieldType)) (A : Nat → Prop) (w : va_W) (ov : Option Value) : Array Value → State → Outcome → State → Prop := fun _ st o t => (o = .returned ov ∧ va_P D vwCl w t.heap ∧ va_K D vwCl tys t ∧ va_D A w) ∧ va_F A st t
def CT (l : Launch) (D : va_G) (tys : List (ClassId × FieldType)) (aK aV : Nat → Nat) (y : MethodName) (ws : List Cond) (rm : Room) (mc ms : Nat) (av : List Value) (w : va_W) (ov : Option Value) (w' : va_W) : Prop := ∀ sz : Nat, Met l y ws rm (va_Pc av (cP D tys aK aV w sz)) (cQ D tys (va_A w sz) w' ov) mc ms (va_A w sz)
theorem cP_blind (D : va_G) (tys : List (ClassId × FieldType)) (aK aV : Nat → Nat) (w : va_W) (sz : Nat) (av : List Value) : FrameBlind (va_Pc av (cP D tys aK aV w sz)) := by
  intro a U g mk q
  obtain ⟨q0, q1, qP, qK, qD, qR, qH⟩ := q
  exact ⟨q0, q1, qP, va_K.moved (u := U) (U := U.calling g mk a) (Vm.Alike.refl U.vm) qK, qD, gR.same (u := U) (U := U.calling g mk a) rfl qR, gH.moved (u := U) (U := U.calling g mk a) (Vm.Alike.refl U.vm) qH⟩
/-- what holds all along a method's body -/
def CX (p : Program) (s : State) (m : MethodId) (args : Array Value) (meth : Method) (c : Code) (D : va_G) (tys : List (ClassId × FieldType)) (aK aV : Nat → Nat) (A : Nat → Prop) (own : String) (cc : ByteArray) (nL : Nat) (ret : Option FieldType) : Prop :=
  p.tables.exec = Jvm.exec ∧ c.code = cc ∧ c.maxLocals = nL ∧ s.vm.findClass own = some m.cls ∧ (∀ w ∈ wT, w.before args s = true) ∧ meth.sig.returnType = ret ∧ meth.locks = false ∧ va_K D vwCl tys s ∧ (∀ q, s.heap.size ≤ q → A q) ∧ gR aK s ∧ gH aK aV A s s.heap
section GEN
variable {p : Program} {l : Launch} {e : Env} {R : Room} {s : State} {m : MethodId} {args : Array Value} {below : List Frame} {meth : Method} {c : Code} {H : Heap} {locs : List Loc} {cells slots : Nat} {Q : State → Prop}
variable {D : va_G} {tys : List (ClassId × FieldType)} {aK aV : Nat → Nat} {A : Nat → Prop} {own : String} {cc : ByteArray} {nL : Nat} {ret : Option FieldType} {pc : Nat} {ls : Array Slot} {w wc wr w1 : va_W} {ov : Option Value} {y : MethodName} {bytes : ByteArray} {maxL mc ms n index : Nat} {ret' : Option FieldType} {rm : Room} {As rest : List Value} {b : Nat}
theorem CT.of (hy : plainName y.cls = true) (hown : y.cls = own) {av : List Value} {w' : va_W}
    (body : ∀ (p : Program) (e : Env) (s : State) (m : MethodId) (below : List Frame) (meth : Method) (c : Code) (A : Nat → Prop), CX p s m av.toArray meth c D tys aK aV A own cc nL ret → meth.name = y.name → va_P D vwCl w s.heap → va_D A w → va_S A s.heap s.heap [] →
      W p l e rm s m av.toArray below meth c s.heap [] 0 0 (MQ below (cQ D tys A w' ov) av.toArray s mc ms A) (entryFrame m av.toArray nL)) : CT l D tys aK aV y (wM y cc nL ret) rm mc ms av w ov w' := by
  intro sz
  refine Met.ofW (cc := cc) (maxL := nL) (ret := ret) hy rfl ?_
  intro p e s m args below meth c s₁ B hml hv
  obtain ⟨rfl, hsz, hP, hK, hD0, hR, hH⟩ := hv
  subst hsz
  have hts := atoms_spec (ws := wM y cc nL ret) B.pre
  exact body p e s m below meth c (va_A w s.heap.size) ⟨B.exec, B.bytes, hml, by rw [← hown]; exact findClass_of_methodNamed B.named, fun w hw => hts w (List.mem_cons_of_mem _ hw), B.returns, B.notSynchronized, hK, fun q h => Or.inr h, hR, hH⟩ (name_of_methodNamed B.named B.method).1 hP (hD0.self) va_S.rf
/-- behind a call -/
theorem ct_go {av : Array Value} {st0 : List Value} (G : CX p s m args meth c D tys aK aV A own cc nL ret) (hP : va_P D vwCl w H) (hD : va_D A w) (hS : va_S A s.heap H locs) (isC isR : List Nat) (hC : isC.map (fun i => w[i]?) = wc.map some) (hR : isR.map (fun i => w[i]?) = wr.map some) (hn : va_nd isR = true) (hdis : ∀ i ∈ isR, i ∉ isC)
    (hr : va_Run p l e R s m args below meth c H locs cells slots mc ms (F0 m pc ls st0) rest (cQ D tys (va_A wc H.size) w1 ov av) (va_A wc H.size))
    (kk : ∀ (H1 : Heap) (locs1 : List Loc), va_P D vwCl (wr ++ w1) H1 → va_D A (wr ++ w1) → va_S A s.heap H1 locs1 → W p l e R s m args below meth c H1 locs1 (cells + mc) (slots + ms) Q (F0 m (pc + 3) ls (ov.toList ++ rest))) : W p l e R s m args below meth c H locs cells slots Q (F0 m pc ls st0) := by
  obtain ⟨hx, hb, hml, hown, hT, hrt, hlk, hK, hA, hG, hE⟩ := G
  have hFc := va_free (wc := wc) hD hS hA isC hC
  intro T hT X
  obtain ⟨v, st₀, t, T', L, h0, X', hL, e1, e2, ⟨⟨hv, hP1, hK1, hD1⟩, hz, hk⟩, st⟩ := hr T hT X
  cases hv
  rw [h0] at hz hk
  rw [← e1] at hP1 hz hk
  obtain ⟨hP, hD⟩ := va_join hP hD isC isR hC hR hn hdis hk hFc hP1 hD1
  obtain ⟨t2, a1, b1⟩ := kk T'.heap (locs ++ L) hP hD ⟨Nat.le_trans hS.1 hz, fun q h1 h2 => by rw [hk q (Nat.lt_of_lt_of_le h1 hS.1) (fun z => h2 (hFc q z))]; exact hS.2.1 q h1 h2, fun q hq => by
      rcases List.mem_append.mp hq with h | h
      · exact hS.2.2 q h
      · exact hFc _ (hL q h)⟩ T' rfl X'
  exact ⟨t2, st t2 a1, b1⟩
/-- a callee's start -/
theorem ct_pre (G : CX p s m args meth c D tys aK aV A own cc nL ret) (hP : va_P D vwCl w H) (hD : va_D A w) (hS : va_S A s.heap H locs) (isC : List Nat) (hn : va_nd isC = true) (hC : isC.map (fun i => w[i]?) = wc.map some) (av : List Value) : PreS s H (va_Pc av (cP D tys aK aV wc H.size)) av := by
  obtain ⟨hx, hb, hml, hown, hT, hrt, hlk, hK, hA, hG, hE⟩ := G
  have hFc := va_free (wc := wc) hD hS hA isC hC
  refine ⟨cP_blind D tys aK aV wc H.size av, fun U hU hW => ⟨rfl, by rw [hU], ?_, va_K.moved hW.alike hK, (hD.sub isC hn hC).weaken (fun _ _ _ _ => trivial), hG.warm hW, ?_⟩⟩
  · rw [hU]
    exact hP.sub isC (by
      have h := congrArg (fun l => l.filterMap id) hC
      simpa [List.filterMap_map, Function.comp_def] using h)
  · rw [hU]
    exact ((hE.moved hW.alike).kept hS.2.1).narrow hFc
def MV (own : String) (index : Nat) (C : String) (y : MethodName) (bytes : ByteArray) (maxL : Nat) (ret' : Option FieldType) (n : Nat) : Prop := (∀ w ∈ ([.methodLink own index y, .instanceMethod y, .selects C y y, .initialized C, .code y bytes maxL ret'] : List Cond), w ∈ wT) ∧ (y.cls = C ∧ y.cls ≠ "java/lang/invoke/MethodHandle" ∧ y.cls ≠ "java/lang/invoke/VarHandle" ∧ (parseMethodDescriptor y.desc).map (fun d => d.parameters.length) = some n)
/-- invokevirtual of a method of the receiver's own class, private ones too -/
theorem ct_v {C : String} (G : CX p s m args meth c D tys aK aV A own cc nL ret) (M : MV own index C y bytes maxL ret' n) (hM : CT l D tys aK aV y (wM y bytes maxL ret') rm mc ms (.ref b :: As) wc ov w1) (hP : va_P D vwCl w H) (hD : va_D A w) (hS : va_S A s.heap H locs)
    (isC isR : List Nat) (hnC : va_nd isC = true) (hC : isC.map (fun i => w[i]?) = wc.map some) (hR : isR.map (fun i => w[i]?) = wr.map some) (hn : va_nd isR = true) (hdis : ∀ i ∈ isR, i ∉ isC) {ci q0 : Nat} {q : vw_C} {fs : List Value} (hq : vwCl[ci]? = some q) (hq1 : q.1 = C) (he : w[q0]? = some (b, .inr (ci, fs)))
    (hrm : rm.cells = mc ∧ rm.slots = ms ∧ rm.frames + 1 ≤ R.frames ∧ 8 + (maxL + 11) + rm.locals ≤ R.locals) (hA : As.length = n) (hls : ls.size = nL) (hst : (rest.map fun v => v.category).sum ≤ 8) (hdg : decode cc pc = .ok (.invokevirtual index, 3)) (hf : cells + mc ≤ R.cells ∧ slots + ms ≤ R.slots)
    (kk : ∀ (H1 : Heap) (locs1 : List Loc), va_P D vwCl (wr ++ w1) H1 → va_D A (wr ++ w1) → va_S A s.heap H1 locs1 → W p l e R s m args below meth c H1 locs1 (cells + mc) (slots + ms) Q (F0 m (pc + 3) ls (ov.toList ++ rest))) : W p l e R s m args below meth c H locs cells slots Q (F0 m pc ls (As.reverse ++ .ref b :: rest)) := by
  have hp := ct_pre G hP hD hS isC hnC hC (.ref b :: As)
  obtain ⟨hx, hb, hml, hown, hT, hrt, hlk, hK, hAA, hG, hE⟩ := id G
  have hts : ∀ w ∈ (Cond.tt :: wT), w ∈ wT → w.before args s = true := fun w _ h => hT w h
  have cw : CallW R s args own C index y bytes maxL ret' (wM y bytes maxL ret') rm mc ms n := by
    obtain ⟨M1, M2⟩ := M
    refine cwV (Ts := wT) n hT ?_ rfl hrm.1 hrm.2.1 M2 hrm.2.2
    intro w hw
    have hw1 : w ∈ wT := by
      rcases List.mem_append.mp hw with h | h
      · exact M1 w (by simp only [List.mem_cons, List.not_mem_nil, or_false] at h ⊢; rcases h with h | h | h | h <;> simp [h])
      · rcases List.mem_cons.mp h with h | h
        · exact M1 w (by simp [h])
        · exact h
    exact ⟨hw1, wT_self w hw1⟩
  exact ct_go G hP hD hS isC isR hC hR hn hdis (va_runV (Ts := wT) (g := F0 m pc ls (As.reverse ++ .ref b :: rest)) (rest := rest) ⟨hx, hb, hml, hown, hT⟩ (hM H.size) cw ⟨hp.1, by rw [← hq1]; exact va_recv hK hP hq he, hp.2⟩ rfl hA hls rfl (lv_room hst) hdg hf) kk
def MU (own : String) (index : Nat) (C owner : String) (x y : MethodName) (bytes : ByteArray) (maxL : Nat) (ret' : Option FieldType) (n : Nat) : Prop := (∀ w ∈ ([.methodLink own index x, .sameMethod x.cls owner x.name x.desc, .selects C x y, .instanceMethod y, .initialized y.cls, .code y bytes maxL ret'] : List Cond), w ∈ wT) ∧ y = ⟨owner, x.name, x.desc⟩ ∧ (owner ≠ "java/lang/invoke/MethodHandle" ∧ owner ≠ "java/lang/invoke/VarHandle" ∧ (parseMethodDescriptor x.desc).map (fun d => d.parameters.length) = some n)
/-- invokevirtual of an inherited method -/
theorem ct_u {C owner : String} {x : MethodName} (G : CX p s m args meth c D tys aK aV A own cc nL ret) (M : MU own index C owner x y bytes maxL ret' n) (hM : CT l D tys aK aV y (wM y bytes maxL ret') rm mc ms (.ref b :: As) wc ov w1) (hP : va_P D vwCl w H) (hD : va_D A w) (hS : va_S A s.heap H locs)
    (isC isR : List Nat) (hnC : va_nd isC = true) (hC : isC.map (fun i => w[i]?) = wc.map some) (hR : isR.map (fun i => w[i]?) = wr.map some) (hn : va_nd isR = true) (hdis : ∀ i ∈ isR, i ∉ isC) {ci q0 : Nat} {q : vw_C} {fs : List Value} (hq : vwCl[ci]? = some q) (hq1 : q.1 = C) (he : w[q0]? = some (b, .inr (ci, fs)))
    (hrm : rm.cells = mc ∧ rm.slots = ms ∧ rm.frames + 1 ≤ R.frames ∧ 8 + (maxL + 11) + rm.locals ≤ R.locals) (hA : As.length = n) (hls : ls.size = nL) (hst : (rest.map fun v => v.category).sum ≤ 8) (hdg : decode cc pc = .ok (.invokevirtual index, 3)) (hf : cells + mc ≤ R.cells ∧ slots + ms ≤ R.slots)
    (kk : ∀ (H1 : Heap) (locs1 : List Loc), va_P D vwCl (wr ++ w1) H1 → va_D A (wr ++ w1) → va_S A s.heap H1 locs1 → W p l e R s m args below meth c H1 locs1 (cells + mc) (slots + ms) Q (F0 m (pc + 3) ls (ov.toList ++ rest))) : W p l e R s m args below meth c H locs cells slots Q (F0 m pc ls (As.reverse ++ .ref b :: rest)) := by
  have hp := ct_pre G hP hD hS isC hnC hC (.ref b :: As)
  obtain ⟨hx, hb, hml, hown, hT, hrt, hlk, hK, hAA, hG, hE⟩ := id G
  have cw : va_CU R s args own C owner index x y bytes maxL ret' (wM y bytes maxL ret') rm mc ms n := by
    obtain ⟨M1, M2, M3⟩ := M
    refine va_cwU (Ts := wT) n hT ?_ rfl hrm.1 hrm.2.1 M2 M3 hrm.2.2
    intro w hw
    have hw1 : w ∈ wT := by
      rcases List.mem_append.mp hw with h | h
      · exact M1 w (by simp only [List.mem_cons, List.not_mem_nil, or_false] at h ⊢; rcases h with h | h | h | h | h <;> simp [h])
      · rcases List.mem_cons.mp h with h | h
        · exact M1 w (by simp [h])
        · exact h
    exact ⟨hw1, wT_self w hw1⟩
  exact ct_go G hP hD hS isC isR hC hR hn hdis (va_runU (Ts := wT) (g := F0 m pc ls (As.reverse ++ .ref b :: rest)) (rest := rest) ⟨hx, hb, hml, hown, hT⟩ (hM H.size) cw ⟨hp.1, by rw [← hq1]; exact va_recv hK hP hq he, hp.2⟩ rfl hA hls rfl (lv_room hst) hdg hf) kk
def MS0 (own : String) (index : Nat) (y : MethodName) (bytes : ByteArray) (maxL : Nat) (ret' : Option FieldType) (n : Nat) : Prop := (∀ w ∈ ([.methodLink own index y, .static y, .initialized own, .code y bytes maxL ret'] : List Cond), w ∈ wT) ∧ (y.cls = own ∧ y.cls ≠ "java/lang/invoke/MethodHandle" ∧ y.cls ≠ "java/lang/invoke/VarHandle" ∧ (parseMethodDescriptor y.desc).map (fun d => d.parameters.length) = some n)
/-- invokestatic, own class -/
theorem ct_s (G : CX p s m args meth c D tys aK aV A own cc nL ret) (M : MS0 own index y bytes maxL ret' n) (hM : CT l D tys aK aV y (wM y bytes maxL ret') rm mc ms As wc ov w1) (hP : va_P D vwCl w H) (hD : va_D A w) (hS : va_S A s.heap H locs)
    (isC isR : List Nat) (hnC : va_nd isC = true) (hC : isC.map (fun i => w[i]?) = wc.map some) (hR : isR.map (fun i => w[i]?) = wr.map some) (hn : va_nd isR = true) (hdis : ∀ i ∈ isR, i ∉ isC)
    (hrm : rm.cells = mc ∧ rm.slots = ms ∧ rm.frames + 1 ≤ R.frames ∧ 8 + (maxL + 11) + rm.locals ≤ R.locals) (hA : As.length = n) (hls : ls.size = nL) (hst : (rest.map fun v => v.category).sum ≤ 8) (hdg : decode cc pc = .ok (.invokestatic index, 3)) (hf : cells + mc ≤ R.cells ∧ slots + ms ≤ R.slots)
    (kk : ∀ (H1 : Heap) (locs1 : List Loc), va_P D vwCl (wr ++ w1) H1 → va_D A (wr ++ w1) → va_S A s.heap H1 locs1 → W p l e R s m args below meth c H1 locs1 (cells + mc) (slots + ms) Q (F0 m (pc + 3) ls (ov.toList ++ rest))) : W p l e R s m args below meth c H locs cells slots Q (F0 m pc ls (As.reverse ++ rest)) := by
  have hp := ct_pre G hP hD hS isC hnC hC As
  obtain ⟨hx, hb, hml, hown, hT, hrt, hlk, hK, hAA, hG, hE⟩ := id G
  have cw : CallB R s args own index y bytes maxL ret' (wM y bytes maxL ret') rm mc ms n ∧ (Cond.static y).before args s = true := by
    obtain ⟨M1, M2⟩ := M
    refine cwS (Ts := wT) n hT ?_ rfl hrm.1 hrm.2.1 M2 hrm.2.2
    intro w hw
    have hw1 : w ∈ wT := by
      rcases List.mem_append.mp hw with h | h
      · exact M1 w (by simp only [List.mem_cons, List.not_mem_nil, or_false] at h ⊢; rcases h with h | h | h <;> simp [h])
      · rcases List.mem_cons.mp h with h | h
        · exact M1 w (by simp [h])
        · exact h
    exact ⟨hw1, wT_self w hw1⟩
  exact ct_go G hP hD hS isC isR hC hR hn hdis (va_runS (Ts := wT) (g := F0 m pc ls (As.reverse ++ rest)) (rest := rest) ⟨hx, hb, hml, hown, hT⟩ (hM H.size) cw hp rfl hA hls rfl (lv_room hst) hdg hf) kk
def MN (own : String) (index : Nat) (y : MethodName) (bytes : ByteArray) (maxL : Nat) (ret' : Option FieldType) (n : Nat) : Prop := (∀ w ∈ ([.static y, .initialized y.cls, .code y bytes maxL ret'] : List Cond), w ∈ wT) ∧ (y.cls ≠ "java/lang/invoke/MethodHandle" ∧ y.cls ≠ "java/lang/invoke/VarHandle" ∧ (parseMethodDescriptor y.desc).map (fun d => d.parameters.length) = some n) ∧ (own, index, y) ∈ gNs
/-- invokestatic of a nest mate's private method -/
theorem ct_sn (G : CX p s m args meth c D tys aK aV A own cc nL ret) (M : MN own index y bytes maxL ret' n) (hM : CT l D tys aK aV y (wM y bytes maxL ret') rm mc ms As wc ov w1) (hP : va_P D vwCl w H) (hD : va_D A w) (hS : va_S A s.heap H locs)
    (isC isR : List Nat) (hnC : va_nd isC = true) (hC : isC.map (fun i => w[i]?) = wc.map some) (hR : isR.map (fun i => w[i]?) = wr.map some) (hn : va_nd isR = true) (hdis : ∀ i ∈ isR, i ∉ isC)
    (hrm : rm.cells = mc ∧ rm.slots = ms ∧ rm.frames + 1 ≤ R.frames ∧ 8 + (maxL + 11) + rm.locals ≤ R.locals) (hA : As.length = n) (hls : ls.size = nL) (hst : (rest.map fun v => v.category).sum ≤ 8) (hdg : decode cc pc = .ok (.invokestatic index, 3)) (hf : cells + mc ≤ R.cells ∧ slots + ms ≤ R.slots)
    (kk : ∀ (H1 : Heap) (locs1 : List Loc), va_P D vwCl (wr ++ w1) H1 → va_D A (wr ++ w1) → va_S A s.heap H1 locs1 → W p l e R s m args below meth c H1 locs1 (cells + mc) (slots + ms) Q (F0 m (pc + 3) ls (ov.toList ++ rest))) : W p l e R s m args below meth c H locs cells slots Q (F0 m pc ls (As.reverse ++ rest)) := by
  have hp := ct_pre G hP hD hS isC hnC hC As
  obtain ⟨hx, hb, hml, hown, hT, hrt, hlk, hK, hAA, hG, hE⟩ := id G
  obtain ⟨M1, M2, M3⟩ := M
  have cw : va_CN R s args own index y "TextBridge" bytes maxL ret' (wM y bytes maxL ret') rm mc ms n := by
    refine va_cnB (Ts := wT) n hT ?_ rfl hrm.1 hrm.2.1 (hG.2 _ M3) (hT _ (M1 _ (by simp))) M2 hrm.2.2
    intro w hw
    have hw1 : w ∈ wT := by
      rcases List.mem_cons.mp hw with h | h
      · exact M1 w (by simp [h])
      · exact h
    exact ⟨hw1, wT_self w hw1⟩
  exact ct_go G hP hD hS isC isR hC hR hn hdis (va_runSN (Ts := wT) (g := F0 m pc ls (As.reverse ++ rest)) (rest := rest) ⟨hx, hb, hml, hown, hT⟩ (hM H.size) ⟨cw, hT _ (M1 _ (by simp)), trivial⟩ hp rfl hA hls rfl (lv_room hst) hdg hf) kk
/-- returns -/
theorem ct_iret {v : Int32} {ty : FieldType} (G : CX p s m args meth c D tys aK aV A own cc nL (some ty)) (hnar : narrow ty (.int v) = .int v) (hP : va_P D vwCl w H) (hD : va_D A w) (hS : va_S A s.heap H locs) (hdg : decode cc pc = .ok (.ireturn, 1)) : W p l e R s m args below meth c H locs cells slots (MQ below (cQ D tys A w (some (.int v))) args s cells slots A) (F0 m pc ls [.int v]) := by
  obtain ⟨hx, hb, hml, hown, hT, hrt, hlk, hK, hA, hG, hE⟩ := G
  exact W.zret hx hb hrt hnar (fun t ht hW => ⟨⟨rfl, by rw [ht]; exact hP, va_K.moved hW.alike hK, hD⟩, hS.F ht⟩) hS.2.2 hdg hlk
theorem ct_lret {v : Int64} (G : CX p s m args meth c D tys aK aV A own cc nL (some .long)) (hP : va_P D vwCl w H) (hD : va_D A w) (hS : va_S A s.heap H locs) (hdg : decode cc pc = .ok (.lreturn, 1)) : W p l e R s m args below meth c H locs cells slots (MQ below (cQ D tys A w (some (.long v))) args s cells slots A) (F0 m pc ls [.long v]) := by
  obtain ⟨hx, hb, hml, hown, hT, hrt, hlk, hK, hA, hG, hE⟩ := G
  exact W.lret hx hb hrt (fun t ht hW => ⟨⟨rfl, by rw [ht]; exact hP, va_K.moved hW.alike hK, hD⟩, hS.F ht⟩) hS.2.2 hdg hlk
theorem ct_vret (G : CX p s m args meth c D tys aK aV A own cc nL none) (hP : va_P D vwCl w H) (hD : va_D A w) (hS : va_S A s.heap H locs) (hdg : decode cc pc = .ok (.return_, 1)) : W p l e R s m args below meth c H locs cells slots (MQ below (cQ D tys A w none) args s cells slots A) (F0 m pc ls []) := by
  obtain ⟨hx, hb, hml, hown, hT, hrt, hlk, hK, hA, hG, hE⟩ := G
  exact W.vret hx hb hrt (fun t ht hW => ⟨⟨rfl, by rw [ht]; exact hP, va_K.moved hW.alike hK, hD⟩, hS.F ht⟩) hS.2.2 hdg hlk
end GEN
