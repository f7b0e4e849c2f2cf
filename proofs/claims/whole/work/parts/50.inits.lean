/-! MAKING OBJECTS: calls of constructors, contracts whose end has new cells -/
theorem o_inst : Cond.instanceMethod objectInit ∈ wT := wT_of (in1 (i := 19) rfl) rfl
theorem o_code : Cond.code objectInit ⟨#[0xb1]⟩ 1 none ∈ wT := wT_of (in1 (i := 20) rfl) rfl
theorem oX4 : Cond.methodLink RX4 1 objectInit ∈ wT := wT_of (in1 (i := 18) rfl) rfl
theorem oX3 : Cond.methodLink RX3 3 objectInit ∈ wT := wT_of (in1 (i := 26) rfl) rfl
theorem oX2 : Cond.methodLink RX2 3 objectInit ∈ wT := wT_of (in1 (i := 97) rfl) rfl
theorem oX5 : Cond.methodLink RX5 1 objectInit ∈ wT := wT_of (in3 (i := 28) rfl) rfl
theorem a_byte : Cond.arrayClass .byte ∈ wT := wT_of (in1 (i := 37) rfl) rfl
theorem a_int : Cond.arrayClass .int ∈ wT := wT_of (in3 (i := 96) rfl) rfl
theorem a_long : Cond.arrayClass .long ∈ wT := wT_of (in3 (i := 97) rfl) rfl
def MI (own : String) (index : Nat) (y : MethodName) (bytes : ByteArray) (maxL n : Nat) : Prop := (∀ w ∈ ([.methodLink own index y, .instanceMethod y, .initialized y.cls, .code y bytes maxL none] : List Cond), w ∈ wT) ∧ y.name = "<init>" ∧ (y.cls ≠ "java/lang/invoke/MethodHandle" ∧ y.cls ≠ "java/lang/invoke/VarHandle" ∧ (parseMethodDescriptor y.desc).map (fun d => d.parameters.length) = some n)
theorem kX4_11 : MI RX4 11 yX3_init cX3_init 2 1 := ⟨List.forall_mem_cons.mpr ⟨wT_of (in1 (i := 23) rfl) rfl, List.forall_mem_cons.mpr ⟨wT_of (in1 (i := 24) rfl) rfl, List.forall_mem_cons.mpr ⟨wT_of (in1 (i := 2) rfl) rfl, List.forall_mem_cons.mpr ⟨wT_of (in1 (i := 25) rfl) rfl, fun _ h => absurd h List.not_mem_nil⟩⟩⟩⟩, rfl, by decide +kernel⟩
theorem kX4_46 : MI RX4 46 yX1_init cX1_init 4 3 := ⟨List.forall_mem_cons.mpr ⟨wT_of (in1 (i := 91) rfl) rfl, List.forall_mem_cons.mpr ⟨wT_of (in1 (i := 92) rfl) rfl, List.forall_mem_cons.mpr ⟨wT_of (in1 (i := 6) rfl) rfl, List.forall_mem_cons.mpr ⟨wT_of (in1 (i := 93) rfl) rfl, fun _ h => absurd h List.not_mem_nil⟩⟩⟩⟩, rfl, by decide +kernel⟩
theorem kX4_66 : MI RX4 66 yX0_init cX0_init 4 3 := ⟨List.forall_mem_cons.mpr ⟨wT_of (in2 (i := 137) rfl) rfl, List.forall_mem_cons.mpr ⟨wT_of (in2 (i := 138) rfl) rfl, List.forall_mem_cons.mpr ⟨wT_of (in1 (i := 12) rfl) rfl, List.forall_mem_cons.mpr ⟨wT_of (in2 (i := 139) rfl) rfl, fun _ h => absurd h List.not_mem_nil⟩⟩⟩⟩, rfl, by decide +kernel⟩
theorem kX1_3 : MI RX1 3 yX2_init cX2_init 4 3 := ⟨List.forall_mem_cons.mpr ⟨wT_of (in1 (i := 94) rfl) rfl, List.forall_mem_cons.mpr ⟨wT_of (in1 (i := 95) rfl) rfl, List.forall_mem_cons.mpr ⟨wT_of (in1 (i := 5) rfl) rfl, List.forall_mem_cons.mpr ⟨wT_of (in1 (i := 96) rfl) rfl, fun _ h => absurd h List.not_mem_nil⟩⟩⟩⟩, rfl, by decide +kernel⟩
theorem kX0_3 : MI RX0 3 yX2_init cX2_init 4 3 := ⟨List.forall_mem_cons.mpr ⟨wT_of (in2 (i := 140) rfl) rfl, List.forall_mem_cons.mpr ⟨wT_of (in1 (i := 95) rfl) rfl, List.forall_mem_cons.mpr ⟨wT_of (in1 (i := 5) rfl) rfl, List.forall_mem_cons.mpr ⟨wT_of (in1 (i := 96) rfl) rfl, fun _ h => absurd h List.not_mem_nil⟩⟩⟩⟩, rfl, by decide +kernel⟩
theorem kL_9 : MI RL 9 yX4_init cX4_init 1 0 := ⟨List.forall_mem_cons.mpr ⟨wT_of (in1 (i := 15) rfl) rfl, List.forall_mem_cons.mpr ⟨wT_of (in1 (i := 16) rfl) rfl, List.forall_mem_cons.mpr ⟨wT_of (in1 (i := 1) rfl) rfl, List.forall_mem_cons.mpr ⟨wT_of (in1 (i := 17) rfl) rfl, fun _ h => absurd h List.not_mem_nil⟩⟩⟩⟩, rfl, by decide +kernel⟩
theorem kL_12 : MI RL 12 yX5_init cX5_init 1 0 := ⟨List.forall_mem_cons.mpr ⟨wT_of (in3 (i := 25) rfl) rfl, List.forall_mem_cons.mpr ⟨wT_of (in3 (i := 26) rfl) rfl, List.forall_mem_cons.mpr ⟨wT_of (in1 (i := 4) rfl) rfl, List.forall_mem_cons.mpr ⟨wT_of (in3 (i := 27) rfl) rfl, fun _ h => absurd h List.not_mem_nil⟩⟩⟩⟩, rfl, by decide +kernel⟩
def cQe (D : va_G) (tys : List (ClassId × FieldType)) (A : Nat → Prop) {X : Type} (w : X → va_W) : Array Value → State → Outcome → State → Prop := fun _ st o t => (∃ x : X, o = .returned none ∧ va_P D vwCl (w x) t.heap ∧ va_K D vwCl tys t ∧ va_D A (w x)) ∧ va_F A st t
def CE (l : Launch) (D : va_G) (tys : List (ClassId × FieldType)) (aK aV : Nat → Nat) (y : MethodName) (ws : List Cond) (rm : Room) (mc ms : Nat) (av : List Value) (w : va_W) {X : Type} (w' : X → va_W) : Prop := ∀ sz : Nat, Met l y ws rm (va_Pc av (cP D tys aK aV w sz)) (cQe D tys (va_A w sz) w') mc ms (va_A w sz)
section INI
variable {p : Program} {l : Launch} {e : Env} {R : Room} {s : State} {m : MethodId} {args : Array Value} {below : List Frame} {meth : Method} {c : Code} {H : Heap} {locs : List Loc} {cells slots : Nat} {Q : State → Prop}
variable {D : va_G} {tys : List (ClassId × FieldType)} {aK aV : Nat → Nat} {A : Nat → Prop} {own : String} {cc : ByteArray} {nL : Nat} {ret : Option FieldType} {pc : Nat} {ls : Array Slot} {w wc wr w1 : va_W} {ov : Option Value} {y : MethodName} {bytes : ByteArray} {maxL mc ms n index : Nat} {rm : Room} {As rest : List Value} {b : Nat}
theorem CE.of {X : Type} {w' : X → va_W} (hy : plainName y.cls = true) (hown : y.cls = own) {av : List Value}
    (body : ∀ (p : Program) (e : Env) (s : State) (m : MethodId) (below : List Frame) (meth : Method) (c : Code) (A : Nat → Prop), CX p s m av.toArray meth c D tys aK aV A own cc nL ret → meth.name = y.name → va_P D vwCl w s.heap → va_D A w → va_S A s.heap s.heap [] →
      W p l e rm s m av.toArray below meth c s.heap [] 0 0 (MQ below (cQe D tys A w') av.toArray s mc ms A) (entryFrame m av.toArray nL)) : CE l D tys aK aV y (wM y cc nL ret) rm mc ms av w w' := by
  intro sz
  refine Met.ofW (cc := cc) (maxL := nL) (ret := ret) hy rfl ?_
  intro p e s m args below meth c s₁ B hml hv
  obtain ⟨rfl, hsz, hP, hK, hD0, hR, hH⟩ := hv
  subst hsz
  have hts := atoms_spec (ws := wM y cc nL ret) B.pre
  exact body p e s m below meth c (va_A w s.heap.size) ⟨B.exec, B.bytes, hml, by rw [← hown]; exact findClass_of_methodNamed B.named, fun w hw => hts w (List.mem_cons_of_mem _ hw), B.returns, B.notSynchronized, hK, fun q h => Or.inr h, hR, hH⟩ (name_of_methodNamed B.named B.method).1 hP (hD0.self) va_S.rf
theorem ct_vrete {X : Type} {w' : X → va_W} (x : X) (G : CX p s m args meth c D tys aK aV A own cc nL none) (hP : va_P D vwCl (w' x) H) (hD : va_D A (w' x)) (hS : va_S A s.heap H locs) (hdg : decode cc pc = .ok (.return_, 1)) : W p l e R s m args below meth c H locs cells slots (MQ below (cQe D tys A w') args s cells slots A) (F0 m pc ls []) := by
  obtain ⟨hx, hb, hml, hown, hT, hrt, hlk, hK, hA, hG, hE⟩ := G
  exact W.vret hx hb hrt (fun t ht hW => ⟨⟨x, rfl, by rw [ht]; exact hP, va_K.moved hW.alike hK, hD⟩, hS.F ht⟩) hS.2.2 hdg hlk
theorem cwI' (G : CX p s m args meth c D tys aK aV A own cc nL ret) (M : MI own index y bytes maxL n) (hrm : rm.cells = mc ∧ rm.slots = ms ∧ rm.frames + 1 ≤ R.frames ∧ 8 + (maxL + 11) + rm.locals ≤ R.locals) : CallB R s args own index y bytes maxL none (wM y bytes maxL none) rm mc ms n ∧ y.name = "<init>" ∧ (Cond.instanceMethod y).before args s = true := by
  obtain ⟨hx, hb, hml, hown, hT, hrt, hlk, hK, hAA, hG, hE⟩ := G
  obtain ⟨M1, M2, M3⟩ := M
  refine cwI (Ts := wT) n hT ?_ rfl hrm.1 hrm.2.1 (hT _ (M1 _ (by simp))) (hT _ (M1 _ (by simp))) (hT _ (M1 _ (by simp))) M2 M3 hrm.2.2
  intro w hw
  have hw1 : w ∈ wT := by
    rcases List.mem_cons.mp hw with h | h
    · exact M1 w (by simp [h])
    · exact h
  exact ⟨hw1, wT_self w hw1⟩
/-- invokespecial <init>, the end's cells known -/
theorem ct_i (G : CX p s m args meth c D tys aK aV A own cc nL ret) (M : MI own index y bytes maxL n) (hM : CT l D tys aK aV y (wM y bytes maxL none) rm mc ms (.ref b :: As) wc none w1) (hP : va_P D vwCl w H) (hD : va_D A w) (hS : va_S A s.heap H locs)
    (isC isR : List Nat) (hnC : va_nd isC = true) (hC : isC.map (fun i => w[i]?) = wc.map some) (hR : isR.map (fun i => w[i]?) = wr.map some) (hn : va_nd isR = true) (hdis : ∀ i ∈ isR, i ∉ isC)
    (hrm : rm.cells = mc ∧ rm.slots = ms ∧ rm.frames + 1 ≤ R.frames ∧ 8 + (maxL + 11) + rm.locals ≤ R.locals) (hA : As.length = n) (hls : ls.size = nL) (hst : (rest.map fun v => v.category).sum ≤ 8) (hdg : decode cc pc = .ok (.invokespecial index, 3)) (hf : cells + mc ≤ R.cells ∧ slots + ms ≤ R.slots)
    (kk : ∀ (H1 : Heap) (locs1 : List Loc), va_P D vwCl (wr ++ w1) H1 → va_D A (wr ++ w1) → va_S A s.heap H1 locs1 → W p l e R s m args below meth c H1 locs1 (cells + mc) (slots + ms) Q (F0 m (pc + 3) ls rest)) : W p l e R s m args below meth c H locs cells slots Q (F0 m pc ls (As.reverse ++ .ref b :: rest)) := by
  have hp := ct_pre G hP hD hS isC hnC hC (.ref b :: As)
  have cw := cwI' G M hrm
  obtain ⟨hx, hb, hml, hown, hT, hrt, hlk, hK, hAA, hG, hE⟩ := id G
  exact ct_go G hP hD hS isC isR hC hR hn hdis (va_runI (Ts := wT) (g := F0 m pc ls (As.reverse ++ .ref b :: rest)) (rest := rest) ⟨hx, hb, hml, hown, hT⟩ (hM H.size) cw hp rfl hA hls rfl (lv_room hst) hdg hf) kk
/-- invokespecial <init>, the end has new cells -/
theorem ce_i {X : Type} {w' : X → va_W} (G : CX p s m args meth c D tys aK aV A own cc nL ret) (M : MI own index y bytes maxL n) (hM : CE l D tys aK aV y (wM y bytes maxL none) rm mc ms (.ref b :: As) wc w') (hP : va_P D vwCl w H) (hD : va_D A w) (hS : va_S A s.heap H locs)
    (isC isR : List Nat) (hnC : va_nd isC = true) (hC : isC.map (fun i => w[i]?) = wc.map some) (hR : isR.map (fun i => w[i]?) = wr.map some) (hn : va_nd isR = true) (hdis : ∀ i ∈ isR, i ∉ isC)
    (hrm : rm.cells = mc ∧ rm.slots = ms ∧ rm.frames + 1 ≤ R.frames ∧ 8 + (maxL + 11) + rm.locals ≤ R.locals) (hA : As.length = n) (hls : ls.size = nL) (hst : (rest.map fun v => v.category).sum ≤ 8) (hdg : decode cc pc = .ok (.invokespecial index, 3)) (hf : cells + mc ≤ R.cells ∧ slots + ms ≤ R.slots)
    (kk : ∀ (x : X) (H1 : Heap) (locs1 : List Loc), va_P D vwCl (wr ++ w' x) H1 → va_D A (wr ++ w' x) → va_S A s.heap H1 locs1 → W p l e R s m args below meth c H1 locs1 (cells + mc) (slots + ms) Q (F0 m (pc + 3) ls rest)) : W p l e R s m args below meth c H locs cells slots Q (F0 m pc ls (As.reverse ++ .ref b :: rest)) := by
  have hp := ct_pre G hP hD hS isC hnC hC (.ref b :: As)
  have cw := cwI' G M hrm
  obtain ⟨hx, hb, hml, hown, hT, hrt, hlk, hK, hAA, hG, hE⟩ := id G
  have hr := va_runI (Ts := wT) (g := F0 m pc ls (As.reverse ++ .ref b :: rest)) (rest := rest) (below := below) (e := e) (meth := meth) (locs := locs) ⟨hx, hb, hml, hown, hT⟩ (hM H.size) cw hp rfl hA hls rfl (lv_room hst) hdg hf
  have hFc := va_free (wc := wc) hD hS hAA isC hC
  intro T hT X
  obtain ⟨v, st₀, t, T', L, h0, X', hL, e1, e2, ⟨⟨x, hv, hP1, hK1, hD1⟩, hz, hk⟩, st⟩ := hr T hT X
  cases hv
  rw [h0] at hz hk
  rw [← e1] at hP1 hz hk
  obtain ⟨hP, hD⟩ := va_join hP hD isC isR hC hR hn hdis hk hFc hP1 hD1
  obtain ⟨t2, a1, b1⟩ := kk x T'.heap (locs ++ L) hP hD ⟨Nat.le_trans hS.1 hz, fun q h1 h2 => by rw [hk q (Nat.lt_of_lt_of_le h1 hS.1) (fun z => h2 (hFc q z))]; exact hS.2.1 q h1 h2, fun q hq => by
      rcases List.mem_append.mp hq with h | h
      · exact hS.2.2 q h
      · exact hFc _ (hL q h)⟩ T' rfl X'
  exact ⟨t2, st t2 a1, b1⟩
/-- newarray, its class by the tables -/
theorem ct_newa {cB cI cJ : ClassId} {atype : ArrayType} {ty : FieldType} {cA : ClassId} {t0 : Nat} {k : Int32} {N' : Nat} {a0 : vp_A} (G : CX p s m args meth c D (gTy cB cI cJ) aK aV A own cc nL ret) (hw : Cond.arrayClass (newarray.typeOf atype) ∈ wT) (hty : newarray.typeOf atype = ty) (ht0 : (gTy cB cI cJ)[t0]? = some (cA, ty)) (hra : ∀ U : State, ∀ a b : ClassId, va_RA U a ty → va_RA U b ty → a = b) (hP : va_P D vwCl w H) (hD : va_D A w) (hS : va_S A s.heap H locs)
    (ha : ∀ cA : ClassId, vp_cell cA a0 = arrV cA N' (fun _ => defaultValue ty)) (hn : ¬ k < 0) (hN : k.toNatClampNeg = N') (hby : N' * componentBytes ty ≤ 536870912) (hf : cells + 1 ≤ R.cells ∧ slots + N' ≤ R.slots) (hdg : decode cc pc = .ok (.newarray atype, 2))
    (kk : ∀ (q : Nat) (H1 : Heap), va_P D vwCl (w ++ [(q, .inl (cA, a0))]) H1 → va_D A (w ++ [(q, .inl (cA, a0))]) → va_S A s.heap H1 locs → W p l e R s m args below meth c H1 locs (cells + 1) (slots + N') Q (F0 m (pc + 2) ls (.ref q :: rest))) : W p l e R s m args below meth c H locs cells slots Q (F0 m pc ls (.int k :: rest)) := by
  obtain ⟨hx, hb, hml, hown, hT, hrt, hlk, hK, hAA, hG, hE⟩ := G
  refine va_newa hx hb (hT _ hw) hty hK hP hD hS hAA ha hn hN hby hf.1 hf.2 hdg (fun q cA' H1 hK1 hP1 hD1 hS1 => ?_)
  have e1 : cA' = cA := hra s cA' cA (hK1.2 3 (cA', ty) rfl).2 (hK.2 t0 (cA, ty) ht0).2
  subst e1
  exact kk q H1 hP1 hD1 hS1
end INI
theorem ra_byte : ∀ U : State, ∀ a b : ClassId, va_RA U a .byte → va_RA U b .byte → a = b := fun U a b h1 h2 => Option.some.inj (Eq.trans (Eq.symm (show U.vm.findClass _ = some a from h1)) h2)
theorem ra_int : ∀ U : State, ∀ a b : ClassId, va_RA U a .int → va_RA U b .int → a = b := fun U a b h1 h2 => Option.some.inj (Eq.trans (Eq.symm (show U.vm.findClass _ = some a from h1)) h2)
theorem ra_long : ∀ U : State, ∀ a b : ClassId, va_RA U a .long → va_RA U b .long → a = b := fun U a b h1 h2 => Option.some.inj (Eq.trans (Eq.symm (show U.vm.findClass _ = some a from h1)) h2)
