/-! THE LAW: its loop over the pure steps, and its start -/
theorem kL_13 : MV RL 13 RX4 yX4_feed cX4_feed 6 (some .int) 5 := ⟨List.forall_mem_cons.mpr ⟨wT_of (in1 (i := 57) rfl) rfl, List.forall_mem_cons.mpr ⟨wT_of (in1 (i := 58) rfl) rfl, List.forall_mem_cons.mpr ⟨wT_of (in1 (i := 59) rfl) rfl, List.forall_mem_cons.mpr ⟨wT_of (in1 (i := 1) rfl) rfl, List.forall_mem_cons.mpr ⟨wT_of (in1 (i := 60) rfl) rfl, fun _ h => absurd h List.not_mem_nil⟩⟩⟩⟩⟩, by decide +kernel⟩
theorem kL_17 : MV RL 17 RX5 yX5_feed cX5_feed 8 (some .int) 5 := ⟨List.forall_mem_cons.mpr ⟨wT_of (in3 (i := 98) rfl) rfl, List.forall_mem_cons.mpr ⟨wT_of (in3 (i := 99) rfl) rfl, List.forall_mem_cons.mpr ⟨wT_of (in3 (i := 100) rfl) rfl, List.forall_mem_cons.mpr ⟨wT_of (in1 (i := 4) rfl) rfl, List.forall_mem_cons.mpr ⟨wT_of (in3 (i := 101) rfl) rfl, fun _ h => absurd h List.not_mem_nil⟩⟩⟩⟩⟩, by decide +kernel⟩
theorem kL_18 : MV RL 18 RX4 yX4_end cX4_end 2 (some .int) 1 := ⟨List.forall_mem_cons.mpr ⟨wT_of (in1 (i := 73) rfl) rfl, List.forall_mem_cons.mpr ⟨wT_of (in1 (i := 74) rfl) rfl, List.forall_mem_cons.mpr ⟨wT_of (in1 (i := 75) rfl) rfl, List.forall_mem_cons.mpr ⟨wT_of (in1 (i := 1) rfl) rfl, List.forall_mem_cons.mpr ⟨wT_of (in1 (i := 76) rfl) rfl, fun _ h => absurd h List.not_mem_nil⟩⟩⟩⟩⟩, by decide +kernel⟩
theorem kL_22 : MV RL 22 RX5 yX5_end cX5_end 2 (some .int) 1 := ⟨List.forall_mem_cons.mpr ⟨wT_of (in3 (i := 102) rfl) rfl, List.forall_mem_cons.mpr ⟨wT_of (in3 (i := 103) rfl) rfl, List.forall_mem_cons.mpr ⟨wT_of (in3 (i := 104) rfl) rfl, List.forall_mem_cons.mpr ⟨wT_of (in1 (i := 4) rfl) rfl, List.forall_mem_cons.mpr ⟨wT_of (in3 (i := 105) rfl) rfl, fun _ h => absurd h List.not_mem_nil⟩⟩⟩⟩⟩, by decide +kernel⟩
theorem kL_23 : MV RL 23 RX4 yX4_bounds cX4_bounds 3 (some .boolean) 2 := ⟨List.forall_mem_cons.mpr ⟨wT_of (in1 (i := 81) rfl) rfl, List.forall_mem_cons.mpr ⟨wT_of (in1 (i := 82) rfl) rfl, List.forall_mem_cons.mpr ⟨wT_of (in1 (i := 83) rfl) rfl, List.forall_mem_cons.mpr ⟨wT_of (in1 (i := 1) rfl) rfl, List.forall_mem_cons.mpr ⟨wT_of (in1 (i := 84) rfl) rfl, fun _ h => absurd h List.not_mem_nil⟩⟩⟩⟩⟩, by decide +kernel⟩
theorem kL_27 : MV RL 27 RX5 yX5_bounds cX5_bounds 3 (some .boolean) 2 := ⟨List.forall_mem_cons.mpr ⟨wT_of (in3 (i := 106) rfl) rfl, List.forall_mem_cons.mpr ⟨wT_of (in3 (i := 107) rfl) rfl, List.forall_mem_cons.mpr ⟨wT_of (in3 (i := 108) rfl) rfl, List.forall_mem_cons.mpr ⟨wT_of (in1 (i := 4) rfl) rfl, List.forall_mem_cons.mpr ⟨wT_of (in3 (i := 109) rfl) rfl, fun _ h => absurd h List.not_mem_nil⟩⟩⟩⟩⟩, by decide +kernel⟩
theorem kL_28 : MV RL 28 RX4 yX4_toCbor cX4_toCbor 3 (some .int) 0 := ⟨List.forall_mem_cons.mpr ⟨wT_of (in1 (i := 85) rfl) rfl, List.forall_mem_cons.mpr ⟨wT_of (in1 (i := 86) rfl) rfl, List.forall_mem_cons.mpr ⟨wT_of (in1 (i := 87) rfl) rfl, List.forall_mem_cons.mpr ⟨wT_of (in1 (i := 1) rfl) rfl, List.forall_mem_cons.mpr ⟨wT_of (in1 (i := 88) rfl) rfl, fun _ h => absurd h List.not_mem_nil⟩⟩⟩⟩⟩, by decide +kernel⟩
theorem kL_32 : MV RL 32 RX5 yX5_toCbor cX5_toCbor 1 (some .int) 0 := ⟨List.forall_mem_cons.mpr ⟨wT_of (in3 (i := 126) rfl) rfl, List.forall_mem_cons.mpr ⟨wT_of (in3 (i := 127) rfl) rfl, List.forall_mem_cons.mpr ⟨wT_of (in3 (i := 128) rfl) rfl, List.forall_mem_cons.mpr ⟨wT_of (in1 (i := 4) rfl) rfl, List.forall_mem_cons.mpr ⟨wT_of (in3 (i := 129) rfl) rfl, fun _ h => absurd h List.not_mem_nil⟩⟩⟩⟩⟩, by decide +kernel⟩
theorem kL_33 : MV RL 33 RX4 yX4_toJson cX4_toJson 3 (some .int) 0 := ⟨List.forall_mem_cons.mpr ⟨wT_of (in2 (i := 131) rfl) rfl, List.forall_mem_cons.mpr ⟨wT_of (in2 (i := 132) rfl) rfl, List.forall_mem_cons.mpr ⟨wT_of (in2 (i := 133) rfl) rfl, List.forall_mem_cons.mpr ⟨wT_of (in1 (i := 1) rfl) rfl, List.forall_mem_cons.mpr ⟨wT_of (in2 (i := 134) rfl) rfl, fun _ h => absurd h List.not_mem_nil⟩⟩⟩⟩⟩, by decide +kernel⟩
theorem kL_36 : MV RL 36 RX5 yX5_toJson cX5_toJson 1 (some .int) 0 := ⟨List.forall_mem_cons.mpr ⟨wT_of (in4 (i := 42) rfl) rfl, List.forall_mem_cons.mpr ⟨wT_of (in4 (i := 43) rfl) rfl, List.forall_mem_cons.mpr ⟨wT_of (in4 (i := 44) rfl) rfl, List.forall_mem_cons.mpr ⟨wT_of (in1 (i := 4) rfl) rfl, List.forall_mem_cons.mpr ⟨wT_of (in4 (i := 45) rfl) rfl, fun _ h => absurd h List.not_mem_nil⟩⟩⟩⟩⟩, by decide +kernel⟩
theorem kL_37 : MV RL 37 RX4 yX4_errorAt cX4_errorAt 1 (some .int) 0 := ⟨List.forall_mem_cons.mpr ⟨wT_of (in3 (i := 3) rfl) rfl, List.forall_mem_cons.mpr ⟨wT_of (in3 (i := 4) rfl) rfl, List.forall_mem_cons.mpr ⟨wT_of (in3 (i := 5) rfl) rfl, List.forall_mem_cons.mpr ⟨wT_of (in1 (i := 1) rfl) rfl, List.forall_mem_cons.mpr ⟨wT_of (in3 (i := 6) rfl) rfl, fun _ h => absurd h List.not_mem_nil⟩⟩⟩⟩⟩, by decide +kernel⟩
theorem kL_40 : MV RL 40 RX5 yX5_errorAt cX5_errorAt 1 (some .int) 0 := ⟨List.forall_mem_cons.mpr ⟨wT_of (in3 (i := 110) rfl) rfl, List.forall_mem_cons.mpr ⟨wT_of (in3 (i := 111) rfl) rfl, List.forall_mem_cons.mpr ⟨wT_of (in3 (i := 112) rfl) rfl, List.forall_mem_cons.mpr ⟨wT_of (in1 (i := 4) rfl) rfl, List.forall_mem_cons.mpr ⟨wT_of (in3 (i := 113) rfl) rfl, fun _ h => absurd h List.not_mem_nil⟩⟩⟩⟩⟩, by decide +kernel⟩
theorem kL_41 : MV RL 41 RX4 yX4_out cX4_out 2 (some .int) 1 := ⟨List.forall_mem_cons.mpr ⟨wT_of (in3 (i := 7) rfl) rfl, List.forall_mem_cons.mpr ⟨wT_of (in3 (i := 8) rfl) rfl, List.forall_mem_cons.mpr ⟨wT_of (in3 (i := 9) rfl) rfl, List.forall_mem_cons.mpr ⟨wT_of (in1 (i := 1) rfl) rfl, List.forall_mem_cons.mpr ⟨wT_of (in3 (i := 10) rfl) rfl, fun _ h => absurd h List.not_mem_nil⟩⟩⟩⟩⟩, by decide +kernel⟩
theorem kL_44 : MV RL 44 RX5 yX5_out cX5_out 2 (some .int) 1 := ⟨List.forall_mem_cons.mpr ⟨wT_of (in3 (i := 114) rfl) rfl, List.forall_mem_cons.mpr ⟨wT_of (in3 (i := 115) rfl) rfl, List.forall_mem_cons.mpr ⟨wT_of (in3 (i := 116) rfl) rfl, List.forall_mem_cons.mpr ⟨wT_of (in1 (i := 4) rfl) rfl, List.forall_mem_cons.mpr ⟨wT_of (in3 (i := 117) rfl) rfl, fun _ h => absurd h List.not_mem_nil⟩⟩⟩⟩⟩, by decide +kernel⟩
theorem kL_45 : MV RL 45 RX4 yX4_outSize cX4_outSize 1 (some .int) 0 := ⟨List.forall_mem_cons.mpr ⟨wT_of (in3 (i := 11) rfl) rfl, List.forall_mem_cons.mpr ⟨wT_of (in3 (i := 12) rfl) rfl, List.forall_mem_cons.mpr ⟨wT_of (in3 (i := 13) rfl) rfl, List.forall_mem_cons.mpr ⟨wT_of (in1 (i := 1) rfl) rfl, List.forall_mem_cons.mpr ⟨wT_of (in3 (i := 14) rfl) rfl, fun _ h => absurd h List.not_mem_nil⟩⟩⟩⟩⟩, by decide +kernel⟩
theorem kL_48 : MV RL 48 RX5 yX5_outSize cX5_outSize 1 (some .int) 0 := ⟨List.forall_mem_cons.mpr ⟨wT_of (in3 (i := 118) rfl) rfl, List.forall_mem_cons.mpr ⟨wT_of (in3 (i := 119) rfl) rfl, List.forall_mem_cons.mpr ⟨wT_of (in3 (i := 120) rfl) rfl, List.forall_mem_cons.mpr ⟨wT_of (in1 (i := 4) rfl) rfl, List.forall_mem_cons.mpr ⟨wT_of (in3 (i := 121) rfl) rfl, fun _ h => absurd h List.not_mem_nil⟩⟩⟩⟩⟩, by decide +kernel⟩
theorem kL_49 : MV RL 49 RX4 yX4_take cX4_take 1 (some .int) 0 := ⟨List.forall_mem_cons.mpr ⟨wT_of (in3 (i := 15) rfl) rfl, List.forall_mem_cons.mpr ⟨wT_of (in3 (i := 16) rfl) rfl, List.forall_mem_cons.mpr ⟨wT_of (in3 (i := 17) rfl) rfl, List.forall_mem_cons.mpr ⟨wT_of (in1 (i := 1) rfl) rfl, List.forall_mem_cons.mpr ⟨wT_of (in3 (i := 18) rfl) rfl, fun _ h => absurd h List.not_mem_nil⟩⟩⟩⟩⟩, by decide +kernel⟩
theorem kL_52 : MV RL 52 RX5 yX5_take cX5_take 2 (some .int) 0 := ⟨List.forall_mem_cons.mpr ⟨wT_of (in3 (i := 122) rfl) rfl, List.forall_mem_cons.mpr ⟨wT_of (in3 (i := 123) rfl) rfl, List.forall_mem_cons.mpr ⟨wT_of (in3 (i := 124) rfl) rfl, List.forall_mem_cons.mpr ⟨wT_of (in1 (i := 4) rfl) rfl, List.forall_mem_cons.mpr ⟨wT_of (in3 (i := 125) rfl) rfl, fun _ h => absurd h List.not_mem_nil⟩⟩⟩⟩⟩, by decide +kernel⟩
theorem wclL_7 : Cond.classLink RL 7 RX4 ∈ wT := wT_of (in1 (i := 13) rfl) rfl
theorem wclL_10 : Cond.classLink RL 10 RX5 ∈ wT := wT_of (in3 (i := 23) rfl) rfl
/-- what the pure side owes: the two objects, held by I, answer alike and go on held by I -/
def LSteps (I : TSt → MSt → Prop) : Prop :=
  (∀ (τ : TSt) (σ : MSt) (a b c d e : Int32), I τ σ → ∃ (r : Int32) (τ' : TSt) (σ' : MSt), tt_feed a b c d e τ = some (r, τ') ∧ mm_feed a b c d e σ = some (r, σ') ∧ I τ' σ') ∧
  (∀ (τ : TSt) (σ : MSt) (a : Int32), I τ σ → ∃ (r : Int32) (τ' : TSt) (σ' : MSt), tt_end a τ = some (r, τ') ∧ mm_end a σ = some (r, σ') ∧ I τ' σ') ∧
  (∀ (τ : TSt) (σ : MSt) (a b : Int32), I τ σ → ∃ (r : Bool) (τ' : TSt) (σ' : MSt), tt_bounds a b τ = some (r, τ') ∧ mm_bounds a b σ = some (r, σ') ∧ I τ' σ') ∧
  (∀ (τ : TSt) (σ : MSt), I τ σ → ∃ (r : Int32) (τ' : TSt) (σ' : MSt), tt_toCbor 42 τ = some (r, τ') ∧ mm_toCbor σ = some (r, σ') ∧ I τ' σ') ∧
  (∀ (τ : TSt) (σ : MSt), I τ σ → ∃ (r : Int32) (τ' : TSt) (σ' : MSt), tt_toJson 42 τ = some (r, τ') ∧ mm_toJson σ = some (r, σ') ∧ I τ' σ') ∧
  (∀ (τ : TSt) (σ : MSt), I τ σ → ∃ (r : Int32) (τ' : TSt) (σ' : MSt), tt_errorAt τ = some (r, τ') ∧ mm_errorAt σ = some (r, σ') ∧ I τ' σ') ∧
  (∀ (τ : TSt) (σ : MSt) (a : Int32), I τ σ → ∃ (r : Int32) (τ' : TSt) (σ' : MSt), tt_out a τ = some (r, τ') ∧ mm_out a σ = some (r, σ') ∧ I τ' σ') ∧
  (∀ (τ : TSt) (σ : MSt), I τ σ → ∃ (r : Int32) (τ' : TSt) (σ' : MSt), tt_outSize τ = some (r, τ') ∧ mm_outSize σ = some (r, σ') ∧ I τ' σ') ∧
  (∀ (τ : TSt) (σ : MSt), I τ σ → ∃ (r : Int32) (τ' : TSt) (σ' : MSt), tt_take τ = some (r, τ') ∧ mm_take σ = some (r, σ') ∧ I τ' σ')
/-! THE CLAIM OUT OF ONE WALK OF THE LAW'S BODY. Your part is whole_start (and what it stands on); all else here is the same for every law, but numbers. -/
def R_law : String := "TextBridgeLaw"
def lw_P (b : Addr) (xs : List Int32) (args : Array Value) (s : State) : Prop := args = #[.ref b] ∧ s.IntsAt b xs ∧ xs.length ≤ 3072 ∧ (Jvm.Cond.and given_1 narrow_1).before args s = true
def lw_Q (_ : Array Value) (s : State) (o : Outcome) (t : State) : Prop := o = .returned (some (.int 1)) ∧ Framed s o t [] 600000 7302250
def lw_Z (below : List Frame) (a : Array Value) (s : State) : State → Prop := fun t => ∃ o, t.status = .running ∧ Ended t below o ∧ lw_Q a s o t
/-- the law's own end, with 1 on the stack, nothing written that was there before, its room as the claim has it -/
theorem lw_ret {p : Program} {l : Launch} {e : Env} {s : State} {m : MethodId} {below : List Frame} {meth : Method} {c : Code} {b : Nat} (hx : p.tables.exec = Jvm.exec) (hb : c.code = code) (hr : meth.sig.returnType = ret) (hlocks : meth.locks = false) {pc : Nat} {H : Heap} {ls : Array Slot} (hdg : decode code pc = .ok (.ireturn, 1)) : W p l e room_1 s m #[Value.ref b] below meth c H [] 600000 7302250 (lw_Z below #[Value.ref b] s) (F0 m pc ls [.int 1]) := by
  intro T hT X
  obtain ⟨fs, hret, hrun, hended, hW, hframe⟩ := X.leave (v := some (.int 1)) (hlocks := hlocks) (fun h => by rw [hr] at h; cases h)
  have hmeth' : T.vm.method? m = some meth := X.method'
  refine ⟨T.setFrames fs, ?_, .returned (some (.int 1)), hrun, hended, rfl, ⟨_, rfl⟩, hW, hframe⟩
  jvm_step X.here [X.here.top, hx, hb, hdg, hmeth', hr, ret, narrow_b1]
  (try refine ⟨rfl, ?_⟩); (try refine ⟨rfl, ?_⟩)
  first | (intro acts; rw [hret _ acts rfl rfl rfl]) | rw [hret _ _ rfl rfl rfl]
  exact Steps.refl _
/-- what holds at the law's entry: the machine, the code, the tables' words (any of lw_tbl by 'hts w (by decide +kernel)'), the script of L ints xs at the cell b, what the Statement gives of the start (any of its parts by flat_of_before) -/
def lw_At (p : Program) (s : State) (m : MethodId) (meth : Method) (c : Code) (b L : Nat) (xs : Nat → Int32) : Prop :=
  p.tables.exec = Jvm.exec ∧ c.code = code ∧ meth.sig.returnType = ret ∧ c.maxLocals = 4 ∧ s.vm.findClass R_law = some m.cls ∧ (∀ w ∈ lw_tbl, w.before #[Value.ref b] s = true) ∧ va_X b L xs s s.heap ∧ b < s.heap.size ∧ meth.locks = false ∧ (Jvm.Cond.and given_1 narrow_1).before #[Value.ref b] s = true
set_option maxHeartbeats 4000000 in
set_option maxRecDepth 100000 in
theorem law_feed {p : Program} {l : Launch} {e : Env} {s : State} {m : MethodId} {below : List Frame} {meth : Method} {c : Code} {D : va_G} {aK aV : Nat → Nat} {cB cI cJ : ClassId} {b L : Nat} {xs : Nat → Int32} {I : TSt → MSt → Prop} {u : Nat → Nat} {x3 : Int32} {q : Nat → Nat} {τ : TSt} {σ : MSt} {cells slots : Nat} {H : Heap} {locs : List Loc} {ls : Array Slot} (hst : LSteps I) (G : CX p s m #[Value.ref b] meth c D (gTy cB cI cJ) aK aV (fun q : Nat => s.heap.size ≤ q) RL cL_law 4 ret) (hX : va_X b L xs s s.heap) (hbl : b < s.heap.size) (h1 : vp_in (x3 + (1 : Int32)) L) (h2 : vp_in (x3 + (2 : Int32)) L) (h3 : vp_in (x3 + (3 : Int32)) L) (h4 : vp_in (x3 + (4 : Int32)) L) (h5 : vp_in (x3 + (5 : Int32)) L) (hc : cells + 2 ≤ 600000 ∧ slots + 16 ≤ 7302250) (hI : I τ σ) (hk : ∀ (q : Nat → Nat) (τ' : TSt) (σ' : MSt) (cells' slots' : Nat) (H : Heap) (locs : List Loc) (ls : Array Slot), cells' ≤ cells + 2 → slots' ≤ slots + 16 → I τ' σ' → lv_has ls 4 [(0, .ref b), (1, .ref (q 0)), (2, .ref (u 0)), (3, .int x3)] → va_P D vwCl (tW cB q τ' ++ mW cB cI cJ u σ') H → va_D (fun q : Nat => s.heap.size ≤ q) (tW cB q τ' ++ mW cB cI cJ u σ') → va_S (fun q : Nat => s.heap.size ≤ q) s.heap H locs → W p l e room_1 s m #[Value.ref b] below meth c H locs cells' slots' (lw_Z below #[Value.ref b] s) (F0 m 291 ls [])) (hl : lv_has ls 4 [(0, .ref b), (1, .ref (q 0)), (2, .ref (u 0)), (3, .int x3)]) (hP : va_P D vwCl (tW cB q τ ++ mW cB cI cJ u σ) H) (hD : va_D (fun q : Nat => s.heap.size ≤ q) (tW cB q τ ++ mW cB cI cJ u σ)) (hS : va_S (fun q : Nat => s.heap.size ≤ q) s.heap H locs) : W p l e room_1 s m #[Value.ref b] below meth c H locs cells slots (lw_Z below #[Value.ref b] s) (F0 m 84 ls []) := by
  obtain ⟨hx, hb, hml, hown, hT, hrt, hlk, hK, hA, hG, hE⟩ := id G
  have hbA : ¬ (fun q : Nat => s.heap.size ≤ q) b := Nat.not_le.mpr hbl
  obtain ⟨r, τ', σ', e1, e2, hI'⟩ := hst.1 τ σ (xs (x3 + (1 : Int32)).toNatClampNeg) (xs (x3 + (2 : Int32)).toNatClampNeg) (xs (x3 + (3 : Int32)).toNatClampNeg) (xs (x3 + (4 : Int32)).toNatClampNeg) (xs (x3 + (5 : Int32)).toNatClampNeg) hI
  refine lv_aload_n hx hb dL_law_84 rfl (lv_at hl 1 rfl) ?_
  refine lv_aload_n hx hb dL_law_85 rfl (lv_at hl 0 rfl) ?_
  refine lv_iload_n hx hb dL_law_86 rfl (lv_at hl 3 rfl) ?_
  refine lv_iconst (v := 1) hx hb dL_law_87 (by decide) ?_
  refine lv_iadd hx hb dL_law_88 ?_
  refine va_sld hx hb hX hbl hbA hS h1 dL_law_89 ?_
  refine lv_aload_n hx hb dL_law_90 rfl (lv_at hl 0 rfl) ?_
  refine lv_iload_n hx hb dL_law_91 rfl (lv_at hl 3 rfl) ?_
  refine lv_iconst (v := 2) hx hb dL_law_92 (by decide) ?_
  refine lv_iadd hx hb dL_law_93 ?_
  refine va_sld hx hb hX hbl hbA hS h2 dL_law_94 ?_
  refine lv_aload_n hx hb dL_law_95 rfl (lv_at hl 0 rfl) ?_
  refine lv_iload_n hx hb dL_law_96 rfl (lv_at hl 3 rfl) ?_
  refine lv_iconst (v := 3) hx hb dL_law_97 (by decide) ?_
  refine lv_iadd hx hb dL_law_98 ?_
  refine va_sld hx hb hX hbl hbA hS h3 dL_law_99 ?_
  refine lv_aload_n hx hb dL_law_100 rfl (lv_at hl 0 rfl) ?_
  refine lv_iload_n hx hb dL_law_101 rfl (lv_at hl 3 rfl) ?_
  refine lv_iconst (v := 4) hx hb dL_law_102 (by decide) ?_
  refine lv_iadd hx hb dL_law_103 ?_
  refine va_sld hx hb hX hbl hbA hS h4 dL_law_104 ?_
  refine lv_aload_n hx hb dL_law_105 rfl (lv_at hl 0 rfl) ?_
  refine lv_iload_n hx hb dL_law_106 rfl (lv_at hl 3 rfl) ?_
  refine lv_iconst (v := 5) hx hb dL_law_107 (by decide) ?_
  refine lv_iadd hx hb dL_law_108 ?_
  refine va_sld hx hb hX hbl hbA hS h5 dL_law_109 ?_
  refine ct_v (As := [.int (xs (x3 + (1 : Int32)).toNatClampNeg), .int (xs (x3 + (2 : Int32)).toNatClampNeg), .int (xs (x3 + (3 : Int32)).toNatClampNeg), .int (xs (x3 + (4 : Int32)).toNatClampNeg), .int (xs (x3 + (5 : Int32)).toNatClampNeg)]) (rest := []) (wr := mW cB cI cJ u σ) G kL_13 (c_tt_feed e1) hP hD hS [0, 1, 2, 3, 4, 5, 6] [7, 8, 9, 10, 11, 12, 13, 14, 15, 16, 17] rfl rfl rfl rfl (by decide) (ci := 3) (q0 := 0) rfl rfl rfl ⟨rfl, rfl, (Nat.le_of_ble_eq_true rfl), (Nat.le_of_ble_eq_true rfl)⟩ rfl hl.1 (Nat.le_of_ble_eq_true rfl) dL_law_110 ⟨by show cells + 0 ≤ 600000; omega, by show slots + 0 ≤ 7302250; omega⟩ (fun H locs hP hD hS => ?_)
  refine W.eq (g2 := F0 m 113 ls [.int r]) rfl ?_
  refine lv_aload_n hx hb dL_law_113 rfl (lv_at hl 2 rfl) ?_
  refine lv_aload_n hx hb dL_law_114 rfl (lv_at hl 0 rfl) ?_
  refine lv_iload_n hx hb dL_law_115 rfl (lv_at hl 3 rfl) ?_
  refine lv_iconst (v := 1) hx hb dL_law_116 (by decide) ?_
  refine lv_iadd hx hb dL_law_117 ?_
  refine va_sld hx hb hX hbl hbA hS h1 dL_law_118 ?_
  refine lv_aload_n hx hb dL_law_119 rfl (lv_at hl 0 rfl) ?_
  refine lv_iload_n hx hb dL_law_120 rfl (lv_at hl 3 rfl) ?_
  refine lv_iconst (v := 2) hx hb dL_law_121 (by decide) ?_
  refine lv_iadd hx hb dL_law_122 ?_
  refine va_sld hx hb hX hbl hbA hS h2 dL_law_123 ?_
  refine lv_aload_n hx hb dL_law_124 rfl (lv_at hl 0 rfl) ?_
  refine lv_iload_n hx hb dL_law_125 rfl (lv_at hl 3 rfl) ?_
  refine lv_iconst (v := 3) hx hb dL_law_126 (by decide) ?_
  refine lv_iadd hx hb dL_law_127 ?_
  refine va_sld hx hb hX hbl hbA hS h3 dL_law_128 ?_
  refine lv_aload_n hx hb dL_law_129 rfl (lv_at hl 0 rfl) ?_
  refine lv_iload_n hx hb dL_law_130 rfl (lv_at hl 3 rfl) ?_
  refine lv_iconst (v := 4) hx hb dL_law_131 (by decide) ?_
  refine lv_iadd hx hb dL_law_132 ?_
  refine va_sld hx hb hX hbl hbA hS h4 dL_law_133 ?_
  refine lv_aload_n hx hb dL_law_134 rfl (lv_at hl 0 rfl) ?_
  refine lv_iload_n hx hb dL_law_135 rfl (lv_at hl 3 rfl) ?_
  refine lv_iconst (v := 5) hx hb dL_law_136 (by decide) ?_
  refine lv_iadd hx hb dL_law_137 ?_
  refine va_sld hx hb hX hbl hbA hS h5 dL_law_138 ?_
  refine ct_v (As := [.int (xs (x3 + (1 : Int32)).toNatClampNeg), .int (xs (x3 + (2 : Int32)).toNatClampNeg), .int (xs (x3 + (3 : Int32)).toNatClampNeg), .int (xs (x3 + (4 : Int32)).toNatClampNeg), .int (xs (x3 + (5 : Int32)).toNatClampNeg)]) (rest := [.int r]) (wr := tW cB q τ') G kL_17 (c_mm_feed e2) hP hD hS [0, 1, 2, 3, 4, 5, 6, 7, 8, 9, 10] [11, 12, 13, 14, 15, 16, 17] rfl rfl rfl rfl (by decide) (ci := 4) (q0 := 0) rfl rfl rfl ⟨rfl, rfl, (Nat.le_of_ble_eq_true rfl), (Nat.le_of_ble_eq_true rfl)⟩ rfl hl.1 (Nat.le_of_ble_eq_true rfl) dL_law_139 ⟨by show cells + 0 + 0 ≤ 600000; omega, by show slots + 0 + 0 ≤ 7302250; omega⟩ (fun H locs hP hD hS => ?_)
  refine W.eq (g2 := F0 m 142 ls [.int r, .int r]) rfl ?_
  refine lv_icmp_eq (tgt := 291) hx hb dL_law_142 (by decide) (fun _ => ?_) (fun z => absurd rfl z)
  exact hk q τ' σ' _ _ _ _ _ (by omega) (by omega) hI' hl hP hD hS
set_option maxHeartbeats 4000000 in
set_option maxRecDepth 100000 in
theorem law_end {p : Program} {l : Launch} {e : Env} {s : State} {m : MethodId} {below : List Frame} {meth : Method} {c : Code} {D : va_G} {aK aV : Nat → Nat} {cB cI cJ : ClassId} {b L : Nat} {xs : Nat → Int32} {I : TSt → MSt → Prop} {u : Nat → Nat} {x3 : Int32} {q : Nat → Nat} {τ : TSt} {σ : MSt} {cells slots : Nat} {H : Heap} {locs : List Loc} {ls : Array Slot} (hst : LSteps I) (G : CX p s m #[Value.ref b] meth c D (gTy cB cI cJ) aK aV (fun q : Nat => s.heap.size ≤ q) RL cL_law 4 ret) (hX : va_X b L xs s s.heap) (hbl : b < s.heap.size) (h1 : vp_in (x3 + (1 : Int32)) L) (hc : cells + 2 ≤ 600000 ∧ slots + 16 ≤ 7302250) (hI : I τ σ) (hk : ∀ (q : Nat → Nat) (τ' : TSt) (σ' : MSt) (cells' slots' : Nat) (H : Heap) (locs : List Loc) (ls : Array Slot), cells' ≤ cells + 2 → slots' ≤ slots + 16 → I τ' σ' → lv_has ls 4 [(0, .ref b), (1, .ref (q 0)), (2, .ref (u 0)), (3, .int x3)] → va_P D vwCl (tW cB q τ' ++ mW cB cI cJ u σ') H → va_D (fun q : Nat => s.heap.size ≤ q) (tW cB q τ' ++ mW cB cI cJ u σ') → va_S (fun q : Nat => s.heap.size ≤ q) s.heap H locs → W p l e room_1 s m #[Value.ref b] below meth c H locs cells' slots' (lw_Z below #[Value.ref b] s) (F0 m 291 ls [])) (hl : lv_has ls 4 [(0, .ref b), (1, .ref (q 0)), (2, .ref (u 0)), (3, .int x3)]) (hP : va_P D vwCl (tW cB q τ ++ mW cB cI cJ u σ) H) (hD : va_D (fun q : Nat => s.heap.size ≤ q) (tW cB q τ ++ mW cB cI cJ u σ)) (hS : va_S (fun q : Nat => s.heap.size ≤ q) s.heap H locs) : W p l e room_1 s m #[Value.ref b] below meth c H locs cells slots (lw_Z below #[Value.ref b] s) (F0 m 147 ls []) := by
  obtain ⟨hx, hb, hml, hown, hT, hrt, hlk, hK, hA, hG, hE⟩ := id G
  have hbA : ¬ (fun q : Nat => s.heap.size ≤ q) b := Nat.not_le.mpr hbl
  obtain ⟨r, τ', σ', e1, e2, hI'⟩ := hst.2.1 τ σ (xs (x3 + (1 : Int32)).toNatClampNeg) hI
  refine lv_aload_n hx hb dL_law_147 rfl (lv_at hl 1 rfl) ?_
  refine lv_aload_n hx hb dL_law_148 rfl (lv_at hl 0 rfl) ?_
  refine lv_iload_n hx hb dL_law_149 rfl (lv_at hl 3 rfl) ?_
  refine lv_iconst (v := 1) hx hb dL_law_150 (by decide) ?_
  refine lv_iadd hx hb dL_law_151 ?_
  refine va_sld hx hb hX hbl hbA hS h1 dL_law_152 ?_
  refine ct_v (As := [.int (xs (x3 + (1 : Int32)).toNatClampNeg)]) (rest := []) (wr := mW cB cI cJ u σ) G kL_18 (c_tt_end e1) hP hD hS [0, 1, 2, 3, 4, 5, 6] [7, 8, 9, 10, 11, 12, 13, 14, 15, 16, 17] rfl rfl rfl rfl (by decide) (ci := 3) (q0 := 0) rfl rfl rfl ⟨rfl, rfl, (Nat.le_of_ble_eq_true rfl), (Nat.le_of_ble_eq_true rfl)⟩ rfl hl.1 (Nat.le_of_ble_eq_true rfl) dL_law_153 ⟨by show cells + 0 ≤ 600000; omega, by show slots + 0 ≤ 7302250; omega⟩ (fun H locs hP hD hS => ?_)
  refine W.eq (g2 := F0 m 156 ls [.int r]) rfl ?_
  refine lv_aload_n hx hb dL_law_156 rfl (lv_at hl 2 rfl) ?_
  refine lv_aload_n hx hb dL_law_157 rfl (lv_at hl 0 rfl) ?_
  refine lv_iload_n hx hb dL_law_158 rfl (lv_at hl 3 rfl) ?_
  refine lv_iconst (v := 1) hx hb dL_law_159 (by decide) ?_
  refine lv_iadd hx hb dL_law_160 ?_
  refine va_sld hx hb hX hbl hbA hS h1 dL_law_161 ?_
  refine ct_v (As := [.int (xs (x3 + (1 : Int32)).toNatClampNeg)]) (rest := [.int r]) (wr := tW cB q τ') G kL_22 (c_mm_end e2) hP hD hS [0, 1, 2, 3, 4, 5, 6, 7, 8, 9, 10] [11, 12, 13, 14, 15, 16, 17] rfl rfl rfl rfl (by decide) (ci := 4) (q0 := 0) rfl rfl rfl ⟨rfl, rfl, (Nat.le_of_ble_eq_true rfl), (Nat.le_of_ble_eq_true rfl)⟩ rfl hl.1 (Nat.le_of_ble_eq_true rfl) dL_law_162 ⟨by show cells + 0 + 0 ≤ 600000; omega, by show slots + 0 + 0 ≤ 7302250; omega⟩ (fun H locs hP hD hS => ?_)
  refine W.eq (g2 := F0 m 165 ls [.int r, .int r]) rfl ?_
  refine lv_icmp_eq (tgt := 291) hx hb dL_law_165 (by decide) (fun _ => ?_) (fun z => absurd rfl z)
  exact hk q τ' σ' _ _ _ _ _ (by omega) (by omega) hI' hl hP hD hS
set_option maxHeartbeats 4000000 in
set_option maxRecDepth 100000 in
theorem law_bounds {p : Program} {l : Launch} {e : Env} {s : State} {m : MethodId} {below : List Frame} {meth : Method} {c : Code} {D : va_G} {aK aV : Nat → Nat} {cB cI cJ : ClassId} {b L : Nat} {xs : Nat → Int32} {I : TSt → MSt → Prop} {u : Nat → Nat} {x3 : Int32} {q : Nat → Nat} {τ : TSt} {σ : MSt} {cells slots : Nat} {H : Heap} {locs : List Loc} {ls : Array Slot} (hst : LSteps I) (G : CX p s m #[Value.ref b] meth c D (gTy cB cI cJ) aK aV (fun q : Nat => s.heap.size ≤ q) RL cL_law 4 ret) (hX : va_X b L xs s s.heap) (hbl : b < s.heap.size) (h1 : vp_in (x3 + (1 : Int32)) L) (h2 : vp_in (x3 + (2 : Int32)) L) (hc : cells + 2 ≤ 600000 ∧ slots + 16 ≤ 7302250) (hI : I τ σ) (hk : ∀ (q : Nat → Nat) (τ' : TSt) (σ' : MSt) (cells' slots' : Nat) (H : Heap) (locs : List Loc) (ls : Array Slot), cells' ≤ cells + 2 → slots' ≤ slots + 16 → I τ' σ' → lv_has ls 4 [(0, .ref b), (1, .ref (q 0)), (2, .ref (u 0)), (3, .int x3)] → va_P D vwCl (tW cB q τ' ++ mW cB cI cJ u σ') H → va_D (fun q : Nat => s.heap.size ≤ q) (tW cB q τ' ++ mW cB cI cJ u σ') → va_S (fun q : Nat => s.heap.size ≤ q) s.heap H locs → W p l e room_1 s m #[Value.ref b] below meth c H locs cells' slots' (lw_Z below #[Value.ref b] s) (F0 m 291 ls [])) (hl : lv_has ls 4 [(0, .ref b), (1, .ref (q 0)), (2, .ref (u 0)), (3, .int x3)]) (hP : va_P D vwCl (tW cB q τ ++ mW cB cI cJ u σ) H) (hD : va_D (fun q : Nat => s.heap.size ≤ q) (tW cB q τ ++ mW cB cI cJ u σ)) (hS : va_S (fun q : Nat => s.heap.size ≤ q) s.heap H locs) : W p l e room_1 s m #[Value.ref b] below meth c H locs cells slots (lw_Z below #[Value.ref b] s) (F0 m 170 ls []) := by
  obtain ⟨hx, hb, hml, hown, hT, hrt, hlk, hK, hA, hG, hE⟩ := id G
  have hbA : ¬ (fun q : Nat => s.heap.size ≤ q) b := Nat.not_le.mpr hbl
  obtain ⟨r, τ', σ', e1, e2, hI'⟩ := hst.2.2.1 τ σ (xs (x3 + (1 : Int32)).toNatClampNeg) (xs (x3 + (2 : Int32)).toNatClampNeg) hI
  refine lv_aload_n hx hb dL_law_170 rfl (lv_at hl 1 rfl) ?_
  refine lv_aload_n hx hb dL_law_171 rfl (lv_at hl 0 rfl) ?_
  refine lv_iload_n hx hb dL_law_172 rfl (lv_at hl 3 rfl) ?_
  refine lv_iconst (v := 1) hx hb dL_law_173 (by decide) ?_
  refine lv_iadd hx hb dL_law_174 ?_
  refine va_sld hx hb hX hbl hbA hS h1 dL_law_175 ?_
  refine lv_aload_n hx hb dL_law_176 rfl (lv_at hl 0 rfl) ?_
  refine lv_iload_n hx hb dL_law_177 rfl (lv_at hl 3 rfl) ?_
  refine lv_iconst (v := 2) hx hb dL_law_178 (by decide) ?_
  refine lv_iadd hx hb dL_law_179 ?_
  refine va_sld hx hb hX hbl hbA hS h2 dL_law_180 ?_
  refine ct_v (As := [.int (xs (x3 + (1 : Int32)).toNatClampNeg), .int (xs (x3 + (2 : Int32)).toNatClampNeg)]) (rest := []) (wr := mW cB cI cJ u σ) G kL_23 (c_tt_bounds e1) hP hD hS [0, 1, 2, 3, 4, 5, 6] [7, 8, 9, 10, 11, 12, 13, 14, 15, 16, 17] rfl rfl rfl rfl (by decide) (ci := 3) (q0 := 0) rfl rfl rfl ⟨rfl, rfl, (Nat.le_of_ble_eq_true rfl), (Nat.le_of_ble_eq_true rfl)⟩ rfl hl.1 (Nat.le_of_ble_eq_true rfl) dL_law_181 ⟨by show cells + 0 ≤ 600000; omega, by show slots + 0 ≤ 7302250; omega⟩ (fun H locs hP hD hS => ?_)
  refine W.eq (g2 := F0 m 184 ls [.int (bI r)]) rfl ?_
  refine lv_aload_n hx hb dL_law_184 rfl (lv_at hl 2 rfl) ?_
  refine lv_aload_n hx hb dL_law_185 rfl (lv_at hl 0 rfl) ?_
  refine lv_iload_n hx hb dL_law_186 rfl (lv_at hl 3 rfl) ?_
  refine lv_iconst (v := 1) hx hb dL_law_187 (by decide) ?_
  refine lv_iadd hx hb dL_law_188 ?_
  refine va_sld hx hb hX hbl hbA hS h1 dL_law_189 ?_
  refine lv_aload_n hx hb dL_law_190 rfl (lv_at hl 0 rfl) ?_
  refine lv_iload_n hx hb dL_law_191 rfl (lv_at hl 3 rfl) ?_
  refine lv_iconst (v := 2) hx hb dL_law_192 (by decide) ?_
  refine lv_iadd hx hb dL_law_193 ?_
  refine va_sld hx hb hX hbl hbA hS h2 dL_law_194 ?_
  refine ct_v (As := [.int (xs (x3 + (1 : Int32)).toNatClampNeg), .int (xs (x3 + (2 : Int32)).toNatClampNeg)]) (rest := [.int (bI r)]) (wr := tW cB q τ') G kL_27 (c_mm_bounds e2) hP hD hS [0, 1, 2, 3, 4, 5, 6, 7, 8, 9, 10] [11, 12, 13, 14, 15, 16, 17] rfl rfl rfl rfl (by decide) (ci := 4) (q0 := 0) rfl rfl rfl ⟨rfl, rfl, (Nat.le_of_ble_eq_true rfl), (Nat.le_of_ble_eq_true rfl)⟩ rfl hl.1 (Nat.le_of_ble_eq_true rfl) dL_law_195 ⟨by show cells + 0 + 0 ≤ 600000; omega, by show slots + 0 + 0 ≤ 7302250; omega⟩ (fun H locs hP hD hS => ?_)
  refine W.eq (g2 := F0 m 198 ls [.int (bI r), .int (bI r)]) rfl ?_
  refine lv_icmp_eq (tgt := 291) hx hb dL_law_198 (by decide) (fun _ => ?_) (fun z => absurd rfl z)
  exact hk q τ' σ' _ _ _ _ _ (by omega) (by omega) hI' hl hP hD hS
set_option maxHeartbeats 4000000 in
set_option maxRecDepth 100000 in
theorem law_toCbor {p : Program} {l : Launch} {e : Env} {s : State} {m : MethodId} {below : List Frame} {meth : Method} {c : Code} {D : va_G} {aK aV : Nat → Nat} {cB cI cJ : ClassId} {b L : Nat} {xs : Nat → Int32} {I : TSt → MSt → Prop} {u : Nat → Nat} {x3 : Int32} {q : Nat → Nat} {τ : TSt} {σ : MSt} {cells slots : Nat} {H : Heap} {locs : List Loc} {ls : Array Slot} (hst : LSteps I) (G : CX p s m #[Value.ref b] meth c D (gTy cB cI cJ) aK aV (fun q : Nat => s.heap.size ≤ q) RL cL_law 4 ret) (hX : va_X b L xs s s.heap) (hbl : b < s.heap.size)  (hc : cells + 2 ≤ 600000 ∧ slots + 16 ≤ 7302250) (hI : I τ σ) (hk : ∀ (q : Nat → Nat) (τ' : TSt) (σ' : MSt) (cells' slots' : Nat) (H : Heap) (locs : List Loc) (ls : Array Slot), cells' ≤ cells + 2 → slots' ≤ slots + 16 → I τ' σ' → lv_has ls 4 [(0, .ref b), (1, .ref (q 0)), (2, .ref (u 0)), (3, .int x3)] → va_P D vwCl (tW cB q τ' ++ mW cB cI cJ u σ') H → va_D (fun q : Nat => s.heap.size ≤ q) (tW cB q τ' ++ mW cB cI cJ u σ') → va_S (fun q : Nat => s.heap.size ≤ q) s.heap H locs → W p l e room_1 s m #[Value.ref b] below meth c H locs cells' slots' (lw_Z below #[Value.ref b] s) (F0 m 291 ls [])) (hl : lv_has ls 4 [(0, .ref b), (1, .ref (q 0)), (2, .ref (u 0)), (3, .int x3)]) (hP : va_P D vwCl (tW cB q τ ++ mW cB cI cJ u σ) H) (hD : va_D (fun q : Nat => s.heap.size ≤ q) (tW cB q τ ++ mW cB cI cJ u σ)) (hS : va_S (fun q : Nat => s.heap.size ≤ q) s.heap H locs) : W p l e room_1 s m #[Value.ref b] below meth c H locs cells slots (lw_Z below #[Value.ref b] s) (F0 m 203 ls []) := by
  obtain ⟨hx, hb, hml, hown, hT, hrt, hlk, hK, hA, hG, hE⟩ := id G
  have hbA : ¬ (fun q : Nat => s.heap.size ≤ q) b := Nat.not_le.mpr hbl
  obtain ⟨r, τ', σ', e1, e2, hI'⟩ := hst.2.2.2.1 τ σ  hI
  refine lv_aload_n hx hb dL_law_203 rfl (lv_at hl 1 rfl) ?_
  refine ct_v (As := []) (rest := []) (wr := mW cB cI cJ u σ) G kL_28 (c_tt_toCbor 42 e1) hP hD hS [0, 1, 2, 3, 4, 5, 6] [7, 8, 9, 10, 11, 12, 13, 14, 15, 16, 17] rfl rfl rfl rfl (by decide) (ci := 3) (q0 := 0) rfl rfl rfl ⟨rfl, rfl, (Nat.le_of_ble_eq_true rfl), (Nat.le_of_ble_eq_true rfl)⟩ rfl hl.1 (Nat.le_of_ble_eq_true rfl) dL_law_204 ⟨by show cells + 2 ≤ 600000; omega, by show slots + 12 ≤ 7302250; omega⟩ (fun H locs hP hD hS => ?_)
  refine W.eq (g2 := F0 m 207 ls [.int r]) rfl ?_
  refine lv_aload_n hx hb dL_law_207 rfl (lv_at hl 2 rfl) ?_
  refine ct_v (As := []) (rest := [.int r]) (wr := tW cB q τ') G kL_32 (c_mm_toCbor e2) hP hD hS [0, 1, 2, 3, 4, 5, 6, 7, 8, 9, 10] [11, 12, 13, 14, 15, 16, 17] rfl rfl rfl rfl (by decide) (ci := 4) (q0 := 0) rfl rfl rfl ⟨rfl, rfl, (Nat.le_of_ble_eq_true rfl), (Nat.le_of_ble_eq_true rfl)⟩ rfl hl.1 (Nat.le_of_ble_eq_true rfl) dL_law_208 ⟨by show cells + 2 + 0 ≤ 600000; omega, by show slots + 12 + 0 ≤ 7302250; omega⟩ (fun H locs hP hD hS => ?_)
  refine W.eq (g2 := F0 m 211 ls [.int r, .int r]) rfl ?_
  refine lv_icmp_eq (tgt := 291) hx hb dL_law_211 (by decide) (fun _ => ?_) (fun z => absurd rfl z)
  exact hk q τ' σ' _ _ _ _ _ (by omega) (by omega) hI' hl hP hD hS
set_option maxHeartbeats 4000000 in
set_option maxRecDepth 100000 in
theorem law_toJson {p : Program} {l : Launch} {e : Env} {s : State} {m : MethodId} {below : List Frame} {meth : Method} {c : Code} {D : va_G} {aK aV : Nat → Nat} {cB cI cJ : ClassId} {b L : Nat} {xs : Nat → Int32} {I : TSt → MSt → Prop} {u : Nat → Nat} {x3 : Int32} {q : Nat → Nat} {τ : TSt} {σ : MSt} {cells slots : Nat} {H : Heap} {locs : List Loc} {ls : Array Slot} (hst : LSteps I) (G : CX p s m #[Value.ref b] meth c D (gTy cB cI cJ) aK aV (fun q : Nat => s.heap.size ≤ q) RL cL_law 4 ret) (hX : va_X b L xs s s.heap) (hbl : b < s.heap.size)  (hc : cells + 2 ≤ 600000 ∧ slots + 16 ≤ 7302250) (hI : I τ σ) (hk : ∀ (q : Nat → Nat) (τ' : TSt) (σ' : MSt) (cells' slots' : Nat) (H : Heap) (locs : List Loc) (ls : Array Slot), cells' ≤ cells + 2 → slots' ≤ slots + 16 → I τ' σ' → lv_has ls 4 [(0, .ref b), (1, .ref (q 0)), (2, .ref (u 0)), (3, .int x3)] → va_P D vwCl (tW cB q τ' ++ mW cB cI cJ u σ') H → va_D (fun q : Nat => s.heap.size ≤ q) (tW cB q τ' ++ mW cB cI cJ u σ') → va_S (fun q : Nat => s.heap.size ≤ q) s.heap H locs → W p l e room_1 s m #[Value.ref b] below meth c H locs cells' slots' (lw_Z below #[Value.ref b] s) (F0 m 291 ls [])) (hl : lv_has ls 4 [(0, .ref b), (1, .ref (q 0)), (2, .ref (u 0)), (3, .int x3)]) (hP : va_P D vwCl (tW cB q τ ++ mW cB cI cJ u σ) H) (hD : va_D (fun q : Nat => s.heap.size ≤ q) (tW cB q τ ++ mW cB cI cJ u σ)) (hS : va_S (fun q : Nat => s.heap.size ≤ q) s.heap H locs) : W p l e room_1 s m #[Value.ref b] below meth c H locs cells slots (lw_Z below #[Value.ref b] s) (F0 m 216 ls []) := by
  obtain ⟨hx, hb, hml, hown, hT, hrt, hlk, hK, hA, hG, hE⟩ := id G
  have hbA : ¬ (fun q : Nat => s.heap.size ≤ q) b := Nat.not_le.mpr hbl
  obtain ⟨r, τ', σ', e1, e2, hI'⟩ := hst.2.2.2.2.1 τ σ  hI
  refine lv_aload_n hx hb dL_law_216 rfl (lv_at hl 1 rfl) ?_
  refine ct_v (As := []) (rest := []) (wr := mW cB cI cJ u σ) G kL_33 (c_tt_toJson 42 e1) hP hD hS [0, 1, 2, 3, 4, 5, 6] [7, 8, 9, 10, 11, 12, 13, 14, 15, 16, 17] rfl rfl rfl rfl (by decide) (ci := 3) (q0 := 0) rfl rfl rfl ⟨rfl, rfl, (Nat.le_of_ble_eq_true rfl), (Nat.le_of_ble_eq_true rfl)⟩ rfl hl.1 (Nat.le_of_ble_eq_true rfl) dL_law_217 ⟨by show cells + 2 ≤ 600000; omega, by show slots + 16 ≤ 7302250; omega⟩ (fun H locs hP hD hS => ?_)
  refine W.eq (g2 := F0 m 220 ls [.int r]) rfl ?_
  refine lv_aload_n hx hb dL_law_220 rfl (lv_at hl 2 rfl) ?_
  refine ct_v (As := []) (rest := [.int r]) (wr := tW cB q τ') G kL_36 (c_mm_toJson e2) hP hD hS [0, 1, 2, 3, 4, 5, 6, 7, 8, 9, 10] [11, 12, 13, 14, 15, 16, 17] rfl rfl rfl rfl (by decide) (ci := 4) (q0 := 0) rfl rfl rfl ⟨rfl, rfl, (Nat.le_of_ble_eq_true rfl), (Nat.le_of_ble_eq_true rfl)⟩ rfl hl.1 (Nat.le_of_ble_eq_true rfl) dL_law_221 ⟨by show cells + 2 + 0 ≤ 600000; omega, by show slots + 16 + 0 ≤ 7302250; omega⟩ (fun H locs hP hD hS => ?_)
  refine W.eq (g2 := F0 m 224 ls [.int r, .int r]) rfl ?_
  refine lv_icmp_eq (tgt := 291) hx hb dL_law_224 (by decide) (fun _ => ?_) (fun z => absurd rfl z)
  exact hk q τ' σ' _ _ _ _ _ (by omega) (by omega) hI' hl hP hD hS
set_option maxHeartbeats 4000000 in
set_option maxRecDepth 100000 in
theorem law_errorAt {p : Program} {l : Launch} {e : Env} {s : State} {m : MethodId} {below : List Frame} {meth : Method} {c : Code} {D : va_G} {aK aV : Nat → Nat} {cB cI cJ : ClassId} {b L : Nat} {xs : Nat → Int32} {I : TSt → MSt → Prop} {u : Nat → Nat} {x3 : Int32} {q : Nat → Nat} {τ : TSt} {σ : MSt} {cells slots : Nat} {H : Heap} {locs : List Loc} {ls : Array Slot} (hst : LSteps I) (G : CX p s m #[Value.ref b] meth c D (gTy cB cI cJ) aK aV (fun q : Nat => s.heap.size ≤ q) RL cL_law 4 ret) (hX : va_X b L xs s s.heap) (hbl : b < s.heap.size)  (hc : cells + 2 ≤ 600000 ∧ slots + 16 ≤ 7302250) (hI : I τ σ) (hk : ∀ (q : Nat → Nat) (τ' : TSt) (σ' : MSt) (cells' slots' : Nat) (H : Heap) (locs : List Loc) (ls : Array Slot), cells' ≤ cells + 2 → slots' ≤ slots + 16 → I τ' σ' → lv_has ls 4 [(0, .ref b), (1, .ref (q 0)), (2, .ref (u 0)), (3, .int x3)] → va_P D vwCl (tW cB q τ' ++ mW cB cI cJ u σ') H → va_D (fun q : Nat => s.heap.size ≤ q) (tW cB q τ' ++ mW cB cI cJ u σ') → va_S (fun q : Nat => s.heap.size ≤ q) s.heap H locs → W p l e room_1 s m #[Value.ref b] below meth c H locs cells' slots' (lw_Z below #[Value.ref b] s) (F0 m 291 ls [])) (hl : lv_has ls 4 [(0, .ref b), (1, .ref (q 0)), (2, .ref (u 0)), (3, .int x3)]) (hP : va_P D vwCl (tW cB q τ ++ mW cB cI cJ u σ) H) (hD : va_D (fun q : Nat => s.heap.size ≤ q) (tW cB q τ ++ mW cB cI cJ u σ)) (hS : va_S (fun q : Nat => s.heap.size ≤ q) s.heap H locs) : W p l e room_1 s m #[Value.ref b] below meth c H locs cells slots (lw_Z below #[Value.ref b] s) (F0 m 229 ls []) := by
  obtain ⟨hx, hb, hml, hown, hT, hrt, hlk, hK, hA, hG, hE⟩ := id G
  have hbA : ¬ (fun q : Nat => s.heap.size ≤ q) b := Nat.not_le.mpr hbl
  obtain ⟨r, τ', σ', e1, e2, hI'⟩ := hst.2.2.2.2.2.1 τ σ  hI
  refine lv_aload_n hx hb dL_law_229 rfl (lv_at hl 1 rfl) ?_
  refine ct_v (As := []) (rest := []) (wr := mW cB cI cJ u σ) G kL_37 (c_tt_errorAt e1) hP hD hS [0, 1, 2, 3, 4, 5, 6] [7, 8, 9, 10, 11, 12, 13, 14, 15, 16, 17] rfl rfl rfl rfl (by decide) (ci := 3) (q0 := 0) rfl rfl rfl ⟨rfl, rfl, (Nat.le_of_ble_eq_true rfl), (Nat.le_of_ble_eq_true rfl)⟩ rfl hl.1 (Nat.le_of_ble_eq_true rfl) dL_law_230 ⟨by show cells + 0 ≤ 600000; omega, by show slots + 0 ≤ 7302250; omega⟩ (fun H locs hP hD hS => ?_)
  refine W.eq (g2 := F0 m 233 ls [.int r]) rfl ?_
  refine lv_aload_n hx hb dL_law_233 rfl (lv_at hl 2 rfl) ?_
  refine ct_v (As := []) (rest := [.int r]) (wr := tW cB q τ') G kL_40 (c_mm_errorAt e2) hP hD hS [0, 1, 2, 3, 4, 5, 6, 7, 8, 9, 10] [11, 12, 13, 14, 15, 16, 17] rfl rfl rfl rfl (by decide) (ci := 4) (q0 := 0) rfl rfl rfl ⟨rfl, rfl, (Nat.le_of_ble_eq_true rfl), (Nat.le_of_ble_eq_true rfl)⟩ rfl hl.1 (Nat.le_of_ble_eq_true rfl) dL_law_234 ⟨by show cells + 0 + 0 ≤ 600000; omega, by show slots + 0 + 0 ≤ 7302250; omega⟩ (fun H locs hP hD hS => ?_)
  refine W.eq (g2 := F0 m 237 ls [.int r, .int r]) rfl ?_
  refine lv_icmp_eq (tgt := 291) hx hb dL_law_237 (by decide) (fun _ => ?_) (fun z => absurd rfl z)
  exact hk q τ' σ' _ _ _ _ _ (by omega) (by omega) hI' hl hP hD hS
set_option maxHeartbeats 4000000 in
set_option maxRecDepth 100000 in
theorem law_out {p : Program} {l : Launch} {e : Env} {s : State} {m : MethodId} {below : List Frame} {meth : Method} {c : Code} {D : va_G} {aK aV : Nat → Nat} {cB cI cJ : ClassId} {b L : Nat} {xs : Nat → Int32} {I : TSt → MSt → Prop} {u : Nat → Nat} {x3 : Int32} {q : Nat → Nat} {τ : TSt} {σ : MSt} {cells slots : Nat} {H : Heap} {locs : List Loc} {ls : Array Slot} (hst : LSteps I) (G : CX p s m #[Value.ref b] meth c D (gTy cB cI cJ) aK aV (fun q : Nat => s.heap.size ≤ q) RL cL_law 4 ret) (hX : va_X b L xs s s.heap) (hbl : b < s.heap.size) (h1 : vp_in (x3 + (1 : Int32)) L) (hc : cells + 2 ≤ 600000 ∧ slots + 16 ≤ 7302250) (hI : I τ σ) (hk : ∀ (q : Nat → Nat) (τ' : TSt) (σ' : MSt) (cells' slots' : Nat) (H : Heap) (locs : List Loc) (ls : Array Slot), cells' ≤ cells + 2 → slots' ≤ slots + 16 → I τ' σ' → lv_has ls 4 [(0, .ref b), (1, .ref (q 0)), (2, .ref (u 0)), (3, .int x3)] → va_P D vwCl (tW cB q τ' ++ mW cB cI cJ u σ') H → va_D (fun q : Nat => s.heap.size ≤ q) (tW cB q τ' ++ mW cB cI cJ u σ') → va_S (fun q : Nat => s.heap.size ≤ q) s.heap H locs → W p l e room_1 s m #[Value.ref b] below meth c H locs cells' slots' (lw_Z below #[Value.ref b] s) (F0 m 291 ls [])) (hl : lv_has ls 4 [(0, .ref b), (1, .ref (q 0)), (2, .ref (u 0)), (3, .int x3)]) (hP : va_P D vwCl (tW cB q τ ++ mW cB cI cJ u σ) H) (hD : va_D (fun q : Nat => s.heap.size ≤ q) (tW cB q τ ++ mW cB cI cJ u σ)) (hS : va_S (fun q : Nat => s.heap.size ≤ q) s.heap H locs) : W p l e room_1 s m #[Value.ref b] below meth c H locs cells slots (lw_Z below #[Value.ref b] s) (F0 m 242 ls []) := by
  obtain ⟨hx, hb, hml, hown, hT, hrt, hlk, hK, hA, hG, hE⟩ := id G
  have hbA : ¬ (fun q : Nat => s.heap.size ≤ q) b := Nat.not_le.mpr hbl
  obtain ⟨r, τ', σ', e1, e2, hI'⟩ := hst.2.2.2.2.2.2.1 τ σ (xs (x3 + (1 : Int32)).toNatClampNeg) hI
  refine lv_aload_n hx hb dL_law_242 rfl (lv_at hl 1 rfl) ?_
  refine lv_aload_n hx hb dL_law_243 rfl (lv_at hl 0 rfl) ?_
  refine lv_iload_n hx hb dL_law_244 rfl (lv_at hl 3 rfl) ?_
  refine lv_iconst (v := 1) hx hb dL_law_245 (by decide) ?_
  refine lv_iadd hx hb dL_law_246 ?_
  refine va_sld hx hb hX hbl hbA hS h1 dL_law_247 ?_
  refine ct_v (As := [.int (xs (x3 + (1 : Int32)).toNatClampNeg)]) (rest := []) (wr := mW cB cI cJ u σ) G kL_41 (c_tt_out e1) hP hD hS [0, 1, 2, 3, 4, 5, 6] [7, 8, 9, 10, 11, 12, 13, 14, 15, 16, 17] rfl rfl rfl rfl (by decide) (ci := 3) (q0 := 0) rfl rfl rfl ⟨rfl, rfl, (Nat.le_of_ble_eq_true rfl), (Nat.le_of_ble_eq_true rfl)⟩ rfl hl.1 (Nat.le_of_ble_eq_true rfl) dL_law_248 ⟨by show cells + 0 ≤ 600000; omega, by show slots + 0 ≤ 7302250; omega⟩ (fun H locs hP hD hS => ?_)
  refine W.eq (g2 := F0 m 251 ls [.int r]) rfl ?_
  refine lv_aload_n hx hb dL_law_251 rfl (lv_at hl 2 rfl) ?_
  refine lv_aload_n hx hb dL_law_252 rfl (lv_at hl 0 rfl) ?_
  refine lv_iload_n hx hb dL_law_253 rfl (lv_at hl 3 rfl) ?_
  refine lv_iconst (v := 1) hx hb dL_law_254 (by decide) ?_
  refine lv_iadd hx hb dL_law_255 ?_
  refine va_sld hx hb hX hbl hbA hS h1 dL_law_256 ?_
  refine ct_v (As := [.int (xs (x3 + (1 : Int32)).toNatClampNeg)]) (rest := [.int r]) (wr := tW cB q τ') G kL_44 (c_mm_out e2) hP hD hS [0, 1, 2, 3, 4, 5, 6, 7, 8, 9, 10] [11, 12, 13, 14, 15, 16, 17] rfl rfl rfl rfl (by decide) (ci := 4) (q0 := 0) rfl rfl rfl ⟨rfl, rfl, (Nat.le_of_ble_eq_true rfl), (Nat.le_of_ble_eq_true rfl)⟩ rfl hl.1 (Nat.le_of_ble_eq_true rfl) dL_law_257 ⟨by show cells + 0 + 0 ≤ 600000; omega, by show slots + 0 + 0 ≤ 7302250; omega⟩ (fun H locs hP hD hS => ?_)
  refine W.eq (g2 := F0 m 260 ls [.int r, .int r]) rfl ?_
  refine lv_icmp_eq (tgt := 291) hx hb dL_law_260 (by decide) (fun _ => ?_) (fun z => absurd rfl z)
  exact hk q τ' σ' _ _ _ _ _ (by omega) (by omega) hI' hl hP hD hS
set_option maxHeartbeats 4000000 in
set_option maxRecDepth 100000 in
theorem law_outSize {p : Program} {l : Launch} {e : Env} {s : State} {m : MethodId} {below : List Frame} {meth : Method} {c : Code} {D : va_G} {aK aV : Nat → Nat} {cB cI cJ : ClassId} {b L : Nat} {xs : Nat → Int32} {I : TSt → MSt → Prop} {u : Nat → Nat} {x3 : Int32} {q : Nat → Nat} {τ : TSt} {σ : MSt} {cells slots : Nat} {H : Heap} {locs : List Loc} {ls : Array Slot} (hst : LSteps I) (G : CX p s m #[Value.ref b] meth c D (gTy cB cI cJ) aK aV (fun q : Nat => s.heap.size ≤ q) RL cL_law 4 ret) (hX : va_X b L xs s s.heap) (hbl : b < s.heap.size)  (hc : cells + 2 ≤ 600000 ∧ slots + 16 ≤ 7302250) (hI : I τ σ) (hk : ∀ (q : Nat → Nat) (τ' : TSt) (σ' : MSt) (cells' slots' : Nat) (H : Heap) (locs : List Loc) (ls : Array Slot), cells' ≤ cells + 2 → slots' ≤ slots + 16 → I τ' σ' → lv_has ls 4 [(0, .ref b), (1, .ref (q 0)), (2, .ref (u 0)), (3, .int x3)] → va_P D vwCl (tW cB q τ' ++ mW cB cI cJ u σ') H → va_D (fun q : Nat => s.heap.size ≤ q) (tW cB q τ' ++ mW cB cI cJ u σ') → va_S (fun q : Nat => s.heap.size ≤ q) s.heap H locs → W p l e room_1 s m #[Value.ref b] below meth c H locs cells' slots' (lw_Z below #[Value.ref b] s) (F0 m 291 ls [])) (hl : lv_has ls 4 [(0, .ref b), (1, .ref (q 0)), (2, .ref (u 0)), (3, .int x3)]) (hP : va_P D vwCl (tW cB q τ ++ mW cB cI cJ u σ) H) (hD : va_D (fun q : Nat => s.heap.size ≤ q) (tW cB q τ ++ mW cB cI cJ u σ)) (hS : va_S (fun q : Nat => s.heap.size ≤ q) s.heap H locs) : W p l e room_1 s m #[Value.ref b] below meth c H locs cells slots (lw_Z below #[Value.ref b] s) (F0 m 265 ls []) := by
  obtain ⟨hx, hb, hml, hown, hT, hrt, hlk, hK, hA, hG, hE⟩ := id G
  have hbA : ¬ (fun q : Nat => s.heap.size ≤ q) b := Nat.not_le.mpr hbl
  obtain ⟨r, τ', σ', e1, e2, hI'⟩ := hst.2.2.2.2.2.2.2.1 τ σ  hI
  refine lv_aload_n hx hb dL_law_265 rfl (lv_at hl 1 rfl) ?_
  refine ct_v (As := []) (rest := []) (wr := mW cB cI cJ u σ) G kL_45 (c_tt_outSize e1) hP hD hS [0, 1, 2, 3, 4, 5, 6] [7, 8, 9, 10, 11, 12, 13, 14, 15, 16, 17] rfl rfl rfl rfl (by decide) (ci := 3) (q0 := 0) rfl rfl rfl ⟨rfl, rfl, (Nat.le_of_ble_eq_true rfl), (Nat.le_of_ble_eq_true rfl)⟩ rfl hl.1 (Nat.le_of_ble_eq_true rfl) dL_law_266 ⟨by show cells + 0 ≤ 600000; omega, by show slots + 0 ≤ 7302250; omega⟩ (fun H locs hP hD hS => ?_)
  refine W.eq (g2 := F0 m 269 ls [.int r]) rfl ?_
  refine lv_aload_n hx hb dL_law_269 rfl (lv_at hl 2 rfl) ?_
  refine ct_v (As := []) (rest := [.int r]) (wr := tW cB q τ') G kL_48 (c_mm_outSize e2) hP hD hS [0, 1, 2, 3, 4, 5, 6, 7, 8, 9, 10] [11, 12, 13, 14, 15, 16, 17] rfl rfl rfl rfl (by decide) (ci := 4) (q0 := 0) rfl rfl rfl ⟨rfl, rfl, (Nat.le_of_ble_eq_true rfl), (Nat.le_of_ble_eq_true rfl)⟩ rfl hl.1 (Nat.le_of_ble_eq_true rfl) dL_law_270 ⟨by show cells + 0 + 0 ≤ 600000; omega, by show slots + 0 + 0 ≤ 7302250; omega⟩ (fun H locs hP hD hS => ?_)
  refine W.eq (g2 := F0 m 273 ls [.int r, .int r]) rfl ?_
  refine lv_icmp_eq (tgt := 291) hx hb dL_law_273 (by decide) (fun _ => ?_) (fun z => absurd rfl z)
  exact hk q τ' σ' _ _ _ _ _ (by omega) (by omega) hI' hl hP hD hS
set_option maxHeartbeats 4000000 in
set_option maxRecDepth 100000 in
theorem law_take {p : Program} {l : Launch} {e : Env} {s : State} {m : MethodId} {below : List Frame} {meth : Method} {c : Code} {D : va_G} {aK aV : Nat → Nat} {cB cI cJ : ClassId} {b L : Nat} {xs : Nat → Int32} {I : TSt → MSt → Prop} {u : Nat → Nat} {x3 : Int32} {q : Nat → Nat} {τ : TSt} {σ : MSt} {cells slots : Nat} {H : Heap} {locs : List Loc} {ls : Array Slot} (hst : LSteps I) (G : CX p s m #[Value.ref b] meth c D (gTy cB cI cJ) aK aV (fun q : Nat => s.heap.size ≤ q) RL cL_law 4 ret) (hX : va_X b L xs s s.heap) (hbl : b < s.heap.size)  (hc : cells + 2 ≤ 600000 ∧ slots + 16 ≤ 7302250) (hI : I τ σ) (hk : ∀ (q : Nat → Nat) (τ' : TSt) (σ' : MSt) (cells' slots' : Nat) (H : Heap) (locs : List Loc) (ls : Array Slot), cells' ≤ cells + 2 → slots' ≤ slots + 16 → I τ' σ' → lv_has ls 4 [(0, .ref b), (1, .ref (q 0)), (2, .ref (u 0)), (3, .int x3)] → va_P D vwCl (tW cB q τ' ++ mW cB cI cJ u σ') H → va_D (fun q : Nat => s.heap.size ≤ q) (tW cB q τ' ++ mW cB cI cJ u σ') → va_S (fun q : Nat => s.heap.size ≤ q) s.heap H locs → W p l e room_1 s m #[Value.ref b] below meth c H locs cells' slots' (lw_Z below #[Value.ref b] s) (F0 m 291 ls [])) (hl : lv_has ls 4 [(0, .ref b), (1, .ref (q 0)), (2, .ref (u 0)), (3, .int x3)]) (hP : va_P D vwCl (tW cB q τ ++ mW cB cI cJ u σ) H) (hD : va_D (fun q : Nat => s.heap.size ≤ q) (tW cB q τ ++ mW cB cI cJ u σ)) (hS : va_S (fun q : Nat => s.heap.size ≤ q) s.heap H locs) : W p l e room_1 s m #[Value.ref b] below meth c H locs cells slots (lw_Z below #[Value.ref b] s) (F0 m 278 ls []) := by
  obtain ⟨hx, hb, hml, hown, hT, hrt, hlk, hK, hA, hG, hE⟩ := id G
  have hbA : ¬ (fun q : Nat => s.heap.size ≤ q) b := Nat.not_le.mpr hbl
  obtain ⟨r, τ', σ', e1, e2, hI'⟩ := hst.2.2.2.2.2.2.2.2 τ σ  hI
  refine lv_aload_n hx hb dL_law_278 rfl (lv_at hl 1 rfl) ?_
  refine ct_v (As := []) (rest := []) (wr := mW cB cI cJ u σ) G kL_49 (c_tt_take e1) hP hD hS [0, 1, 2, 3, 4, 5, 6] [7, 8, 9, 10, 11, 12, 13, 14, 15, 16, 17] rfl rfl rfl rfl (by decide) (ci := 3) (q0 := 0) rfl rfl rfl ⟨rfl, rfl, (Nat.le_of_ble_eq_true rfl), (Nat.le_of_ble_eq_true rfl)⟩ rfl hl.1 (Nat.le_of_ble_eq_true rfl) dL_law_279 ⟨by show cells + 0 ≤ 600000; omega, by show slots + 0 ≤ 7302250; omega⟩ (fun H locs hP hD hS => ?_)
  refine W.eq (g2 := F0 m 282 ls [.int r]) rfl ?_
  refine lv_aload_n hx hb dL_law_282 rfl (lv_at hl 2 rfl) ?_
  refine ct_v (As := []) (rest := [.int r]) (wr := tW cB q τ') G kL_52 (c_mm_take e2) hP hD hS [0, 1, 2, 3, 4, 5, 6, 7, 8, 9, 10] [11, 12, 13, 14, 15, 16, 17] rfl rfl rfl rfl (by decide) (ci := 4) (q0 := 0) rfl rfl rfl ⟨rfl, rfl, (Nat.le_of_ble_eq_true rfl), (Nat.le_of_ble_eq_true rfl)⟩ rfl hl.1 (Nat.le_of_ble_eq_true rfl) dL_law_283 ⟨by show cells + 0 + 0 ≤ 600000; omega, by show slots + 0 + 0 ≤ 7302250; omega⟩ (fun H locs hP hD hS => ?_)
  refine W.eq (g2 := F0 m 286 ls [.int r, .int r]) rfl ?_
  refine lv_icmp_eq (tgt := 291) hx hb dL_law_286 (by decide) (fun _ => ?_) (fun z => absurd rfl z)
  exact hk q τ' σ' _ _ _ _ _ (by omega) (by omega) hI' hl hP hD hS
theorem xk {x3 : Int32} {i L k : Nat} {v : Int32} (e : x3 = nI (6 * i)) (hv : v = nI k) (h : 6 * i + k < L) (hL : L ≤ 3072) : vp_in (x3 + v) L := by
  rw [e, hv, nI_add]
  exact vp_in_nI h (by omega)
theorem x0 {x3 : Int32} {i L : Nat} (e : x3 = nI (6 * i)) (h : 6 * i < L) (hL : L ≤ 3072) : vp_in x3 L := by
  rw [e]
  exact vp_in_nI h (by omega)
set_option maxHeartbeats 4000000 in
set_option maxRecDepth 100000 in
theorem law_loop {p : Program} {l : Launch} {e : Env} {s : State} {m : MethodId} {below : List Frame} {meth : Method} {c : Code} {D : va_G} {aK aV : Nat → Nat} {cB cI cJ : ClassId} {b L : Nat} {xs : Nat → Int32} {I : TSt → MSt → Prop} {u : Nat → Nat} (hL : L ≤ 3072) (hst : LSteps I) (G : CX p s m #[Value.ref b] meth c D (gTy cB cI cJ) aK aV (fun q : Nat => s.heap.size ≤ q) RL cL_law 4 ret) (hX : va_X b L xs s s.heap) (hbl : b < s.heap.size) : ∀ (n i : Nat), 6 * i ≤ L → L < 6 * (i + n) → ∀ (q : Nat → Nat) (τ : TSt) (σ : MSt) (cells slots : Nat) (H : Heap) (locs : List Loc) (ls : Array Slot) (x3 : Int32), x3 = nI (6 * i) → cells ≤ 20 + 2 * i → slots ≤ 60000 + 16 * i → I τ σ → lv_has ls 4 [(0, .ref b), (1, .ref (q 0)), (2, .ref (u 0)), (3, .int x3)] → va_P D vwCl (tW cB q τ ++ mW cB cI cJ u σ) H → va_D (fun q : Nat => s.heap.size ≤ q) (tW cB q τ ++ mW cB cI cJ u σ) → va_S (fun q : Nat => s.heap.size ≤ q) s.heap H locs → W p l e room_1 s m #[Value.ref b] below meth c H locs cells slots (lw_Z below #[Value.ref b] s) (F0 m 18 ls []) := by
  obtain ⟨hx, hb, hml, hown, hT, hrt, hlk, hK, hA, hG, hE⟩ := id G
  have hbA : ¬ (fun q : Nat => s.heap.size ≤ q) b := Nat.not_le.mpr hbl
  intro n
  induction n with
  | zero =>
    intro i h1 h2
    exact absurd h2 (by omega)
  | succ n ih =>
    intro i hi hin q τ σ cells slots H locs ls x3 ex hcl hsl hI hl hP hD hS
    refine lv_iload_n hx hb dL_law_18 rfl (lv_at hl 3 rfl) ?_
    refine lv_aload_n hx hb dL_law_19 rfl (lv_at hl 0 rfl) ?_
    refine va_slen hx hb hX hbl hbA hS dL_law_20 ?_
    refine lv_bipush (v := 6) hx hb dL_law_21 (by decide) ?_
    refine lv_isub hx hb dL_law_23 ?_
    refine lv_icmp_gt (tgt := 297) hx hb dL_law_24 (by decide) (fun c1 => ?_) (fun c1 => ?_)
    · refine lv_iconst (v := 1) hx hb dL_law_297 (by decide) ?_
      refine va_forget (fun q hq => hS.2.2 q hq) ?_
      refine W.widen (k := 600000) (n := 7302250) (by omega) (by omega) ?_
      exact lw_ret hx hb hrt hlk dL_law_298
    · have hlt : 6 * i + 5 < L := by
        have e1 : (nI L - nI 6).toInt = (L : Int) - (6 : Nat) := pk_sub_toInt (by omega) (by omega)
        have e2 : (nI (6 * i)).toInt = ((6 * i : Nat) : Int) := nI_toInt (by omega)
        rcases Nat.lt_or_ge (6 * i + 5) L with z | z
        · exact z
        · refine absurd ?_ c1
          rw [ex]
          show nI L - nI 6 < nI (6 * i)
          rw [Int32.lt_iff_toInt_lt, e1, e2]
          omega
      have hk : ∀ (q : Nat → Nat) (τ' : TSt) (σ' : MSt) (cells' slots' : Nat) (H : Heap) (locs : List Loc) (ls : Array Slot), cells' ≤ cells + 2 → slots' ≤ slots + 16 → I τ' σ' → lv_has ls 4 [(0, .ref b), (1, .ref (q 0)), (2, .ref (u 0)), (3, .int x3)] → va_P D vwCl (tW cB q τ' ++ mW cB cI cJ u σ') H → va_D (fun q : Nat => s.heap.size ≤ q) (tW cB q τ' ++ mW cB cI cJ u σ') → va_S (fun q : Nat => s.heap.size ≤ q) s.heap H locs → W p l e room_1 s m #[Value.ref b] below meth c H locs cells' slots' (lw_Z below #[Value.ref b] s) (F0 m 291 ls []) := by
        intro q τ' σ' cells' slots' H locs ls hc1 hs1 hI hl hP hD hS
        obtain ⟨y, ey⟩ : ∃ y : Int32, y = x3 + 6 := ⟨_, rfl⟩
        refine lv_iinc (v := y) (lv' := [(3, .int y), (0, .ref b), (1, .ref (q 0)), (2, .ref (u 0))]) hx hb dL_law_291 hl (k := 3) rfl (by rw [ey]; rfl) (by decide) rfl (fun ls hl => ?_)
        refine lv_goto (tgt := 18) hx hb dL_law_294 (by decide) ?_
        exact ih (i + 1) (by omega) (by omega) q τ' σ' cells' slots' H locs ls y (by rw [ey, ex]; show nI (6 * i) + nI 6 = nI (6 * (i + 1)); rw [nI_add]; rfl) (by omega) (by omega) hI (lv_sub hl [1, 2, 3, 0] rfl) hP hD hS
      have hcc : cells + 2 ≤ 600000 ∧ slots + 16 ≤ 7302250 := ⟨by omega, by omega⟩
      refine lv_aload_n hx hb dL_law_27 rfl (lv_at hl 0 rfl) ?_
      refine lv_iload_n hx hb dL_law_28 rfl (lv_at hl 3 rfl) ?_
      refine va_sld hx hb hX hbl hbA hS (x0 ex (by omega) hL) dL_law_29 ?_
      refine lv_bipush (v := 15) hx hb dL_law_30 (by decide) ?_
      refine lv_iand hx hb dL_law_32 ?_
      refine lv_topi (fun z ez => ?_)
      by_cases c2 : z = (0 : Int32)
      · refine lv_tableIn (off := 51) (tgt := 84) hx hb dL_law_33 (by rw [c2]; decide +kernel) (by rw [c2]; decide +kernel) (by rw [c2]; decide +kernel) (by decide) ?_
        exact law_feed hst G hX hbl (xk (k := 1) ex rfl (by omega) hL) (xk (k := 2) ex rfl (by omega) hL) (xk (k := 3) ex rfl (by omega) hL) (xk (k := 4) ex rfl (by omega) hL) (xk (k := 5) ex rfl (by omega) hL) hcc hI hk hl hP hD hS
      by_cases c3 : z = (1 : Int32)
      · refine lv_tableIn (off := 114) (tgt := 147) hx hb dL_law_33 (by rw [c3]; decide +kernel) (by rw [c3]; decide +kernel) (by rw [c3]; decide +kernel) (by decide) ?_
        exact law_end hst G hX hbl (xk (k := 1) ex rfl (by omega) hL) hcc hI hk hl hP hD hS
      by_cases c4 : z = (2 : Int32)
      · refine lv_tableIn (off := 137) (tgt := 170) hx hb dL_law_33 (by rw [c4]; decide +kernel) (by rw [c4]; decide +kernel) (by rw [c4]; decide +kernel) (by decide) ?_
        exact law_bounds hst G hX hbl (xk (k := 1) ex rfl (by omega) hL) (xk (k := 2) ex rfl (by omega) hL) hcc hI hk hl hP hD hS
      by_cases c5 : z = (3 : Int32)
      · refine lv_tableIn (off := 170) (tgt := 203) hx hb dL_law_33 (by rw [c5]; decide +kernel) (by rw [c5]; decide +kernel) (by rw [c5]; decide +kernel) (by decide) ?_
        exact law_toCbor hst G hX hbl  hcc hI hk hl hP hD hS
      by_cases c6 : z = (4 : Int32)
      · refine lv_tableIn (off := 183) (tgt := 216) hx hb dL_law_33 (by rw [c6]; decide +kernel) (by rw [c6]; decide +kernel) (by rw [c6]; decide +kernel) (by decide) ?_
        exact law_toJson hst G hX hbl  hcc hI hk hl hP hD hS
      by_cases c7 : z = (5 : Int32)
      · refine lv_tableIn (off := 196) (tgt := 229) hx hb dL_law_33 (by rw [c7]; decide +kernel) (by rw [c7]; decide +kernel) (by rw [c7]; decide +kernel) (by decide) ?_
        exact law_errorAt hst G hX hbl  hcc hI hk hl hP hD hS
      by_cases c8 : z = (6 : Int32)
      · refine lv_tableIn (off := 209) (tgt := 242) hx hb dL_law_33 (by rw [c8]; decide +kernel) (by rw [c8]; decide +kernel) (by rw [c8]; decide +kernel) (by decide) ?_
        exact law_out hst G hX hbl (xk (k := 1) ex rfl (by omega) hL) hcc hI hk hl hP hD hS
      by_cases c9 : z = (7 : Int32)
      · refine lv_tableIn (off := 232) (tgt := 265) hx hb dL_law_33 (by rw [c9]; decide +kernel) (by rw [c9]; decide +kernel) (by rw [c9]; decide +kernel) (by decide) ?_
        exact law_outSize hst G hX hbl  hcc hI hk hl hP hD hS
      by_cases c10 : z = (8 : Int32)
      · refine lv_tableIn (off := 245) (tgt := 278) hx hb dL_law_33 (by rw [c10]; decide +kernel) (by rw [c10]; decide +kernel) (by rw [c10]; decide +kernel) (by decide) ?_
        exact law_take hst G hX hbl  hcc hI hk hl hP hD hS
      have n2 := sw_n c2 (by decide +kernel : (0 : Int32).toInt = 0)
      have n3 := sw_n c3 (by decide +kernel : (1 : Int32).toInt = 1)
      have n4 := sw_n c4 (by decide +kernel : (2 : Int32).toInt = 2)
      have n5 := sw_n c5 (by decide +kernel : (3 : Int32).toInt = 3)
      have n6 := sw_n c6 (by decide +kernel : (4 : Int32).toInt = 4)
      have n7 := sw_n c7 (by decide +kernel : (5 : Int32).toInt = 5)
      have n8 := sw_n c8 (by decide +kernel : (6 : Int32).toInt = 6)
      have n9 := sw_n c9 (by decide +kernel : (7 : Int32).toInt = 7)
      have n10 := sw_n c10 (by decide +kernel : (8 : Int32).toInt = 8)
      refine lv_tableOut (tgt := 291) hx hb dL_law_33 (by omega) (by decide) ?_
      exact hk q τ σ cells slots H locs ls (by omega) (by omega) hI hl hP hD hS
