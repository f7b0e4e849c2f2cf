/-! STRINGS: length and charAt of the system's constants, over the JDK's own code -/
def sLn (i : Nat) : Nat := gLn.getD i 0
def sLen (i : Nat) : Int32 := Int32.ofNat (gLn.getD i 0)
def sCh (i : Nat) (k : Int32) : Int32 := (gTx.getD i []).getD k.toNatClampNeg 0 &&& 255
theorem sCh_char (x : Int32) : ((x &&& 255).toUInt32 % 65536).toInt32 = x &&& 255 ∧ narrow .char (.int (x &&& 255)) = .int (x &&& 255) := by
  obtain ⟨j, hj, e⟩ := pk_andE x (m := 255) 8 (by decide)
  rw [e]
  have h1 : j < 65536 := by omega
  refine ⟨?_, (pk_charN h1).1⟩
  rw [pk_char, pk_tn (by omega), Nat.mod_eq_of_lt h1]
theorem sLen_shr : ∀ i, i < 6 → (Int32.ofNat (gLn.getD i 0) >>> ((0 : Int32) &&& 31)) = sLen i := by decide +kernel
theorem sLn_lt : ∀ i, i < 6 → gLn.getD i 0 < 2 ^ 31 := by decide +kernel
section STR
variable {p : Program} {l : Launch} {e : Env} {R : Room} {s : State} {m : MethodId} {args : Array Value} {below : List Frame} {meth : Method} {c : Code} {H : Heap} {locs : List Loc} {cells slots : Nat} {Q : State → Prop}
variable {D : va_G} {tys : List (ClassId × FieldType)} {aK aV : Nat → Nat} {A : Nat → Prop} {own : String} {cc : ByteArray} {nL : Nat} {ret : Option FieldType} {pc : Nat} {ls : Array Slot} {w : va_W} {ov : Option Value} {y : MethodName} {bytes : ByteArray} {maxL n index : Nat} {ret' : Option FieldType} {rm : Room} {As rest : List Value} {b : Nat}
def MS1 (own : String) (index : Nat) (y : MethodName) (bytes : ByteArray) (maxL : Nat) (ret' : Option FieldType) (n : Nat) : Prop := (∀ w ∈ ([.methodLink own index y, .static y, .initialized y.cls, .code y bytes maxL ret'] : List Cond), w ∈ wT) ∧ (y.cls ≠ "java/lang/invoke/MethodHandle" ∧ y.cls ≠ "java/lang/invoke/VarHandle" ∧ (parseMethodDescriptor y.desc).map (fun d => d.parameters.length) = some n)
/-- invokestatic of another class's method without a world -/
theorem ct_s1 (G : CX p s m args meth c D tys aK aV A own cc nL ret) (M : MS1 own index y bytes maxL ret' n) (hM : CT l D tys aK aV y (wM y bytes maxL ret') rm 0 0 As [] ov []) (hP : va_P D vwCl w H) (hD : va_D A w) (hS : va_S A s.heap H locs)
    (hrm : rm.cells = 0 ∧ rm.slots = 0 ∧ rm.frames + 1 ≤ R.frames ∧ 8 + (maxL + 11) + rm.locals ≤ R.locals) (hc : cells ≤ R.cells ∧ slots ≤ R.slots) (hA : As.length = n) (hls : ls.size = nL) (hst : (rest.map fun v => v.category).sum ≤ 8) (hdg : decode cc pc = .ok (.invokestatic index, 3))
    (kk : ∀ (H1 : Heap) (locs1 : List Loc), va_P D vwCl w H1 → va_S A s.heap H1 locs1 → W p l e R s m args below meth c H1 locs1 cells slots Q (F0 m (pc + 3) ls (ov.toList ++ rest))) : W p l e R s m args below meth c H locs cells slots Q (F0 m pc ls (As.reverse ++ rest)) := by
  have hp := ct_pre (wc := []) G hP hD hS [] rfl rfl As
  obtain ⟨hx, hb, hml, hown, hT, hrt, hlk, hK, hAA, hG, hE⟩ := id G
  have cw : CallB R s args own index y bytes maxL ret' (wM y bytes maxL ret') rm 0 0 n ∧ (Cond.static y).before args s = true := by
    obtain ⟨M1, M2⟩ := M
    refine va_cwS (Ts := wT) n hT ?_ rfl hrm.1 hrm.2.1 M2 hrm.2.2
    intro w hw
    have hw1 : w ∈ wT := by
      rcases List.mem_append.mp hw with h | h
      · exact M1 w (by simp only [List.mem_cons, List.not_mem_nil, or_false] at h ⊢; rcases h with h | h | h <;> simp [h])
      · rcases List.mem_cons.mp h with h | h
        · exact M1 w (by simp [h])
        · exact h
    exact ⟨hw1, wT_self w hw1⟩
  exact ct_go0 G hP hS (va_runS (Ts := wT) (g := F0 m pc ls (As.reverse ++ rest)) (rest := rest) ⟨hx, hb, hml, hown, hT⟩ (hM H.size) cw hp rfl hA hls rfl (lv_room hst) hdg hc) kk
/-- invokevirtual on a receiver outside the world, of a method without a world -/
theorem ct_v0 {C : String} (G : CX p s m args meth c D tys aK aV A own cc nL ret) (M : MV own index C y bytes maxL ret' n) (hM : CT l D tys aK aV y (wM y bytes maxL ret') rm 0 0 (.ref b :: As) [] ov []) (hrecv : ∃ cell : Cell, H[b]? = some cell ∧ cell.vm.isStatics = false ∧ s.vm.findClass C = some cell.cls) (hP : va_P D vwCl w H) (hD : va_D A w) (hS : va_S A s.heap H locs)
    (hrm : rm.cells = 0 ∧ rm.slots = 0 ∧ rm.frames + 1 ≤ R.frames ∧ 8 + (maxL + 11) + rm.locals ≤ R.locals) (hc : cells ≤ R.cells ∧ slots ≤ R.slots) (hA : As.length = n) (hls : ls.size = nL) (hst : (rest.map fun v => v.category).sum ≤ 8) (hdg : decode cc pc = .ok (.invokevirtual index, 3))
    (kk : ∀ (H1 : Heap) (locs1 : List Loc), va_P D vwCl w H1 → va_S A s.heap H1 locs1 → W p l e R s m args below meth c H1 locs1 cells slots Q (F0 m (pc + 3) ls (ov.toList ++ rest))) : W p l e R s m args below meth c H locs cells slots Q (F0 m pc ls (As.reverse ++ .ref b :: rest)) := by
  have hp := ct_pre (wc := []) G hP hD hS [] rfl rfl (.ref b :: As)
  obtain ⟨hx, hb, hml, hown, hT, hrt, hlk, hK, hAA, hG, hE⟩ := id G
  have cw : CallW R s args own C index y bytes maxL ret' (wM y bytes maxL ret') rm 0 0 n := by
    obtain ⟨M1, M2⟩ := M
    refine cwV (Ts := wT) n hT ?_ rfl hrm.1 hrm.2.1 M2 hrm.2.2
    intro w hw
    have hw1 : w ∈ wT := by
      rcases List.mem_append.mp hw with h | h
      · exact M1 w (by simp only [List.mem_cons, List.not_mem_nil, or_false] at h ⊢; rcases h with h | h | h | h <;> simp [h])
      · rcases List.mem_cons.mp h with h | h
        · exact M1 w (by simp [h])
        · exact h
    exact ⟨hw1, wT_self w hw1⟩
  exact ct_go0 G hP hS (va_runV (Ts := wT) (g := F0 m pc ls (As.reverse ++ .ref b :: rest)) (rest := rest) ⟨hx, hb, hml, hown, hT⟩ (hM H.size) cw ⟨hp.1, hrecv, hp.2⟩ rfl hA hls rfl (lv_room hst) hdg hc) kk
end STR
theorem kJ0_1059 : MS1 RJ0 1059 yJ3_checkIndex_8e157 cJ3_checkIndex_8e157 3 (some .int) 3 := ⟨List.forall_mem_cons.mpr ⟨wT_of (in2 (i := 48) rfl) rfl, List.forall_mem_cons.mpr ⟨wT_of (in2 (i := 49) rfl) rfl, List.forall_mem_cons.mpr ⟨wT_of (in1 (i := 10) rfl) rfl, List.forall_mem_cons.mpr ⟨wT_of (in2 (i := 50) rfl) rfl, fun _ h => absurd h List.not_mem_nil⟩⟩⟩⟩, by decide +kernel⟩
theorem kJ1_9 : MS1 RJ1 9 yJ0_checkIndex_df160 cJ0_checkIndex_df160 2 none 2 := ⟨List.forall_mem_cons.mpr ⟨wT_of (in2 (i := 43) rfl) rfl, List.forall_mem_cons.mpr ⟨wT_of (in2 (i := 44) rfl) rfl, List.forall_mem_cons.mpr ⟨wT_of (in1 (i := 8) rfl) rfl, List.forall_mem_cons.mpr ⟨wT_of (in2 (i := 45) rfl) rfl, fun _ h => absurd h List.not_mem_nil⟩⟩⟩⟩, by decide +kernel⟩
theorem kJ0_495 : MS1 RJ0 495 yJ1_charAt_3b067 cJ1_charAt_3b067 2 (some .char) 2 := ⟨List.forall_mem_cons.mpr ⟨wT_of (in2 (i := 40) rfl) rfl, List.forall_mem_cons.mpr ⟨wT_of (in2 (i := 41) rfl) rfl, List.forall_mem_cons.mpr ⟨wT_of (in1 (i := 9) rfl) rfl, List.forall_mem_cons.mpr ⟨wT_of (in2 (i := 42) rfl) rfl, fun _ h => absurd h List.not_mem_nil⟩⟩⟩⟩, by decide +kernel⟩
abbrev rmS0 : Room := { frames := 0, cells := 0, slots := 0, locals := 0 }
abbrev rmS1 : Room := { frames := 1, cells := 0, slots := 0, locals := 20 }
abbrev rmS2 : Room := { frames := 1, cells := 0, slots := 0, locals := 22 }
abbrev rmS3 : Room := { frames := 2, cells := 0, slots := 0, locals := 43 }
abbrev rmS4 : Room := { frames := 3, cells := 0, slots := 0, locals := 64 }
set_option maxHeartbeats 4000000 in
theorem c_coder {l : Launch} {D : va_G} {aK aV : Nat → Nat} {tys : List (ClassId × FieldType)} {i : Nat} (hi : i < 6) : CT l D tys aK aV yJ0_coder_7d493 (wM yJ0_coder_7d493 cJ0_coder_7d493 1 (some .byte)) rmS0 0 0 [.ref (aK i)] [] (some (.int 0)) [] := by
  refine CT.of (by decide) rfl ?_
  intro p e s m below meth c A G hnm hP hD hS
  obtain ⟨hx, hb, hml, hown, hT, hrt, hlk, hK, hA, hG, hE⟩ := id G
  have hl := lv_entry [.ref (aK i)] (n := 1) (Nat.le_of_ble_eq_true rfl)
  rw [lg_entry_eq]
  generalize (lg_sl [.ref (aK i)] ++ List.replicate (1 - (lg_sl [.ref (aK i)]).length) Slot.unset).toArray = ls at hl ⊢
  have hl : lv_has ls 1 [(0, .ref (aK i))] := hl
  refine va_gets hx hb hE.2.1 hS hown (hT _ wfl_J0_38) (fun _ h => h) dJ0_coder_7d493_0 ?_
  refine lv_if_eq (tgt := 13) hx hb dJ0_coder_7d493_3 (by decide) (fun h => absurd h (by decide)) (fun _ => ?_)
  refine lv_aload_n hx hb dJ0_coder_7d493_6 rfl (lv_at hl 0 rfl) ?_
  refine vk_getf hx hb (hE.1.1 i hi).2.1 hS hown (hT _ wfl_J0_15) (fun _ h => h) dJ0_coder_7d493_7 ?_
  refine lv_goto (tgt := 14) hx hb dJ0_coder_7d493_10 (by decide) ?_
  exact ct_iret G rfl hP hD hS dJ0_coder_7d493_14
set_option maxHeartbeats 4000000 in
theorem c_isLatin1 {l : Launch} {D : va_G} {aK aV : Nat → Nat} {tys : List (ClassId × FieldType)} {i : Nat} (hi : i < 6) : CT l D tys aK aV yJ0_isLatin1_aae02 (wM yJ0_isLatin1_aae02 cJ0_isLatin1_aae02 1 (some .boolean)) rmS0 0 0 [.ref (aK i)] [] (some (.int 1)) [] := by
  refine CT.of (by decide) rfl ?_
  intro p e s m below meth c A G hnm hP hD hS
  obtain ⟨hx, hb, hml, hown, hT, hrt, hlk, hK, hA, hG, hE⟩ := id G
  have hl := lv_entry [.ref (aK i)] (n := 1) (Nat.le_of_ble_eq_true rfl)
  rw [lg_entry_eq]
  generalize (lg_sl [.ref (aK i)] ++ List.replicate (1 - (lg_sl [.ref (aK i)]).length) Slot.unset).toArray = ls at hl ⊢
  have hl : lv_has ls 1 [(0, .ref (aK i))] := hl
  refine va_gets hx hb hE.2.1 hS hown (hT _ wfl_J0_38) (fun _ h => h) dJ0_isLatin1_aae02_0 ?_
  refine lv_if_eq (tgt := 17) hx hb dJ0_isLatin1_aae02_3 (by decide) (fun h => absurd h (by decide)) (fun _ => ?_)
  refine lv_aload_n hx hb dJ0_isLatin1_aae02_6 rfl (lv_at hl 0 rfl) ?_
  refine vk_getf hx hb (hE.1.1 i hi).2.1 hS hown (hT _ wfl_J0_15) (fun _ h => h) dJ0_isLatin1_aae02_7 ?_
  refine lv_if_ne (tgt := 17) hx hb dJ0_isLatin1_aae02_10 (by decide) (fun h => absurd rfl h) (fun _ => ?_)
  refine lv_iconst (v := 1) hx hb dJ0_isLatin1_aae02_13 (by decide) ?_
  refine lv_goto (tgt := 18) hx hb dJ0_isLatin1_aae02_14 (by decide) ?_
  exact ct_iret G rfl hP hD hS dJ0_isLatin1_aae02_18
set_option maxHeartbeats 4000000 in
theorem c_strLen {l : Launch} {D : va_G} {aK aV : Nat → Nat} {tys : List (ClassId × FieldType)} {i : Nat} (hi : i < 6) : CT l D tys aK aV yJ0_length_8abf5 (wM yJ0_length_8abf5 cJ0_length_8abf5 1 (some .int)) rmS1 0 0 [.ref (aK i)] [] (some (.int (sLen i))) [] := by
  refine CT.of (by decide) rfl ?_
  intro p e s m below meth c A G hnm hP hD hS
  obtain ⟨hx, hb, hml, hown, hT, hrt, hlk, hK, hA, hG, hE⟩ := id G
  have hl := lv_entry [.ref (aK i)] (n := 1) (Nat.le_of_ble_eq_true rfl)
  rw [lg_entry_eq]
  generalize (lg_sl [.ref (aK i)] ++ List.replicate (1 - (lg_sl [.ref (aK i)]).length) Slot.unset).toArray = ls at hl ⊢
  have hl : lv_has ls 1 [(0, .ref (aK i))] := hl
  refine lv_aload_n hx hb dJ0_length_8abf5_0 rfl (lv_at hl 0 rfl) ?_
  refine vk_getf hx hb (hE.1.1 i hi).2.2.1 hS hown (hT _ wfl_J0_9) (fun _ h => h) dJ0_length_8abf5_1 ?_
  refine va_tlen hx hb (hE.1.1 i hi).2.2.2 hS rfl dJ0_length_8abf5_4 ?_
  refine lv_aload_n hx hb dJ0_length_8abf5_5 rfl (lv_at hl 0 rfl) ?_
  refine ct_v0 (As := []) (rest := [.int (Int32.ofNat (gLn.getD i 0))]) G kJ0_335 (c_coder hi) (vk_recv hE.1 hi hS) hP hD hS ⟨rfl, rfl, Nat.le_of_ble_eq_true rfl, Nat.le_of_ble_eq_true rfl⟩ ⟨Nat.zero_le _, Nat.zero_le _⟩ rfl hl.1 (Nat.le_of_ble_eq_true rfl) dJ0_length_8abf5_6 (fun H locs hP hS => ?_)
  refine W.eq (g2 := F0 m 9 ls [.int 0, .int (Int32.ofNat (gLn.getD i 0))]) rfl ?_
  refine lv_ishr hx hb dJ0_length_8abf5_9 ?_
  rw [sLen_shr i hi]
  exact ct_iret G rfl hP hD hS dJ0_length_8abf5_10
set_option maxHeartbeats 4000000 in
theorem c_pre {l : Launch} {D : va_G} {aK aV : Nat → Nat} {tys : List (ClassId × FieldType)} {k n : Int32} {v : Value} (hv : v.category = 1) (h0 : ¬ k < 0) (h1 : k < n) : CT l D tys aK aV yJ3_checkIndex_8e157 (wM yJ3_checkIndex_8e157 cJ3_checkIndex_8e157 3 (some .int)) rmS0 0 0 [.int k, .int n, v] [] (some (.int k)) [] := by
  refine CT.of (by decide) rfl ?_
  intro p e s m below meth c A G hnm hP hD hS
  obtain ⟨hx, hb, hml, hown, hT, hrt, hlk, hK, hA, hG, hE⟩ := id G
  have hsl : (lg_sl [.int k, .int n, v]).length ≤ 3 := by
    cases v <;> first | exact Nat.le_of_ble_eq_true rfl | (simp [Value.category] at hv)
  have hl0 := lv_entry [.int k, .int n, v] (n := 3) hsl
  rw [lg_entry_eq]
  generalize (lg_sl [.int k, .int n, v] ++ List.replicate (3 - (lg_sl [.int k, .int n, v]).length) Slot.unset).toArray = ls at hl0 ⊢
  have hl : lv_has ls 3 [(0, .int k), (1, .int n)] := ⟨hl0.1, hl0.2.1, fun q hq => hl0.2.2 q (by
    simp only [List.mem_cons, List.not_mem_nil, or_false] at hq
    rcases hq with rfl | rfl <;> simp [lv_args, Value.category])⟩
  refine lv_iload_n hx hb dJ3_checkIndex_8e157_0 rfl (lv_at hl 0 rfl) ?_
  refine lv_if_lt (tgt := 9) hx hb dJ3_checkIndex_8e157_1 (by decide) (fun h => absurd h h0) (fun _ => ?_)
  refine lv_iload_n hx hb dJ3_checkIndex_8e157_4 rfl (lv_at hl 0 rfl) ?_
  refine lv_iload_n hx hb dJ3_checkIndex_8e157_5 rfl (lv_at hl 1 rfl) ?_
  refine lv_icmp_lt (tgt := 16) hx hb dJ3_checkIndex_8e157_6 (by decide) (fun _ => ?_) (fun h => absurd h1 h)
  refine lv_iload_n hx hb dJ3_checkIndex_8e157_16 rfl (lv_at hl 0 rfl) ?_
  exact ct_iret G rfl hP hD hS dJ3_checkIndex_8e157_17
set_option maxHeartbeats 4000000 in
theorem c_strChk {l : Launch} {D : va_G} {aK aV : Nat → Nat} {tys : List (ClassId × FieldType)} {k n : Int32} (h0 : ¬ k < 0) (h1 : k < n) : CT l D tys aK aV yJ0_checkIndex_df160 (wM yJ0_checkIndex_df160 cJ0_checkIndex_df160 2 none) rmS2 0 0 [.int k, .int n] [] none [] := by
  refine CT.of (by decide) rfl ?_
  intro p e s m below meth c A G hnm hP hD hS
  obtain ⟨hx, hb, hml, hown, hT, hrt, hlk, hK, hA, hG, hE⟩ := id G
  have hl := lv_entry [.int k, .int n] (n := 2) (Nat.le_of_ble_eq_true rfl)
  rw [lg_entry_eq]
  generalize (lg_sl [.int k, .int n] ++ List.replicate (2 - (lg_sl [.int k, .int n]).length) Slot.unset).toArray = ls at hl ⊢
  have hl : lv_has ls 2 [(0, .int k), (1, .int n)] := hl
  refine lv_iload_n hx hb dJ0_checkIndex_df160_0 rfl (lv_at hl 0 rfl) ?_
  refine lv_iload_n hx hb dJ0_checkIndex_df160_1 rfl (lv_at hl 1 rfl) ?_
  have go : ∀ v : Value, v.category = 1 → va_Z "jdk/internal/util/Preconditions" "SIOOBE_FORMATTER" "Ljava/util/function/BiFunction;" v A s s.heap → W p l e rmS2 s m [Value.int k, Value.int n].toArray below meth c s.heap [] 0 0 (MQ below (cQ D tys A [] none) [Value.int k, Value.int n].toArray s 0 0 A) (F0 m (0 + 1 + 1) ls [.int n, .int k]) := by
    intro v hv hz
    refine va_gets hx hb hz hS hown (hT _ wfl_J0_1053) (fun _ h => h) dJ0_checkIndex_df160_2 ?_
    refine ct_s1 (As := [.int k, .int n, v]) (rest := []) G kJ0_1059 (c_pre hv h0 h1) hP hD hS ⟨rfl, rfl, Nat.le_of_ble_eq_true rfl, Nat.le_of_ble_eq_true rfl⟩ ⟨Nat.zero_le _, Nat.zero_le _⟩ rfl hl.1 (Nat.le_of_ble_eq_true rfl) dJ0_checkIndex_df160_5 (fun H locs hP hS => ?_)
    refine W.eq (g2 := F0 m 8 ls [.int k]) rfl ?_
    refine lv_pop hx hb dJ0_checkIndex_df160_8 rfl ?_
    exact ct_vret G hP hD hS dJ0_checkIndex_df160_9
  rcases hE.2.2 with hz | ⟨t, hz⟩
  · exact go .null rfl hz
  · exact go (.ref t) rfl hz
set_option maxHeartbeats 4000000 in
theorem c_l1Cha {l : Launch} {D : va_G} {aK aV : Nat → Nat} {tys : List (ClassId × FieldType)} {i : Nat} (hi : i < 6) {k : Int32} (hk : vp_in k (sLn i)) : CT l D tys aK aV yJ1_charAt_3b067 (wM yJ1_charAt_3b067 cJ1_charAt_3b067 2 (some .char)) rmS3 0 0 [.ref (aV i), .int k] [] (some (.int (sCh i k))) [] := by
  refine CT.of (by decide) rfl ?_
  intro p e s m below meth c A G hnm hP hD hS
  obtain ⟨hx, hb, hml, hown, hT, hrt, hlk, hK, hA, hG, hE⟩ := id G
  have hl := lv_entry [.ref (aV i), .int k] (n := 2) (Nat.le_of_ble_eq_true rfl)
  rw [lg_entry_eq]
  generalize (lg_sl [.ref (aV i), .int k] ++ List.replicate (2 - (lg_sl [.ref (aV i), .int k]).length) Slot.unset).toArray = ls at hl ⊢
  have hl : lv_has ls 2 [(0, .ref (aV i)), (1, .int k)] := hl
  obtain ⟨j, hj, ek⟩ := vp_in_of hk (sLn_lt i hi)
  have h0 : ¬ k < 0 := by rw [ek]; exact nI_pos (Nat.lt_trans hj (sLn_lt i hi))
  have h1 : k < Int32.ofNat (gLn.getD i 0) := by rw [ek]; exact nI_lt hj (sLn_lt i hi)
  refine lv_iload_n hx hb dJ1_charAt_3b067_0 rfl (lv_at hl 1 rfl) ?_
  refine lv_aload_n hx hb dJ1_charAt_3b067_1 rfl (lv_at hl 0 rfl) ?_
  refine va_tlen hx hb (hE.1.1 i hi).2.2.2 hS rfl dJ1_charAt_3b067_2 ?_
  refine ct_s1 (As := [.int k, .int (Int32.ofNat (gLn.getD i 0))]) (rest := []) G kJ1_9 (c_strChk h0 h1) hP hD hS ⟨rfl, rfl, Nat.le_of_ble_eq_true rfl, Nat.le_of_ble_eq_true rfl⟩ ⟨Nat.zero_le _, Nat.zero_le _⟩ rfl hl.1 (Nat.le_of_ble_eq_true rfl) dJ1_charAt_3b067_3 (fun H locs hP hS => ?_)
  refine W.eq (g2 := F0 m 6 ls []) rfl ?_
  refine lv_aload_n hx hb dJ1_charAt_3b067_6 rfl (lv_at hl 0 rfl) ?_
  refine lv_iload_n hx hb dJ1_charAt_3b067_7 rfl (lv_at hl 1 rfl) ?_
  refine va_tb hx hb (hE.1.1 i hi).2.2.2 hS hk rfl dJ1_charAt_3b067_8 ?_
  refine lv_sipush (v := 255) hx hb dJ1_charAt_3b067_9 (by decide) ?_
  refine lv_iand hx hb dJ1_charAt_3b067_12 ?_
  refine lv_i2c (v := sCh i k) hx hb dJ1_charAt_3b067_13 (sCh_char _).1 ?_
  exact ct_iret G (sCh_char _).2 hP hD hS dJ1_charAt_3b067_14
set_option maxHeartbeats 4000000 in
theorem c_strCha {l : Launch} {D : va_G} {aK aV : Nat → Nat} {tys : List (ClassId × FieldType)} {i : Nat} (hi : i < 6) {k : Int32} (hk : vp_in k (sLn i)) : CT l D tys aK aV yJ0_charAt_5068e (wM yJ0_charAt_5068e cJ0_charAt_5068e 2 (some .char)) rmS4 0 0 [.ref (aK i), .int k] [] (some (.int (sCh i k))) [] := by
  refine CT.of (by decide) rfl ?_
  intro p e s m below meth c A G hnm hP hD hS
  obtain ⟨hx, hb, hml, hown, hT, hrt, hlk, hK, hA, hG, hE⟩ := id G
  have hl := lv_entry [.ref (aK i), .int k] (n := 2) (Nat.le_of_ble_eq_true rfl)
  rw [lg_entry_eq]
  generalize (lg_sl [.ref (aK i), .int k] ++ List.replicate (2 - (lg_sl [.ref (aK i), .int k]).length) Slot.unset).toArray = ls at hl ⊢
  have hl : lv_has ls 2 [(0, .ref (aK i)), (1, .int k)] := hl
  refine lv_aload_n hx hb dJ0_charAt_5068e_0 rfl (lv_at hl 0 rfl) ?_
  refine ct_v0 (As := []) (rest := []) G kJ0_492 (c_isLatin1 hi) (vk_recv hE.1 hi hS) hP hD hS ⟨rfl, rfl, Nat.le_of_ble_eq_true rfl, Nat.le_of_ble_eq_true rfl⟩ ⟨Nat.zero_le _, Nat.zero_le _⟩ rfl hl.1 (Nat.le_of_ble_eq_true rfl) dJ0_charAt_5068e_1 (fun H locs hP hS => ?_)
  refine W.eq (g2 := F0 m 4 ls [.int 1]) rfl ?_
  refine lv_if_eq (tgt := 16) hx hb dJ0_charAt_5068e_4 (by decide) (fun h => absurd h (by decide)) (fun _ => ?_)
  refine lv_aload_n hx hb dJ0_charAt_5068e_7 rfl (lv_at hl 0 rfl) ?_
  refine vk_getf hx hb (hE.1.1 i hi).2.2.1 hS hown (hT _ wfl_J0_9) (fun _ h => h) dJ0_charAt_5068e_8 ?_
  refine lv_iload_n hx hb dJ0_charAt_5068e_11 rfl (lv_at hl 1 rfl) ?_
  refine ct_s1 (As := [.ref (aV i), .int k]) (rest := []) G kJ0_495 (c_l1Cha hi hk) hP hD hS ⟨rfl, rfl, Nat.le_of_ble_eq_true rfl, Nat.le_of_ble_eq_true rfl⟩ ⟨Nat.zero_le _, Nat.zero_le _⟩ rfl hl.1 (Nat.le_of_ble_eq_true rfl) dJ0_charAt_5068e_12 (fun H locs hP hS => ?_)
  refine W.eq (g2 := F0 m 15 ls [.int (sCh i k)]) rfl ?_
  exact ct_iret G (sCh_char _).2 hP hD hS dJ0_charAt_5068e_15
section STR2
variable {p : Program} {l : Launch} {e : Env} {R : Room} {s : State} {m : MethodId} {args : Array Value} {below : List Frame} {meth : Method} {c : Code} {H : Heap} {locs : List Loc} {cells slots : Nat} {Q : State → Prop}
variable {D : va_G} {tys : List (ClassId × FieldType)} {aK aV : Nat → Nat} {A : Nat → Prop} {own : String} {cc : ByteArray} {nL : Nat} {ret : Option FieldType} {pc : Nat} {ls : Array Slot} {w : va_W} {index : Nat} {rest : List Value}
theorem ct_len {i : Nat} (G : CX p s m args meth c D tys aK aV A own cc nL ret) (M : MV own index RJ0 yJ0_length_8abf5 cJ0_length_8abf5 1 (some .int) 0) (hi : i < 6) (hP : va_P D vwCl w H) (hD : va_D A w) (hS : va_S A s.heap H locs) (hrm : 2 ≤ R.frames ∧ 40 ≤ R.locals) (hc : cells ≤ R.cells ∧ slots ≤ R.slots) (hls : ls.size = nL) (hst : (rest.map fun v => v.category).sum ≤ 8) (hdg : decode cc pc = .ok (.invokevirtual index, 3))
    (kk : ∀ (H1 : Heap) (locs1 : List Loc), va_P D vwCl w H1 → va_S A s.heap H1 locs1 → W p l e R s m args below meth c H1 locs1 cells slots Q (F0 m (pc + 3) ls (.int (sLen i) :: rest))) : W p l e R s m args below meth c H locs cells slots Q (F0 m pc ls (.ref (aK i) :: rest)) :=
  ct_v0 (As := []) G M (c_strLen hi) (vk_recv G.2.2.2.2.2.2.2.2.2.2.1 hi hS) hP hD hS ⟨rfl, rfl, hrm.1, hrm.2⟩ hc rfl hls hst hdg kk
theorem ct_cha {i : Nat} {k : Int32} (G : CX p s m args meth c D tys aK aV A own cc nL ret) (M : MV own index RJ0 yJ0_charAt_5068e cJ0_charAt_5068e 2 (some .char) 1) (hi : i < 6) (hk : vp_in k (sLn i)) (hP : va_P D vwCl w H) (hD : va_D A w) (hS : va_S A s.heap H locs) (hrm : 4 ≤ R.frames ∧ 85 ≤ R.locals) (hc : cells ≤ R.cells ∧ slots ≤ R.slots) (hls : ls.size = nL) (hst : (rest.map fun v => v.category).sum ≤ 8) (hdg : decode cc pc = .ok (.invokevirtual index, 3))
    (kk : ∀ (H1 : Heap) (locs1 : List Loc), va_P D vwCl w H1 → va_S A s.heap H1 locs1 → W p l e R s m args below meth c H1 locs1 cells slots Q (F0 m (pc + 3) ls (.int (sCh i k) :: rest))) : W p l e R s m args below meth c H locs cells slots Q (F0 m pc ls (.int k :: .ref (aK i) :: rest)) :=
  ct_v0 (As := [.int k]) G M (c_strCha hi hk) (vk_recv G.2.2.2.2.2.2.2.2.2.2.1 hi hS) hP hD hS ⟨rfl, rfl, hrm.1, hrm.2⟩ hc rfl hls hst hdg kk
end STR2
