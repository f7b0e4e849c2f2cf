/-! JSONREADER: values (printed by program wip/gen) -/
theorem sw_X1_readValue {x : Int32} (h34 : ¬ x = (34 : Int32)) (h91 : ¬ x = (91 : Int32)) (h102 : ¬ x = (102 : Int32)) (h110 : ¬ x = (110 : Int32)) (h116 : ¬ x = (116 : Int32)) (h123 : ¬ x = (123 : Int32)) : Op.lookupswitch.offset [(34, 59), (91, 64), (102, 82), (110, 100), (116, 91), (123, 73)] 109 x.toInt = 109 := by
  rw [Op.lookupswitch.offset_cons, if_neg (fun z => sw_n h34 (by decide : (34 : Int32).toInt = 34) z.symm), Op.lookupswitch.offset_cons, if_neg (fun z => sw_n h91 (by decide : (91 : Int32).toInt = 91) z.symm), Op.lookupswitch.offset_cons, if_neg (fun z => sw_n h102 (by decide : (102 : Int32).toInt = 102) z.symm), Op.lookupswitch.offset_cons, if_neg (fun z => sw_n h110 (by decide : (110 : Int32).toInt = 110) z.symm), Op.lookupswitch.offset_cons, if_neg (fun z => sw_n h116 (by decide : (116 : Int32).toInt = 116) z.symm), Op.lookupswitch.offset_cons, if_neg (fun z => sw_n h123 (by decide : (123 : Int32).toInt = 123) z.symm)]
  rfl
def jj_readParts_b92 (N : Nat) (rv : Int32 → JSt → Option (Bool × JSt)) (k68 : Int32 → Int32 → Int32 → Int32 → Int32 → JSt → Option (Bool × JSt)) (a1 : Int32) (a2 : Int32) (a3 : Int32) (a4 : Int32) (a5 : Int32) (σ : JSt) : Option (Bool × JSt) := bd (rv (a3 + (1 : Int32)) σ) (fun (x14 : Bool × JSt) => (if x14.1 = true then bd (jj_skipBlanks N  x14.2) (fun (x16 : JSt) => bd (rr_at 4000 (jf_place x16) (jf_tape x16)) (fun (x17 : Int32 × RSt) => (if x17.1 = a2 then bd (jj_closeParts N a4 a1 a5 (js_tape x16 x17.2)) (fun (x22 : Bool × JSt) => some (x22.1, x22.2)) else (if x17.1 = (44 : Int32) then lt (a5 + (1 : Int32)) (fun (v20 : Int32) => k68 a1 a2 a3 a4 v20 (js_place (js_tape x16 x17.2) ((jf_place x16) + (1 : Int32)))) else bd (jj_refuse N (1 : Int32) (jf_place x16) (js_tape x16 x17.2)) (fun (x21 : Bool × JSt) => some (x21.1, x21.2)))))) else some (false, x14.2)))
def jj_readParts_b68 (N : Nat) (rv : Int32 → JSt → Option (Bool × JSt)) (k68 : Int32 → Int32 → Int32 → Int32 → Int32 → JSt → Option (Bool × JSt)) (a1 : Int32) (a2 : Int32) (a3 : Int32) (a4 : Int32) (a5 : Int32) (σ : JSt) : Option (Bool × JSt) := bd (rr_size 4000  (jf_tape σ)) (fun (x8 : Int32 × RSt) => (if x8.1 < a5 then bd (jj_refuse N (1 : Int32) (jf_place σ) (js_tape σ x8.2)) (fun (x10 : Bool × JSt) => some (x10.1, x10.2)) else (if a1 = (5 : Int32) then bd (jj_readKey N  (js_tape σ x8.2)) (fun (x12 : Bool × JSt) => (if x12.1 = true then jj_readParts_b92 N rv k68 a1 a2 a3 a4 a5 x12.2 else some (false, x12.2))) else jj_readParts_b92 N rv k68 a1 a2 a3 a4 a5 (js_tape σ x8.2))))
def jj_readParts_L68 (N : Nat) (rv : Int32 → JSt → Option (Bool × JSt)) : Nat → Int32 → Int32 → Int32 → Int32 → Int32 → JSt → Option (Bool × JSt)
  | 0, _, _, _, _, _, _ => none
  | n + 1, a1, a2, a3, a4, a5, σ => jj_readParts_b68 N rv (jj_readParts_L68 N rv n) a1 a2 a3 a4 a5 σ
def jj_readParts (N : Nat) (rv : Int32 → JSt → Option (Bool × JSt)) (p0 : Int32) (p1 : Int32) (p2 : Int32) (σ : JSt) : Option (Bool × JSt) := (if p2 < (jf_depthLimit σ) then bd (rr_openHead N  (jf_target σ)) (fun (x2 : Int32 × RSt) => bd (jj_skipBlanks N  (js_place (js_target σ x2.2) ((jf_place σ) + (1 : Int32)))) (fun (x3 : JSt) => bd (rr_at 4000 (jf_place x3) (jf_tape x3)) (fun (x4 : Int32 × RSt) => (if x4.1 = p1 then bd (jj_closeParts N x2.1 p0 (0 : Int32) (js_tape x3 x4.2)) (fun (x6 : Bool × JSt) => some (x6.1, x6.2)) else jj_readParts_L68 N rv FU p0 p1 p2 x2.1 (1 : Int32) (js_tape x3 x4.2))))) else bd (jj_refuse N (4 : Int32) (jf_place σ) σ) (fun (x7 : Bool × JSt) => some (x7.1, x7.2)))
abbrev rm_jj_readParts (rmv : Room) : Room := { frames := rmv.frames + 16, cells := 0, slots := 0, locals := rmv.locals + 400 }
set_option maxHeartbeats 4000000 in
set_option maxRecDepth 100000 in
theorem jj_readParts_t92 {p : Program} {l : Launch} {e : Env} {s : State} {m : MethodId} {args : Array Value} {below : List Frame} {meth : Method} {c : Code} {D : va_G} {aK aV : Nat → Nat} {A : Nat → Prop} {cB cI cJ : ClassId} {q : Nat → Nat} {N : Nat} {H : Heap} {locs : List Loc} {ls : Array Slot} {ρ : Bool × JSt} {rv : Int32 → JSt → Option (Bool × JSt)} {rmv : Room} (hrv : (∀ {a : Int32} {σ : JSt} {x : Bool × JSt}, rv a σ = some x → CT l D (gTy cB cI cJ) aK aV yX1_readValue (wM yX1_readValue cX1_readValue 3 (some .boolean)) rmv 0 0 [.ref (q 0), .int a] (jW cB N q σ) (some (.int (bI x.1))) (jW cB N q x.2)) ∧ rmv.cells = 0 ∧ rmv.slots = 0) {k68 : Int32 → Int32 → Int32 → Int32 → Int32 → JSt → Option (Bool × JSt)} {a1 : Int32} {a2 : Int32} {a3 : Int32} {a4 : Int32} {a5 : Int32} {σ : JSt} (G : CX p s m args meth c D (gTy cB cI cJ) aK aV A RX1 cX1_readParts 7 (some .boolean)) (hk68 : ∀ (a1 : Int32) (a2 : Int32) (a3 : Int32) (a4 : Int32) (a5 : Int32) (σ : JSt) (H : Heap) (locs : List Loc) (ls : Array Slot), lv_has ls 7 [(0, .ref (q 0)), (1, .int a1), (2, .int a2), (3, .int a3), (4, .int a4), (5, .int a5)] → va_P D vwCl (jW cB N q σ) H → va_D A (jW cB N q σ) → va_S A s.heap H locs → k68 a1 a2 a3 a4 a5 σ = some ρ → W p l e (rm_jj_readParts rmv) s m args below meth c H locs 0 0 (MQ below (cQ D (gTy cB cI cJ) A (jW cB N q ρ.2) (some (.int (bI ρ.1)))) args s 0 0 A) (F0 m 68 ls [])) (hl : lv_has ls 7 [(0, .ref (q 0)), (1, .int a1), (2, .int a2), (3, .int a3), (4, .int a4), (5, .int a5)]) (hP : va_P D vwCl (jW cB N q σ) H) (hD : va_D A (jW cB N q σ)) (hS : va_S A s.heap H locs) (hf : jj_readParts_b92 N rv k68 a1 a2 a3 a4 a5 σ = some ρ) : W p l e (rm_jj_readParts rmv) s m args below meth c H locs 0 0 (MQ below (cQ D (gTy cB cI cJ) A (jW cB N q ρ.2) (some (.int (bI ρ.1)))) args s 0 0 A) (F0 m 92 ls []) := by
  unfold jj_readParts_b92 at hf
  obtain ⟨hx, hb, hml, hown, hT, hrt, hlk, hK, hA, hG, hE⟩ := id G
  refine lv_aload_n hx hb dX1_readParts_92 rfl (lv_at hl 0 rfl) ?_
  refine lv_iload_n hx hb dX1_readParts_93 rfl (lv_at hl 3 rfl) ?_
  refine lv_iconst (v := (1 : Int32)) hx hb dX1_readParts_94 (by decide) ?_
  refine lv_iadd hx hb dX1_readParts_95 ?_
  obtain ⟨x14, hx14, hf⟩ := bd_some hf
  refine vJ (As := [.int (a3 + (1 : Int32))]) (rest := []) G kX1_93 (hrv.1 hx14) hP hD hS ⟨hrv.2.1, hrv.2.2, (by show rmv.frames + 1 ≤ rmv.frames + 16; omega), (by show 8 + (3 + 11) + rmv.locals ≤ rmv.locals + 400; omega)⟩ ⟨Nat.zero_le _, Nat.zero_le _⟩ rfl hl.1 (Nat.le_of_ble_eq_true rfl) dX1_readParts_96 (fun H locs hP hD hS => ?_)
  refine W.eq (g2 := F0 m 99 ls [.int (bI x14.1)]) rfl ?_
  refine lv_if_ne (tgt := 104) hx hb dX1_readParts_99 (by decide) (fun c15 => ?_) (fun c15 => ?_)
  · have hf := (if_pos (bI_n c15)).symm.trans hf
    refine lv_aload_n hx hb dX1_readParts_104 rfl (lv_at hl 0 rfl) ?_
    obtain ⟨x16, hx16, hf⟩ := bd_some hf
    refine vJ (As := []) (rest := []) G kX1_9 (c_jj_skipBlanks hx16) hP hD hS ⟨rfl, rfl, Nat.le_trans (m := 16) (Nat.le_of_ble_eq_true rfl) (Nat.le_add_left 16 _), Nat.le_trans (m := 400) (Nat.le_of_ble_eq_true rfl) (Nat.le_add_left 400 _)⟩ ⟨Nat.zero_le _, Nat.zero_le _⟩ rfl hl.1 (Nat.le_of_ble_eq_true rfl) dX1_readParts_105 (fun H locs hP hD hS => ?_)
    refine W.eq (g2 := F0 m 108 ls []) rfl ?_
    refine lv_aload_n hx hb dX1_readParts_108 rfl (lv_at hl 0 rfl) ?_
    refine gj_X1_tape G hP dX1_readParts_109 ?_
    refine lv_aload_n hx hb dX1_readParts_112 rfl (lv_at hl 0 rfl) ?_
    refine gj_X1_place (v := (jf_place x16)) G hP dX1_readParts_113 rfl ?_
    obtain ⟨x17, hx17, hf⟩ := bd_some hf
    refine vJ_tape (As := [.int (jf_place x16)]) (rest := []) (τ := x17.2) G kX1_33 rfl (c_rr_at hx17) hP hD hS ⟨rfl, rfl, Nat.le_trans (m := 16) (Nat.le_of_ble_eq_true rfl) (Nat.le_add_left 16 _), Nat.le_trans (m := 400) (Nat.le_of_ble_eq_true rfl) (Nat.le_add_left 400 _)⟩ ⟨Nat.zero_le _, Nat.zero_le _⟩ rfl hl.1 (Nat.le_of_ble_eq_true rfl) dX1_readParts_116 (fun H locs hP hD hS => ?_)
    refine W.eq (g2 := F0 m 119 ls [.int x17.1]) rfl ?_
    refine lv_istore (lv' := [(6, .int x17.1), (0, .ref (q 0)), (1, .int a1), (2, .int a2), (3, .int a3), (4, .int a4), (5, .int a5)]) hx hb dX1_readParts_119 hl (by decide) rfl (fun ls hl => ?_)
    refine lv_iload hx hb dX1_readParts_121 (lv_at hl 0 rfl) ?_
    refine lv_iload_n hx hb dX1_readParts_123 rfl (lv_at hl 3 rfl) ?_
    refine lv_icmp_ne (tgt := 137) hx hb dX1_readParts_124 (by decide) (fun c18 => ?_) (fun c18 => ?_)
    · have hf := (if_neg c18).symm.trans hf
      refine lv_iload hx hb dX1_readParts_137 (lv_at hl 0 rfl) ?_
      refine lv_bipush (v := (44 : Int32)) hx hb dX1_readParts_139 (by decide) ?_
      refine lv_icmp_eq (tgt := 154) hx hb dX1_readParts_141 (by decide) (fun c19 => ?_) (fun c19 => ?_)
      · have hf := (if_pos c19).symm.trans hf
        refine lv_aload_n hx hb dX1_readParts_154 rfl (lv_at hl 1 rfl) ?_
        refine lv_dup hx hb dX1_readParts_155 rfl ?_
        refine gj_X1_place (v := (jf_place x16)) G hP dX1_readParts_156 (jG_place_tape _ _) ?_
        refine lv_iconst (v := (1 : Int32)) hx hb dX1_readParts_159 (by decide) ?_
        refine lv_iadd hx hb dX1_readParts_160 ?_
        refine pj_X1_place (v := ((jf_place x16) + (1 : Int32))) G hP hD hS dX1_readParts_161 (fun H locs hP hD hS => ?_)
        obtain ⟨v20, ev20⟩ : ∃ y : Int32, y = (a5 + (1 : Int32)) := ⟨_, rfl⟩
        have hf := lt_eq hf ev20
        refine lv_iinc (v := v20) (lv' := [(5, .int v20), (6, .int x17.1), (0, .ref (q 0)), (1, .int a1), (2, .int a2), (3, .int a3), (4, .int a4)]) hx hb dX1_readParts_164 hl (k := 6) rfl (by rw [ev20]; rfl) (by decide) rfl (fun ls hl => ?_)
        refine lv_goto (tgt := 68) hx hb dX1_readParts_167 (by decide) ?_
        exact W.eq (g2 := F0 m 68 ls []) rfl (hk68 _ _ _ _ _ _ _ _ _ (lv_sub hl [2, 3, 4, 5, 6, 0] rfl) hP hD hS hf)
      · have hf := (if_neg c19).symm.trans hf
        refine lv_aload_n hx hb dX1_readParts_144 rfl (lv_at hl 1 rfl) ?_
        refine lv_iconst (v := (1 : Int32)) hx hb dX1_readParts_145 (by decide) ?_
        refine lv_aload_n hx hb dX1_readParts_146 rfl (lv_at hl 1 rfl) ?_
        refine gj_X1_place (v := (jf_place x16)) G hP dX1_readParts_147 (jG_place_tape _ _) ?_
        obtain ⟨x21, hx21, hf⟩ := bd_some hf
        refine uJ (As := [.int (1 : Int32), .int (jf_place x16)]) (rest := []) G kX1_29 (c_jj_refuse hx21) hP hD hS ⟨rfl, rfl, Nat.le_trans (m := 16) (Nat.le_of_ble_eq_true rfl) (Nat.le_add_left 16 _), Nat.le_trans (m := 400) (Nat.le_of_ble_eq_true rfl) (Nat.le_add_left 400 _)⟩ ⟨Nat.zero_le _, Nat.zero_le _⟩ rfl hl.1 (Nat.le_of_ble_eq_true rfl) dX1_readParts_150 (fun H locs hP hD hS => ?_)
        refine W.eq (g2 := F0 m 153 ls [.int (bI x21.1)]) rfl ?_
        cases hf
        exact ct_iret G (bI_nar x21.1) hP hD hS dX1_readParts_153
    · have hf := (if_pos c18).symm.trans hf
      refine lv_aload_n hx hb dX1_readParts_127 rfl (lv_at hl 1 rfl) ?_
      refine lv_iload hx hb dX1_readParts_128 (lv_at hl 5 rfl) ?_
      refine lv_iload_n hx hb dX1_readParts_130 rfl (lv_at hl 2 rfl) ?_
      refine lv_iload hx hb dX1_readParts_131 (lv_at hl 6 rfl) ?_
      obtain ⟨x22, hx22, hf⟩ := bd_some hf
      refine vJ (As := [.int a4, .int a1, .int a5]) (rest := []) G kX1_87 (c_jj_closeParts hx22) hP hD hS ⟨rfl, rfl, Nat.le_trans (m := 16) (Nat.le_of_ble_eq_true rfl) (Nat.le_add_left 16 _), Nat.le_trans (m := 400) (Nat.le_of_ble_eq_true rfl) (Nat.le_add_left 400 _)⟩ ⟨Nat.zero_le _, Nat.zero_le _⟩ rfl hl.1 (Nat.le_of_ble_eq_true rfl) dX1_readParts_133 (fun H locs hP hD hS => ?_)
      refine W.eq (g2 := F0 m 136 ls [.int (bI x22.1)]) rfl ?_
      cases hf
      exact ct_iret G (bI_nar x22.1) hP hD hS dX1_readParts_136
  · have hf := (if_neg (bI_0 c15)).symm.trans hf
    refine lv_iconst (v := (0 : Int32)) hx hb dX1_readParts_102 (by decide) ?_
    cases hf
    exact ct_iret G (bI_nar false) hP hD hS dX1_readParts_103
set_option maxHeartbeats 4000000 in
set_option maxRecDepth 100000 in
theorem jj_readParts_t68 {p : Program} {l : Launch} {e : Env} {s : State} {m : MethodId} {args : Array Value} {below : List Frame} {meth : Method} {c : Code} {D : va_G} {aK aV : Nat → Nat} {A : Nat → Prop} {cB cI cJ : ClassId} {q : Nat → Nat} {N : Nat} {H : Heap} {locs : List Loc} {ls : Array Slot} {ρ : Bool × JSt} {rv : Int32 → JSt → Option (Bool × JSt)} {rmv : Room} (hrv : (∀ {a : Int32} {σ : JSt} {x : Bool × JSt}, rv a σ = some x → CT l D (gTy cB cI cJ) aK aV yX1_readValue (wM yX1_readValue cX1_readValue 3 (some .boolean)) rmv 0 0 [.ref (q 0), .int a] (jW cB N q σ) (some (.int (bI x.1))) (jW cB N q x.2)) ∧ rmv.cells = 0 ∧ rmv.slots = 0) {k68 : Int32 → Int32 → Int32 → Int32 → Int32 → JSt → Option (Bool × JSt)} {a1 : Int32} {a2 : Int32} {a3 : Int32} {a4 : Int32} {a5 : Int32} {σ : JSt} (G : CX p s m args meth c D (gTy cB cI cJ) aK aV A RX1 cX1_readParts 7 (some .boolean)) (hk68 : ∀ (a1 : Int32) (a2 : Int32) (a3 : Int32) (a4 : Int32) (a5 : Int32) (σ : JSt) (H : Heap) (locs : List Loc) (ls : Array Slot), lv_has ls 7 [(0, .ref (q 0)), (1, .int a1), (2, .int a2), (3, .int a3), (4, .int a4), (5, .int a5)] → va_P D vwCl (jW cB N q σ) H → va_D A (jW cB N q σ) → va_S A s.heap H locs → k68 a1 a2 a3 a4 a5 σ = some ρ → W p l e (rm_jj_readParts rmv) s m args below meth c H locs 0 0 (MQ below (cQ D (gTy cB cI cJ) A (jW cB N q ρ.2) (some (.int (bI ρ.1)))) args s 0 0 A) (F0 m 68 ls [])) (hl : lv_has ls 7 [(0, .ref (q 0)), (1, .int a1), (2, .int a2), (3, .int a3), (4, .int a4), (5, .int a5)]) (hP : va_P D vwCl (jW cB N q σ) H) (hD : va_D A (jW cB N q σ)) (hS : va_S A s.heap H locs) (hf : jj_readParts_b68 N rv k68 a1 a2 a3 a4 a5 σ = some ρ) : W p l e (rm_jj_readParts rmv) s m args below meth c H locs 0 0 (MQ below (cQ D (gTy cB cI cJ) A (jW cB N q ρ.2) (some (.int (bI ρ.1)))) args s 0 0 A) (F0 m 68 ls []) := by
  unfold jj_readParts_b68 at hf
  obtain ⟨hx, hb, hml, hown, hT, hrt, hlk, hK, hA, hG, hE⟩ := id G
  refine lv_iload hx hb dX1_readParts_68 (lv_at hl 5 rfl) ?_
  refine lv_aload_n hx hb dX1_readParts_70 rfl (lv_at hl 0 rfl) ?_
  refine gj_X1_tape G hP dX1_readParts_71 ?_
  obtain ⟨x8, hx8, hf⟩ := bd_some hf
  refine vJ_tape (As := []) (rest := [.int a5]) (τ := x8.2) G kX1_23 rfl (c_rr_size hx8) hP hD hS ⟨rfl, rfl, Nat.le_trans (m := 16) (Nat.le_of_ble_eq_true rfl) (Nat.le_add_left 16 _), Nat.le_trans (m := 400) (Nat.le_of_ble_eq_true rfl) (Nat.le_add_left 400 _)⟩ ⟨Nat.zero_le _, Nat.zero_le _⟩ rfl hl.1 (Nat.le_of_ble_eq_true rfl) dX1_readParts_74 (fun H locs hP hD hS => ?_)
  refine W.eq (g2 := F0 m 77 ls [.int x8.1, .int a5]) rfl ?_
  refine lv_icmp_gt (tgt := 170) hx hb dX1_readParts_77 (by decide) (fun c9 => ?_) (fun c9 => ?_)
  · have hf := (if_pos c9).symm.trans hf
    refine lv_aload_n hx hb dX1_readParts_170 rfl (lv_at hl 0 rfl) ?_
    refine lv_iconst (v := (1 : Int32)) hx hb dX1_readParts_171 (by decide) ?_
    refine lv_aload_n hx hb dX1_readParts_172 rfl (lv_at hl 0 rfl) ?_
    refine gj_X1_place (v := (jf_place σ)) G hP dX1_readParts_173 (jG_place_tape _ _) ?_
    obtain ⟨x10, hx10, hf⟩ := bd_some hf
    refine uJ (As := [.int (1 : Int32), .int (jf_place σ)]) (rest := []) G kX1_29 (c_jj_refuse hx10) hP hD hS ⟨rfl, rfl, Nat.le_trans (m := 16) (Nat.le_of_ble_eq_true rfl) (Nat.le_add_left 16 _), Nat.le_trans (m := 400) (Nat.le_of_ble_eq_true rfl) (Nat.le_add_left 400 _)⟩ ⟨Nat.zero_le _, Nat.zero_le _⟩ rfl hl.1 (Nat.le_of_ble_eq_true rfl) dX1_readParts_176 (fun H locs hP hD hS => ?_)
    refine W.eq (g2 := F0 m 179 ls [.int (bI x10.1)]) rfl ?_
    cases hf
    exact ct_iret G (bI_nar x10.1) hP hD hS dX1_readParts_179
  · have hf := (if_neg c9).symm.trans hf
    refine lv_iload_n hx hb dX1_readParts_80 rfl (lv_at hl 1 rfl) ?_
    refine lv_iconst (v := (5 : Int32)) hx hb dX1_readParts_81 (by decide) ?_
    refine lv_icmp_ne (tgt := 92) hx hb dX1_readParts_82 (by decide) (fun c11 => ?_) (fun c11 => ?_)
    · have hf := (if_neg c11).symm.trans hf
      exact W.eq (g2 := F0 m 92 ls []) rfl (jj_readParts_t92 hrv G hk68 (lv_sub hl [0, 1, 2, 3, 4, 5] rfl) hP hD hS hf)
    · have hf := (if_pos c11).symm.trans hf
      refine lv_aload_n hx hb dX1_readParts_85 rfl (lv_at hl 0 rfl) ?_
      obtain ⟨x12, hx12, hf⟩ := bd_some hf
      refine vJ (As := []) (rest := []) G kX1_90 (c_jj_readKey hx12) hP hD hS ⟨rfl, rfl, Nat.le_trans (m := 16) (Nat.le_of_ble_eq_true rfl) (Nat.le_add_left 16 _), Nat.le_trans (m := 400) (Nat.le_of_ble_eq_true rfl) (Nat.le_add_left 400 _)⟩ ⟨Nat.zero_le _, Nat.zero_le _⟩ rfl hl.1 (Nat.le_of_ble_eq_true rfl) dX1_readParts_86 (fun H locs hP hD hS => ?_)
      refine W.eq (g2 := F0 m 89 ls [.int (bI x12.1)]) rfl ?_
      refine lv_if_eq (tgt := 102) hx hb dX1_readParts_89 (by decide) (fun c13 => ?_) (fun c13 => ?_)
      · have hf := (if_neg (bI_0 c13)).symm.trans hf
        refine lv_iconst (v := (0 : Int32)) hx hb dX1_readParts_102 (by decide) ?_
        cases hf
        exact ct_iret G (bI_nar false) hP hD hS dX1_readParts_103
      · have hf := (if_pos (bI_n c13)).symm.trans hf
        exact W.eq (g2 := F0 m 92 ls []) rfl (jj_readParts_t92 hrv G hk68 (lv_sub hl [0, 1, 2, 3, 4, 5] rfl) hP hD hS hf)
set_option maxHeartbeats 4000000 in
set_option maxRecDepth 100000 in
theorem jj_readParts_u68 {p : Program} {l : Launch} {e : Env} {s : State} {m : MethodId} {args : Array Value} {below : List Frame} {meth : Method} {c : Code} {D : va_G} {aK aV : Nat → Nat} {A : Nat → Prop} {cB cI cJ : ClassId} {q : Nat → Nat} {N : Nat} {ρ : Bool × JSt} {rv : Int32 → JSt → Option (Bool × JSt)} {rmv : Room} (hrv : (∀ {a : Int32} {σ : JSt} {x : Bool × JSt}, rv a σ = some x → CT l D (gTy cB cI cJ) aK aV yX1_readValue (wM yX1_readValue cX1_readValue 3 (some .boolean)) rmv 0 0 [.ref (q 0), .int a] (jW cB N q σ) (some (.int (bI x.1))) (jW cB N q x.2)) ∧ rmv.cells = 0 ∧ rmv.slots = 0) (G : CX p s m args meth c D (gTy cB cI cJ) aK aV A RX1 cX1_readParts 7 (some .boolean)) : ∀ (n : Nat) {a1 : Int32} {a2 : Int32} {a3 : Int32} {a4 : Int32} {a5 : Int32} {σ : JSt} {H : Heap} {locs : List Loc} {ls : Array Slot} (hl : lv_has ls 7 [(0, .ref (q 0)), (1, .int a1), (2, .int a2), (3, .int a3), (4, .int a4), (5, .int a5)]) (hP : va_P D vwCl (jW cB N q σ) H) (hD : va_D A (jW cB N q σ)) (hS : va_S A s.heap H locs) (hf : jj_readParts_L68 N rv n a1 a2 a3 a4 a5 σ = some ρ), W p l e (rm_jj_readParts rmv) s m args below meth c H locs 0 0 (MQ below (cQ D (gTy cB cI cJ) A (jW cB N q ρ.2) (some (.int (bI ρ.1)))) args s 0 0 A) (F0 m 68 ls []) := by
  intro n
  induction n with
  | zero =>
    intros
    rename_i hf
    cases hf
  | succ n ih =>
    intro a1 a2 a3 a4 a5 σ H locs ls hl hP hD hS hf
    exact jj_readParts_t68 hrv G (fun _ _ _ _ _ _ H locs ls hl hP hD hS hf => ih hl hP hD hS hf) hl hP hD hS hf
set_option maxHeartbeats 4000000 in
set_option maxRecDepth 100000 in
theorem jj_readParts_t0e {p : Program} {l : Launch} {e : Env} {s : State} {m : MethodId} {args : Array Value} {below : List Frame} {meth : Method} {c : Code} {D : va_G} {aK aV : Nat → Nat} {A : Nat → Prop} {cB cI cJ : ClassId} {q : Nat → Nat} {N : Nat} {H : Heap} {locs : List Loc} {ls : Array Slot} {ρ : Bool × JSt} {rv : Int32 → JSt → Option (Bool × JSt)} {rmv : Room} (hrv : (∀ {a : Int32} {σ : JSt} {x : Bool × JSt}, rv a σ = some x → CT l D (gTy cB cI cJ) aK aV yX1_readValue (wM yX1_readValue cX1_readValue 3 (some .boolean)) rmv 0 0 [.ref (q 0), .int a] (jW cB N q σ) (some (.int (bI x.1))) (jW cB N q x.2)) ∧ rmv.cells = 0 ∧ rmv.slots = 0) {p0 : Int32} {p1 : Int32} {p2 : Int32} {σ : JSt} (G : CX p s m args meth c D (gTy cB cI cJ) aK aV A RX1 cX1_readParts 7 (some .boolean)) (hl : lv_has ls 7 [(0, .ref (q 0)), (1, .int p0), (2, .int p1), (3, .int p2)]) (hP : va_P D vwCl (jW cB N q σ) H) (hD : va_D A (jW cB N q σ)) (hS : va_S A s.heap H locs) (hf : jj_readParts N rv p0 p1 p2 σ = some ρ) : W p l e (rm_jj_readParts rmv) s m args below meth c H locs 0 0 (MQ below (cQ D (gTy cB cI cJ) A (jW cB N q ρ.2) (some (.int (bI ρ.1)))) args s 0 0 A) (F0 m 0 ls []) := by
  unfold jj_readParts at hf
  obtain ⟨hx, hb, hml, hown, hT, hrt, hlk, hK, hA, hG, hE⟩ := id G
  refine lv_iload_n hx hb dX1_readParts_0 rfl (lv_at hl 3 rfl) ?_
  refine lv_aload_n hx hb dX1_readParts_1 rfl (lv_at hl 0 rfl) ?_
  refine gj_X1_depthLimit (v := (jf_depthLimit σ)) G hP dX1_readParts_2 rfl ?_
  refine lv_icmp_lt (tgt := 18) hx hb dX1_readParts_5 (by decide) (fun c1 => ?_) (fun c1 => ?_)
  · have hf := (if_pos c1).symm.trans hf
    refine lv_aload_n hx hb dX1_readParts_18 rfl (lv_at hl 0 rfl) ?_
    refine gj_X1_target G hP dX1_readParts_19 ?_
    obtain ⟨x2, hx2, hf⟩ := bd_some hf
    refine vJ_target (As := []) (rest := []) (τ := x2.2) G kX1_84 rfl (c_rr_openHead hx2) hP hD hS ⟨rfl, rfl, Nat.le_trans (m := 16) (Nat.le_of_ble_eq_true rfl) (Nat.le_add_left 16 _), Nat.le_trans (m := 400) (Nat.le_of_ble_eq_true rfl) (Nat.le_add_left 400 _)⟩ ⟨Nat.zero_le _, Nat.zero_le _⟩ rfl hl.1 (Nat.le_of_ble_eq_true rfl) dX1_readParts_22 (fun H locs hP hD hS => ?_)
    refine W.eq (g2 := F0 m 25 ls [.int x2.1]) rfl ?_
    refine lv_istore (lv' := [(4, .int x2.1), (0, .ref (q 0)), (1, .int p0), (2, .int p1), (3, .int p2)]) hx hb dX1_readParts_25 hl (by decide) rfl (fun ls hl => ?_)
    refine lv_aload_n hx hb dX1_readParts_27 rfl (lv_at hl 1 rfl) ?_
    refine lv_dup hx hb dX1_readParts_28 rfl ?_
    refine gj_X1_place (v := (jf_place σ)) G hP dX1_readParts_29 (jG_place_target _ _) ?_
    refine lv_iconst (v := (1 : Int32)) hx hb dX1_readParts_32 (by decide) ?_
    refine lv_iadd hx hb dX1_readParts_33 ?_
    refine pj_X1_place (v := ((jf_place σ) + (1 : Int32))) G hP hD hS dX1_readParts_34 (fun H locs hP hD hS => ?_)
    refine lv_aload_n hx hb dX1_readParts_37 rfl (lv_at hl 1 rfl) ?_
    obtain ⟨x3, hx3, hf⟩ := bd_some hf
    refine vJ (As := []) (rest := []) G kX1_9 (c_jj_skipBlanks hx3) hP hD hS ⟨rfl, rfl, Nat.le_trans (m := 16) (Nat.le_of_ble_eq_true rfl) (Nat.le_add_left 16 _), Nat.le_trans (m := 400) (Nat.le_of_ble_eq_true rfl) (Nat.le_add_left 400 _)⟩ ⟨Nat.zero_le _, Nat.zero_le _⟩ rfl hl.1 (Nat.le_of_ble_eq_true rfl) dX1_readParts_38 (fun H locs hP hD hS => ?_)
    refine W.eq (g2 := F0 m 41 ls []) rfl ?_
    refine lv_aload_n hx hb dX1_readParts_41 rfl (lv_at hl 1 rfl) ?_
    refine gj_X1_tape G hP dX1_readParts_42 ?_
    refine lv_aload_n hx hb dX1_readParts_45 rfl (lv_at hl 1 rfl) ?_
    refine gj_X1_place (v := (jf_place x3)) G hP dX1_readParts_46 rfl ?_
    obtain ⟨x4, hx4, hf⟩ := bd_some hf
    refine vJ_tape (As := [.int (jf_place x3)]) (rest := []) (τ := x4.2) G kX1_33 rfl (c_rr_at hx4) hP hD hS ⟨rfl, rfl, Nat.le_trans (m := 16) (Nat.le_of_ble_eq_true rfl) (Nat.le_add_left 16 _), Nat.le_trans (m := 400) (Nat.le_of_ble_eq_true rfl) (Nat.le_add_left 400 _)⟩ ⟨Nat.zero_le _, Nat.zero_le _⟩ rfl hl.1 (Nat.le_of_ble_eq_true rfl) dX1_readParts_49 (fun H locs hP hD hS => ?_)
    refine W.eq (g2 := F0 m 52 ls [.int x4.1]) rfl ?_
    refine lv_iload_n hx hb dX1_readParts_52 rfl (lv_at hl 3 rfl) ?_
    refine lv_icmp_ne (tgt := 65) hx hb dX1_readParts_53 (by decide) (fun c5 => ?_) (fun c5 => ?_)
    · have hf := (if_neg c5).symm.trans hf
      refine lv_iconst (v := (1 : Int32)) hx hb dX1_readParts_65 (by decide) ?_
      refine lv_istore (lv' := [(5, .int (1 : Int32)), (4, .int x2.1), (0, .ref (q 0)), (1, .int p0), (2, .int p1), (3, .int p2)]) hx hb dX1_readParts_66 hl (by decide) rfl (fun ls hl => ?_)
      exact W.eq (g2 := F0 m 68 ls []) rfl (jj_readParts_u68 hrv G FU (lv_sub hl [2, 3, 4, 5, 1, 0] rfl) hP hD hS hf)
    · have hf := (if_pos c5).symm.trans hf
      refine lv_aload_n hx hb dX1_readParts_56 rfl (lv_at hl 1 rfl) ?_
      refine lv_iload hx hb dX1_readParts_57 (lv_at hl 0 rfl) ?_
      refine lv_iload_n hx hb dX1_readParts_59 rfl (lv_at hl 2 rfl) ?_
      refine lv_iconst (v := (0 : Int32)) hx hb dX1_readParts_60 (by decide) ?_
      obtain ⟨x6, hx6, hf⟩ := bd_some hf
      refine vJ (As := [.int x2.1, .int p0, .int (0 : Int32)]) (rest := []) G kX1_87 (c_jj_closeParts hx6) hP hD hS ⟨rfl, rfl, Nat.le_trans (m := 16) (Nat.le_of_ble_eq_true rfl) (Nat.le_add_left 16 _), Nat.le_trans (m := 400) (Nat.le_of_ble_eq_true rfl) (Nat.le_add_left 400 _)⟩ ⟨Nat.zero_le _, Nat.zero_le _⟩ rfl hl.1 (Nat.le_of_ble_eq_true rfl) dX1_readParts_61 (fun H locs hP hD hS => ?_)
      refine W.eq (g2 := F0 m 64 ls [.int (bI x6.1)]) rfl ?_
      cases hf
      exact ct_iret G (bI_nar x6.1) hP hD hS dX1_readParts_64
  · have hf := (if_neg c1).symm.trans hf
    refine lv_aload_n hx hb dX1_readParts_8 rfl (lv_at hl 0 rfl) ?_
    refine lv_iconst (v := (4 : Int32)) hx hb dX1_readParts_9 (by decide) ?_
    refine lv_aload_n hx hb dX1_readParts_10 rfl (lv_at hl 0 rfl) ?_
    refine gj_X1_place (v := (jf_place σ)) G hP dX1_readParts_11 rfl ?_
    obtain ⟨x7, hx7, hf⟩ := bd_some hf
    refine uJ (As := [.int (4 : Int32), .int (jf_place σ)]) (rest := []) G kX1_29 (c_jj_refuse hx7) hP hD hS ⟨rfl, rfl, Nat.le_trans (m := 16) (Nat.le_of_ble_eq_true rfl) (Nat.le_add_left 16 _), Nat.le_trans (m := 400) (Nat.le_of_ble_eq_true rfl) (Nat.le_add_left 400 _)⟩ ⟨Nat.zero_le _, Nat.zero_le _⟩ rfl hl.1 (Nat.le_of_ble_eq_true rfl) dX1_readParts_14 (fun H locs hP hD hS => ?_)
    refine W.eq (g2 := F0 m 17 ls [.int (bI x7.1)]) rfl ?_
    cases hf
    exact ct_iret G (bI_nar x7.1) hP hD hS dX1_readParts_17
set_option maxHeartbeats 4000000 in
set_option maxRecDepth 100000 in
theorem c_jj_readParts {l : Launch} {D : va_G} {aK aV : Nat → Nat} {cB cI cJ : ClassId} {q : Nat → Nat} {N : Nat} {rv : Int32 → JSt → Option (Bool × JSt)} {rmv : Room} (hrv : (∀ {a : Int32} {σ : JSt} {x : Bool × JSt}, rv a σ = some x → CT l D (gTy cB cI cJ) aK aV yX1_readValue (wM yX1_readValue cX1_readValue 3 (some .boolean)) rmv 0 0 [.ref (q 0), .int a] (jW cB N q σ) (some (.int (bI x.1))) (jW cB N q x.2)) ∧ rmv.cells = 0 ∧ rmv.slots = 0) {ρ : Bool × JSt} {p0 : Int32} {p1 : Int32} {p2 : Int32} {σ : JSt} (hf : jj_readParts N rv p0 p1 p2 σ = some ρ) : CT l D (gTy cB cI cJ) aK aV yX1_readParts (wM yX1_readParts cX1_readParts 7 (some .boolean)) (rm_jj_readParts rmv) 0 0 [.ref (q 0), .int p0, .int p1, .int p2] (jW cB N q σ) (some (.int (bI ρ.1))) (jW cB N q ρ.2) := by
  refine CT.of (by decide) rfl ?_
  intro p e s m below meth c A G hnm hP hD hS
  have hl := lv_entry [.ref (q 0), .int p0, .int p1, .int p2] (n := 7) (Nat.le_of_ble_eq_true rfl)
  rw [lg_entry_eq]
  generalize (lg_sl [.ref (q 0), .int p0, .int p1, .int p2] ++ List.replicate (7 - (lg_sl [.ref (q 0), .int p0, .int p1, .int p2]).length) Slot.unset).toArray = ls at hl ⊢
  exact jj_readParts_t0e hrv G hl hP hD hS hf
def jj_valueOf_b139 (N : Nat) (rv : Int32 → JSt → Option (Bool × JSt)) (σ : JSt) : Option (Bool × JSt) := bd (jj_readNumber N  σ) (fun (x18 : Bool × JSt) => some (x18.1, x18.2))
def jj_valueOf (N : Nat) (rv : Int32 → JSt → Option (Bool × JSt)) (p0 : Int32) (σ : JSt) : Option (Bool × JSt) := bd (jj_skipBlanks N  σ) (fun (x1 : JSt) => bd (rr_at 4000 (jf_place x1) (jf_tape x1)) (fun (x2 : Int32 × RSt) => (if x2.1 = (34 : Int32) then bd (jj_readString N  (js_tape x1 x2.2)) (fun (x4 : Bool × JSt) => some (x4.1, x4.2)) else (if x2.1 = (91 : Int32) then bd (jj_readParts N rv (4 : Int32) (93 : Int32) p0 (js_tape x1 x2.2)) (fun (x6 : Bool × JSt) => some (x6.1, x6.2)) else (if x2.1 = (102 : Int32) then bd (jj_readWord N 0 (20 : Int32) (js_tape x1 x2.2)) (fun (x8 : Bool × JSt) => some (x8.1, x8.2)) else (if x2.1 = (110 : Int32) then bd (jj_readWord N 2 (22 : Int32) (js_tape x1 x2.2)) (fun (x10 : Bool × JSt) => some (x10.1, x10.2)) else (if x2.1 = (116 : Int32) then bd (jj_readWord N 1 (21 : Int32) (js_tape x1 x2.2)) (fun (x12 : Bool × JSt) => some (x12.1, x12.2)) else (if x2.1 = (123 : Int32) then bd (jj_readParts N rv (5 : Int32) (125 : Int32) p0 (js_tape x1 x2.2)) (fun (x14 : Bool × JSt) => some (x14.1, x14.2)) else (if x2.1 = (45 : Int32) then jj_valueOf_b139 N rv  (js_tape x1 x2.2) else (if (eX1_isDigit x2.1) = true then jj_valueOf_b139 N rv  (js_tape x1 x2.2) else bd (jj_refuse N (1 : Int32) (jf_place x1) (js_tape x1 x2.2)) (fun (x17 : Bool × JSt) => some (x17.1, x17.2))))))))))))
abbrev rm_jj_valueOf (rmv : Room) : Room := { frames := rmv.frames + 32, cells := 0, slots := 0, locals := rmv.locals + 800 }
set_option maxHeartbeats 4000000 in
set_option maxRecDepth 100000 in
theorem jj_valueOf_t139 {p : Program} {l : Launch} {e : Env} {s : State} {m : MethodId} {args : Array Value} {below : List Frame} {meth : Method} {c : Code} {D : va_G} {aK aV : Nat → Nat} {A : Nat → Prop} {cB cI cJ : ClassId} {q : Nat → Nat} {N : Nat} {H : Heap} {locs : List Loc} {ls : Array Slot} {ρ : Bool × JSt} {rv : Int32 → JSt → Option (Bool × JSt)} {rmv : Room} (hrv : (∀ {a : Int32} {σ : JSt} {x : Bool × JSt}, rv a σ = some x → CT l D (gTy cB cI cJ) aK aV yX1_readValue (wM yX1_readValue cX1_readValue 3 (some .boolean)) rmv 0 0 [.ref (q 0), .int a] (jW cB N q σ) (some (.int (bI x.1))) (jW cB N q x.2)) ∧ rmv.cells = 0 ∧ rmv.slots = 0) {σ : JSt} (G : CX p s m args meth c D (gTy cB cI cJ) aK aV A RX1 cX1_readValue 3 (some .boolean)) (hl : lv_has ls 3 [(0, .ref (q 0))]) (hP : va_P D vwCl (jW cB N q σ) H) (hD : va_D A (jW cB N q σ)) (hS : va_S A s.heap H locs) (hf : jj_valueOf_b139 N rv σ = some ρ) : W p l e (rm_jj_valueOf rmv) s m args below meth c H locs 0 0 (MQ below (cQ D (gTy cB cI cJ) A (jW cB N q ρ.2) (some (.int (bI ρ.1)))) args s 0 0 A) (F0 m 139 ls []) := by
  unfold jj_valueOf_b139 at hf
  obtain ⟨hx, hb, hml, hown, hT, hrt, hlk, hK, hA, hG, hE⟩ := id G
  refine lv_aload_n hx hb dX1_readValue_139 rfl (lv_at hl 0 rfl) ?_
  obtain ⟨x18, hx18, hf⟩ := bd_some hf
  refine vJ (As := []) (rest := []) G kX1_59 (c_jj_readNumber hx18) hP hD hS ⟨rfl, rfl, Nat.le_trans (m := 32) (Nat.le_of_ble_eq_true rfl) (Nat.le_add_left 32 _), Nat.le_trans (m := 800) (Nat.le_of_ble_eq_true rfl) (Nat.le_add_left 800 _)⟩ ⟨Nat.zero_le _, Nat.zero_le _⟩ rfl hl.1 (Nat.le_of_ble_eq_true rfl) dX1_readValue_140 (fun H locs hP hD hS => ?_)
  refine W.eq (g2 := F0 m 143 ls [.int (bI x18.1)]) rfl ?_
  refine lv_goto (tgt := 155) hx hb dX1_readValue_143 (by decide) ?_
  cases hf
  exact ct_iret G (bI_nar x18.1) hP hD hS dX1_readValue_155
set_option maxHeartbeats 4000000 in
set_option maxRecDepth 100000 in
theorem jj_valueOf_t0e {p : Program} {l : Launch} {e : Env} {s : State} {m : MethodId} {args : Array Value} {below : List Frame} {meth : Method} {c : Code} {D : va_G} {aK aV : Nat → Nat} {A : Nat → Prop} {cB cI cJ : ClassId} {q : Nat → Nat} {N : Nat} {H : Heap} {locs : List Loc} {ls : Array Slot} {ρ : Bool × JSt} {rv : Int32 → JSt → Option (Bool × JSt)} {rmv : Room} (hrv : (∀ {a : Int32} {σ : JSt} {x : Bool × JSt}, rv a σ = some x → CT l D (gTy cB cI cJ) aK aV yX1_readValue (wM yX1_readValue cX1_readValue 3 (some .boolean)) rmv 0 0 [.ref (q 0), .int a] (jW cB N q σ) (some (.int (bI x.1))) (jW cB N q x.2)) ∧ rmv.cells = 0 ∧ rmv.slots = 0) {p0 : Int32} {σ : JSt} (G : CX p s m args meth c D (gTy cB cI cJ) aK aV A RX1 cX1_readValue 3 (some .boolean)) (hl : lv_has ls 3 [(0, .ref (q 0)), (1, .int p0)]) (hP : va_P D vwCl (jW cB N q σ) H) (hD : va_D A (jW cB N q σ)) (hS : va_S A s.heap H locs) (hf : jj_valueOf N rv p0 σ = some ρ) : W p l e (rm_jj_valueOf rmv) s m args below meth c H locs 0 0 (MQ below (cQ D (gTy cB cI cJ) A (jW cB N q ρ.2) (some (.int (bI ρ.1)))) args s 0 0 A) (F0 m 0 ls []) := by
  unfold jj_valueOf at hf
  obtain ⟨hx, hb, hml, hown, hT, hrt, hlk, hK, hA, hG, hE⟩ := id G
  refine lv_aload_n hx hb dX1_readValue_0 rfl (lv_at hl 0 rfl) ?_
  obtain ⟨x1, hx1, hf⟩ := bd_some hf
  refine vJ (As := []) (rest := []) G kX1_9 (c_jj_skipBlanks hx1) hP hD hS ⟨rfl, rfl, Nat.le_trans (m := 32) (Nat.le_of_ble_eq_true rfl) (Nat.le_add_left 32 _), Nat.le_trans (m := 800) (Nat.le_of_ble_eq_true rfl) (Nat.le_add_left 800 _)⟩ ⟨Nat.zero_le _, Nat.zero_le _⟩ rfl hl.1 (Nat.le_of_ble_eq_true rfl) dX1_readValue_1 (fun H locs hP hD hS => ?_)
  refine W.eq (g2 := F0 m 4 ls []) rfl ?_
  refine lv_aload_n hx hb dX1_readValue_4 rfl (lv_at hl 0 rfl) ?_
  refine gj_X1_tape G hP dX1_readValue_5 ?_
  refine lv_aload_n hx hb dX1_readValue_8 rfl (lv_at hl 0 rfl) ?_
  refine gj_X1_place (v := (jf_place x1)) G hP dX1_readValue_9 rfl ?_
  obtain ⟨x2, hx2, hf⟩ := bd_some hf
  refine vJ_tape (As := [.int (jf_place x1)]) (rest := []) (τ := x2.2) G kX1_33 rfl (c_rr_at hx2) hP hD hS ⟨rfl, rfl, Nat.le_trans (m := 32) (Nat.le_of_ble_eq_true rfl) (Nat.le_add_left 32 _), Nat.le_trans (m := 800) (Nat.le_of_ble_eq_true rfl) (Nat.le_add_left 800 _)⟩ ⟨Nat.zero_le _, Nat.zero_le _⟩ rfl hl.1 (Nat.le_of_ble_eq_true rfl) dX1_readValue_12 (fun H locs hP hD hS => ?_)
  refine W.eq (g2 := F0 m 15 ls [.int x2.1]) rfl ?_
  refine lv_istore_n (lv' := [(2, .int x2.1), (0, .ref (q 0)), (1, .int p0)]) hx hb dX1_readValue_15 rfl hl (by decide) rfl (fun ls hl => ?_)
  refine lv_iload_n hx hb dX1_readValue_16 rfl (lv_at hl 0 rfl) ?_
  by_cases c3 : x2.1 = (34 : Int32)
  · have hf := (if_pos c3).symm.trans hf
    refine lv_lookup (off := 59) (tgt := 76) hx hb dX1_readValue_17 (by decide) (by rw [c3]; decide +kernel) (by decide) ?_
    refine lv_aload_n hx hb dX1_readValue_76 rfl (lv_at hl 1 rfl) ?_
    obtain ⟨x4, hx4, hf⟩ := bd_some hf
    refine vJ (As := []) (rest := []) G kX1_37 (c_jj_readString hx4) hP hD hS ⟨rfl, rfl, Nat.le_trans (m := 32) (Nat.le_of_ble_eq_true rfl) (Nat.le_add_left 32 _), Nat.le_trans (m := 800) (Nat.le_of_ble_eq_true rfl) (Nat.le_add_left 800 _)⟩ ⟨Nat.zero_le _, Nat.zero_le _⟩ rfl hl.1 (Nat.le_of_ble_eq_true rfl) dX1_readValue_77 (fun H locs hP hD hS => ?_)
    refine W.eq (g2 := F0 m 80 ls [.int (bI x4.1)]) rfl ?_
    cases hf
    exact ct_iret G (bI_nar x4.1) hP hD hS dX1_readValue_80
  · have hf := (if_neg c3).symm.trans hf
    by_cases c5 : x2.1 = (91 : Int32)
    · have hf := (if_pos c5).symm.trans hf
      refine lv_lookup (off := 64) (tgt := 81) hx hb dX1_readValue_17 (by decide) (by rw [c5]; decide +kernel) (by decide) ?_
      refine lv_aload_n hx hb dX1_readValue_81 rfl (lv_at hl 1 rfl) ?_
      refine lv_iconst (v := (4 : Int32)) hx hb dX1_readValue_82 (by decide) ?_
      refine lv_bipush (v := (93 : Int32)) hx hb dX1_readValue_83 (by decide) ?_
      refine lv_iload_n hx hb dX1_readValue_85 rfl (lv_at hl 2 rfl) ?_
      obtain ⟨x6, hx6, hf⟩ := bd_some hf
      refine vJ (As := [.int (4 : Int32), .int (93 : Int32), .int p0]) (rest := []) G kX1_41 (c_jj_readParts hrv hx6) hP hD hS ⟨rfl, rfl, (by show rmv.frames + 16 + 1 ≤ rmv.frames + 32; omega), (by show 8 + (7 + 11) + (rmv.locals + 400) ≤ rmv.locals + 800; omega)⟩ ⟨Nat.zero_le _, Nat.zero_le _⟩ rfl hl.1 (Nat.le_of_ble_eq_true rfl) dX1_readValue_86 (fun H locs hP hD hS => ?_)
      refine W.eq (g2 := F0 m 89 ls [.int (bI x6.1)]) rfl ?_
      cases hf
      exact ct_iret G (bI_nar x6.1) hP hD hS dX1_readValue_89
    · have hf := (if_neg c5).symm.trans hf
      by_cases c7 : x2.1 = (102 : Int32)
      · have hf := (if_pos c7).symm.trans hf
        refine lv_lookup (off := 82) (tgt := 99) hx hb dX1_readValue_17 (by decide) (by rw [c7]; decide +kernel) (by decide) ?_
        refine lv_aload_n hx hb dX1_readValue_99 rfl (lv_at hl 1 rfl) ?_
        refine va_ldcS hx hb hown (hG.1 _ (List.mem_of_getElem? (i := 0) rfl)) dX1_readValue_100 ?_
        refine lv_bipush (v := (20 : Int32)) hx hb dX1_readValue_102 (by decide) ?_
        obtain ⟨x8, hx8, hf⟩ := bd_some hf
        refine vJ (As := [.ref (aK 0), .int (20 : Int32)]) (rest := []) G kX1_47 (c_jj_readWord (by decide) hx8) hP hD hS ⟨rfl, rfl, Nat.le_trans (m := 32) (Nat.le_of_ble_eq_true rfl) (Nat.le_add_left 32 _), Nat.le_trans (m := 800) (Nat.le_of_ble_eq_true rfl) (Nat.le_add_left 800 _)⟩ ⟨Nat.zero_le _, Nat.zero_le _⟩ rfl hl.1 (Nat.le_of_ble_eq_true rfl) dX1_readValue_104 (fun H locs hP hD hS => ?_)
        refine W.eq (g2 := F0 m 107 ls [.int (bI x8.1)]) rfl ?_
        cases hf
        exact ct_iret G (bI_nar x8.1) hP hD hS dX1_readValue_107
      · have hf := (if_neg c7).symm.trans hf
        by_cases c9 : x2.1 = (110 : Int32)
        · have hf := (if_pos c9).symm.trans hf
          refine lv_lookup (off := 100) (tgt := 117) hx hb dX1_readValue_17 (by decide) (by rw [c9]; decide +kernel) (by decide) ?_
          refine lv_aload_n hx hb dX1_readValue_117 rfl (lv_at hl 1 rfl) ?_
          refine va_ldcS hx hb hown (hG.1 _ (List.mem_of_getElem? (i := 2) rfl)) dX1_readValue_118 ?_
          refine lv_bipush (v := (22 : Int32)) hx hb dX1_readValue_120 (by decide) ?_
          obtain ⟨x10, hx10, hf⟩ := bd_some hf
          refine vJ (As := [.ref (aK 2), .int (22 : Int32)]) (rest := []) G kX1_47 (c_jj_readWord (by decide) hx10) hP hD hS ⟨rfl, rfl, Nat.le_trans (m := 32) (Nat.le_of_ble_eq_true rfl) (Nat.le_add_left 32 _), Nat.le_trans (m := 800) (Nat.le_of_ble_eq_true rfl) (Nat.le_add_left 800 _)⟩ ⟨Nat.zero_le _, Nat.zero_le _⟩ rfl hl.1 (Nat.le_of_ble_eq_true rfl) dX1_readValue_122 (fun H locs hP hD hS => ?_)
          refine W.eq (g2 := F0 m 125 ls [.int (bI x10.1)]) rfl ?_
          cases hf
          exact ct_iret G (bI_nar x10.1) hP hD hS dX1_readValue_125
        · have hf := (if_neg c9).symm.trans hf
          by_cases c11 : x2.1 = (116 : Int32)
          · have hf := (if_pos c11).symm.trans hf
            refine lv_lookup (off := 91) (tgt := 108) hx hb dX1_readValue_17 (by decide) (by rw [c11]; decide +kernel) (by decide) ?_
            refine lv_aload_n hx hb dX1_readValue_108 rfl (lv_at hl 1 rfl) ?_
            refine va_ldcS hx hb hown (hG.1 _ (List.mem_of_getElem? (i := 1) rfl)) dX1_readValue_109 ?_
            refine lv_bipush (v := (21 : Int32)) hx hb dX1_readValue_111 (by decide) ?_
            obtain ⟨x12, hx12, hf⟩ := bd_some hf
            refine vJ (As := [.ref (aK 1), .int (21 : Int32)]) (rest := []) G kX1_47 (c_jj_readWord (by decide) hx12) hP hD hS ⟨rfl, rfl, Nat.le_trans (m := 32) (Nat.le_of_ble_eq_true rfl) (Nat.le_add_left 32 _), Nat.le_trans (m := 800) (Nat.le_of_ble_eq_true rfl) (Nat.le_add_left 800 _)⟩ ⟨Nat.zero_le _, Nat.zero_le _⟩ rfl hl.1 (Nat.le_of_ble_eq_true rfl) dX1_readValue_113 (fun H locs hP hD hS => ?_)
            refine W.eq (g2 := F0 m 116 ls [.int (bI x12.1)]) rfl ?_
            cases hf
            exact ct_iret G (bI_nar x12.1) hP hD hS dX1_readValue_116
          · have hf := (if_neg c11).symm.trans hf
            by_cases c13 : x2.1 = (123 : Int32)
            · have hf := (if_pos c13).symm.trans hf
              refine lv_lookup (off := 73) (tgt := 90) hx hb dX1_readValue_17 (by decide) (by rw [c13]; decide +kernel) (by decide) ?_
              refine lv_aload_n hx hb dX1_readValue_90 rfl (lv_at hl 1 rfl) ?_
              refine lv_iconst (v := (5 : Int32)) hx hb dX1_readValue_91 (by decide) ?_
              refine lv_bipush (v := (125 : Int32)) hx hb dX1_readValue_92 (by decide) ?_
              refine lv_iload_n hx hb dX1_readValue_94 rfl (lv_at hl 2 rfl) ?_
              obtain ⟨x14, hx14, hf⟩ := bd_some hf
              refine vJ (As := [.int (5 : Int32), .int (125 : Int32), .int p0]) (rest := []) G kX1_41 (c_jj_readParts hrv hx14) hP hD hS ⟨rfl, rfl, (by show rmv.frames + 16 + 1 ≤ rmv.frames + 32; omega), (by show 8 + (7 + 11) + (rmv.locals + 400) ≤ rmv.locals + 800; omega)⟩ ⟨Nat.zero_le _, Nat.zero_le _⟩ rfl hl.1 (Nat.le_of_ble_eq_true rfl) dX1_readValue_95 (fun H locs hP hD hS => ?_)
              refine W.eq (g2 := F0 m 98 ls [.int (bI x14.1)]) rfl ?_
              cases hf
              exact ct_iret G (bI_nar x14.1) hP hD hS dX1_readValue_98
            · have hf := (if_neg c13).symm.trans hf
              refine lv_lookup (off := 109) (tgt := 126) hx hb dX1_readValue_17 (by decide) (sw_X1_readValue c3 c5 c7 c9 c11 c13) (by decide) ?_
              refine lv_iload_n hx hb dX1_readValue_126 rfl (lv_at hl 0 rfl) ?_
              refine lv_bipush (v := (45 : Int32)) hx hb dX1_readValue_127 (by decide) ?_
              refine lv_icmp_eq (tgt := 139) hx hb dX1_readValue_129 (by decide) (fun c15 => ?_) (fun c15 => ?_)
              · have hf := (if_pos c15).symm.trans hf
                exact W.eq (g2 := F0 m 139 ls []) rfl (jj_valueOf_t139 hrv G (lv_sub hl [1] rfl) hP hD hS hf)
              · have hf := (if_neg c15).symm.trans hf
                refine lv_iload_n hx hb dX1_readValue_132 rfl (lv_at hl 0 rfl) ?_
                refine ct_s0 (As := [.int x2.1]) (rest := []) G kX1_55 (c_eX1_isDigit x2.1) hP hD hS ⟨rfl, rfl, Nat.le_trans (m := 32) (Nat.le_of_ble_eq_true rfl) (Nat.le_add_left 32 _), Nat.le_trans (m := 800) (Nat.le_of_ble_eq_true rfl) (Nat.le_add_left 800 _)⟩ ⟨Nat.zero_le _, Nat.zero_le _⟩ rfl hl.1 (Nat.le_of_ble_eq_true rfl) dX1_readValue_133 (fun H locs hP hS => ?_)
                refine W.eq (g2 := F0 m 136 ls [.int (bI (eX1_isDigit x2.1))]) rfl ?_
                refine lv_if_eq (tgt := 146) hx hb dX1_readValue_136 (by decide) (fun c16 => ?_) (fun c16 => ?_)
                · have hf := (if_neg (bI_0 c16)).symm.trans hf
                  refine lv_aload_n hx hb dX1_readValue_146 rfl (lv_at hl 1 rfl) ?_
                  refine lv_iconst (v := (1 : Int32)) hx hb dX1_readValue_147 (by decide) ?_
                  refine lv_aload_n hx hb dX1_readValue_148 rfl (lv_at hl 1 rfl) ?_
                  refine gj_X1_place (v := (jf_place x1)) G hP dX1_readValue_149 (jG_place_tape _ _) ?_
                  obtain ⟨x17, hx17, hf⟩ := bd_some hf
                  refine uJ (As := [.int (1 : Int32), .int (jf_place x1)]) (rest := []) G kX1_29 (c_jj_refuse hx17) hP hD hS ⟨rfl, rfl, Nat.le_trans (m := 32) (Nat.le_of_ble_eq_true rfl) (Nat.le_add_left 32 _), Nat.le_trans (m := 800) (Nat.le_of_ble_eq_true rfl) (Nat.le_add_left 800 _)⟩ ⟨Nat.zero_le _, Nat.zero_le _⟩ rfl hl.1 (Nat.le_of_ble_eq_true rfl) dX1_readValue_152 (fun H locs hP hD hS => ?_)
                  refine W.eq (g2 := F0 m 155 ls [.int (bI x17.1)]) rfl ?_
                  cases hf
                  exact ct_iret G (bI_nar x17.1) hP hD hS dX1_readValue_155
                · have hf := (if_pos (bI_n c16)).symm.trans hf
                  exact W.eq (g2 := F0 m 139 ls []) rfl (jj_valueOf_t139 hrv G (lv_sub hl [1] rfl) hP hD hS hf)
set_option maxHeartbeats 4000000 in
set_option maxRecDepth 100000 in
theorem c_jj_valueOf {l : Launch} {D : va_G} {aK aV : Nat → Nat} {cB cI cJ : ClassId} {q : Nat → Nat} {N : Nat} {rv : Int32 → JSt → Option (Bool × JSt)} {rmv : Room} (hrv : (∀ {a : Int32} {σ : JSt} {x : Bool × JSt}, rv a σ = some x → CT l D (gTy cB cI cJ) aK aV yX1_readValue (wM yX1_readValue cX1_readValue 3 (some .boolean)) rmv 0 0 [.ref (q 0), .int a] (jW cB N q σ) (some (.int (bI x.1))) (jW cB N q x.2)) ∧ rmv.cells = 0 ∧ rmv.slots = 0) {ρ : Bool × JSt} {p0 : Int32} {σ : JSt} (hf : jj_valueOf N rv p0 σ = some ρ) : CT l D (gTy cB cI cJ) aK aV yX1_readValue (wM yX1_readValue cX1_readValue 3 (some .boolean)) (rm_jj_valueOf rmv) 0 0 [.ref (q 0), .int p0] (jW cB N q σ) (some (.int (bI ρ.1))) (jW cB N q ρ.2) := by
  refine CT.of (by decide) rfl ?_
  intro p e s m below meth c A G hnm hP hD hS
  have hl := lv_entry [.ref (q 0), .int p0] (n := 3) (Nat.le_of_ble_eq_true rfl)
  rw [lg_entry_eq]
  generalize (lg_sl [.ref (q 0), .int p0] ++ List.replicate (3 - (lg_sl [.ref (q 0), .int p0]).length) Slot.unset).toArray = ls at hl ⊢
  exact jj_valueOf_t0e hrv G hl hP hD hS hf
