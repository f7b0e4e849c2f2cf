/-! JSONREADER: strings, numbers (printed by program wip/gen) -/
def jj_readString_b120 (N : Nat) (k28 : Int32 → Int32 → Int32 → JSt → Option (Bool × JSt)) (a1 : Int32) (a2 : Int32) (a3 : Int32) (a4 : Int32) (s0 : Int32) (σ : JSt) : Option (Bool × JSt) := (if s0 = 0 then (if a4 = (92 : Int32) then bd (jj_readLetter N  σ) (fun (x18 : Bool × JSt) => (if x18.1 = true then lt (a3 + (1 : Int32)) (fun (v20 : Int32) => k28 a1 a2 v20 x18.2) else some (false, x18.2))) else bd (jj_readPlainSign N a4 σ) (fun (x15 : Bool × JSt) => (if x15.1 = true then lt (a3 + (1 : Int32)) (fun (v17 : Int32) => k28 a1 a2 v17 x15.2) else some (false, x15.2)))) else bd (jj_readNumberedSign N  σ) (fun (x21 : Bool × JSt) => (if x21.1 = true then lt (a3 + (1 : Int32)) (fun (v23 : Int32) => k28 a1 a2 v23 x21.2) else some (false, x21.2))))
def jj_readString_b28 (N : Nat) (k28 : Int32 → Int32 → Int32 → JSt → Option (Bool × JSt)) (a1 : Int32) (a2 : Int32) (a3 : Int32) (σ : JSt) : Option (Bool × JSt) := bd (rr_size 4000  (jf_tape σ)) (fun (x3 : Int32 × RSt) => (if x3.1 < a3 then bd (jj_refuse N (1 : Int32) (jf_place σ) (js_tape σ x3.2)) (fun (x5 : Bool × JSt) => some (x5.1, x5.2)) else bd (rr_at 4000 (jf_place σ) x3.2) (fun (x6 : Int32 × RSt) => (if x6.1 = (34 : Int32) then bd (rr_size N  (jf_target σ)) (fun (x11 : Int32 × RSt) => bd (rr_closeHead N a1 (3 : Int32) (Int32.toInt64 (x11.1 - a2)) x11.2) (fun (x12 : RSt) => some (true, (js_target (js_target (js_place (js_tape (js_tape σ x3.2) x6.2) ((jf_place σ) + (1 : Int32))) x11.2) x12)))) else (if x6.1 = (92 : Int32) then bd (rr_at 4000 ((jf_place σ) + (1 : Int32)) x6.2) (fun (x9 : Int32 × RSt) => (if x9.1 = (117 : Int32) then jj_readString_b120 N k28 a1 a2 a3 x6.1 (1 : Int32) (js_tape (js_tape (js_tape σ x3.2) x6.2) x9.2) else jj_readString_b120 N k28 a1 a2 a3 x6.1 (0 : Int32) (js_tape (js_tape (js_tape σ x3.2) x6.2) x9.2))) else jj_readString_b120 N k28 a1 a2 a3 x6.1 (0 : Int32) (js_tape (js_tape σ x3.2) x6.2))))))
def jj_readString_L28 (N : Nat) : Nat → Int32 → Int32 → Int32 → JSt → Option (Bool × JSt)
  | 0, _, _, _, _ => none
  | n + 1, a1, a2, a3, σ => jj_readString_b28 N (jj_readString_L28 N n) a1 a2 a3 σ
def jj_readString (N : Nat) (σ : JSt) : Option (Bool × JSt) := bd (rr_openHead N  (jf_target σ)) (fun (x1 : Int32 × RSt) => bd (rr_size N  x1.2) (fun (x2 : Int32 × RSt) => jj_readString_L28 N FU x1.1 x2.1 (0 : Int32) (js_place (js_target (js_target σ x1.2) x2.2) ((jf_place σ) + (1 : Int32)))))
abbrev rm_jj_readString : Room := { frames := 3, cells := 0, slots := 0, locals := 118 }
set_option maxHeartbeats 4000000 in
set_option maxRecDepth 100000 in
theorem jj_readString_t120 {p : Program} {l : Launch} {e : Env} {s : State} {m : MethodId} {args : Array Value} {below : List Frame} {meth : Method} {c : Code} {D : va_G} {aK aV : Nat → Nat} {A : Nat → Prop} {cB cI cJ : ClassId} {q : Nat → Nat} {N : Nat} {H : Heap} {locs : List Loc} {ls : Array Slot} {ρ : Bool × JSt} {k28 : Int32 → Int32 → Int32 → JSt → Option (Bool × JSt)} {a1 : Int32} {a2 : Int32} {a3 : Int32} {a4 : Int32} {s0 : Int32} {σ : JSt} (G : CX p s m args meth c D (gTy cB cI cJ) aK aV A RX1 cX1_readString 6 (some .boolean)) (hk28 : ∀ (a1 : Int32) (a2 : Int32) (a3 : Int32) (σ : JSt) (H : Heap) (locs : List Loc) (ls : Array Slot), lv_has ls 6 [(0, .ref (q 0)), (1, .int a1), (2, .int a2), (3, .int a3)] → va_P D vwCl (jW cB N q σ) H → va_D A (jW cB N q σ) → va_S A s.heap H locs → k28 a1 a2 a3 σ = some ρ → W p l e (rm_jj_readString) s m args below meth c H locs 0 0 (MQ below (cQ D (gTy cB cI cJ) A (jW cB N q ρ.2) (some (.int (bI ρ.1)))) args s 0 0 A) (F0 m 28 ls [])) (hl : lv_has ls 6 [(0, .ref (q 0)), (1, .int a1), (2, .int a2), (3, .int a3), (4, .int a4)]) (hP : va_P D vwCl (jW cB N q σ) H) (hD : va_D A (jW cB N q σ)) (hS : va_S A s.heap H locs) (hf : jj_readString_b120 N k28 a1 a2 a3 a4 s0 σ = some ρ) : W p l e (rm_jj_readString) s m args below meth c H locs 0 0 (MQ below (cQ D (gTy cB cI cJ) A (jW cB N q ρ.2) (some (.int (bI ρ.1)))) args s 0 0 A) (F0 m 120 ls [.int s0]) := by
  unfold jj_readString_b120 at hf
  obtain ⟨hx, hb, hml, hown, hT, hrt, hlk, hK, hA, hG, hE⟩ := id G
  refine lv_istore (lv' := [(5, .int s0), (0, .ref (q 0)), (1, .int a1), (2, .int a2), (3, .int a3), (4, .int a4)]) hx hb dX1_readString_120 hl (by decide) rfl (fun ls hl => ?_)
  refine lv_iload hx hb dX1_readString_122 (lv_at hl 0 rfl) ?_
  refine lv_if_eq (tgt := 137) hx hb dX1_readString_124 (by decide) (fun c13 => ?_) (fun c13 => ?_)
  · have hf := (if_pos c13).symm.trans hf
    refine lv_iload hx hb dX1_readString_137 (lv_at hl 5 rfl) ?_
    refine lv_bipush (v := (92 : Int32)) hx hb dX1_readString_139 (by decide) ?_
    refine lv_icmp_ne (tgt := 154) hx hb dX1_readString_141 (by decide) (fun c14 => ?_) (fun c14 => ?_)
    · have hf := (if_neg c14).symm.trans hf
      refine lv_aload_n hx hb dX1_readString_154 rfl (lv_at hl 1 rfl) ?_
      refine lv_iload hx hb dX1_readString_155 (lv_at hl 5 rfl) ?_
      obtain ⟨x15, hx15, hf⟩ := bd_some hf
      refine vJ (As := [.int a4]) (rest := []) G kX1_106 (c_jj_readPlainSign hx15) hP hD hS ⟨rfl, rfl, Nat.le_of_ble_eq_true rfl, Nat.le_of_ble_eq_true rfl⟩ ⟨Nat.zero_le _, Nat.zero_le _⟩ rfl hl.1 (Nat.le_of_ble_eq_true rfl) dX1_readString_157 (fun H locs hP hD hS => ?_)
      refine W.eq (g2 := F0 m 160 ls [.int (bI x15.1)]) rfl ?_
      refine lv_if_ne (tgt := 165) hx hb dX1_readString_160 (by decide) (fun c16 => ?_) (fun c16 => ?_)
      · have hf := (if_pos (bI_n c16)).symm.trans hf
        obtain ⟨v17, ev17⟩ : ∃ y : Int32, y = (a3 + (1 : Int32)) := ⟨_, rfl⟩
        have hf := lt_eq hf ev17
        refine lv_iinc (v := v17) (lv' := [(3, .int v17), (5, .int s0), (0, .ref (q 0)), (1, .int a1), (2, .int a2), (4, .int a4)]) hx hb dX1_readString_165 hl (k := 4) rfl (by rw [ev17]; rfl) (by decide) rfl (fun ls hl => ?_)
        refine lv_goto (tgt := 28) hx hb dX1_readString_168 (by decide) ?_
        exact W.eq (g2 := F0 m 28 ls []) rfl (hk28 _ _ _ _ _ _ _ (lv_sub hl [2, 3, 4, 0] rfl) hP hD hS hf)
      · have hf := (if_neg (bI_0 c16)).symm.trans hf
        refine lv_iconst (v := (0 : Int32)) hx hb dX1_readString_163 (by decide) ?_
        cases hf
        exact ct_iret G (bI_nar false) hP hD hS dX1_readString_164
    · have hf := (if_pos c14).symm.trans hf
      refine lv_aload_n hx hb dX1_readString_144 rfl (lv_at hl 1 rfl) ?_
      obtain ⟨x18, hx18, hf⟩ := bd_some hf
      refine vJ (As := []) (rest := []) G kX1_103 (c_jj_readLetter hx18) hP hD hS ⟨rfl, rfl, Nat.le_of_ble_eq_true rfl, Nat.le_of_ble_eq_true rfl⟩ ⟨Nat.zero_le _, Nat.zero_le _⟩ rfl hl.1 (Nat.le_of_ble_eq_true rfl) dX1_readString_145 (fun H locs hP hD hS => ?_)
      refine W.eq (g2 := F0 m 148 ls [.int (bI x18.1)]) rfl ?_
      refine lv_if_eq (tgt := 163) hx hb dX1_readString_148 (by decide) (fun c19 => ?_) (fun c19 => ?_)
      · have hf := (if_neg (bI_0 c19)).symm.trans hf
        refine lv_iconst (v := (0 : Int32)) hx hb dX1_readString_163 (by decide) ?_
        cases hf
        exact ct_iret G (bI_nar false) hP hD hS dX1_readString_164
      · have hf := (if_pos (bI_n c19)).symm.trans hf
        refine lv_goto (tgt := 165) hx hb dX1_readString_151 (by decide) ?_
        obtain ⟨v20, ev20⟩ : ∃ y : Int32, y = (a3 + (1 : Int32)) := ⟨_, rfl⟩
        have hf := lt_eq hf ev20
        refine lv_iinc (v := v20) (lv' := [(3, .int v20), (5, .int s0), (0, .ref (q 0)), (1, .int a1), (2, .int a2), (4, .int a4)]) hx hb dX1_readString_165 hl (k := 4) rfl (by rw [ev20]; rfl) (by decide) rfl (fun ls hl => ?_)
        refine lv_goto (tgt := 28) hx hb dX1_readString_168 (by decide) ?_
        exact W.eq (g2 := F0 m 28 ls []) rfl (hk28 _ _ _ _ _ _ _ (lv_sub hl [2, 3, 4, 0] rfl) hP hD hS hf)
  · have hf := (if_neg c13).symm.trans hf
    refine lv_aload_n hx hb dX1_readString_127 rfl (lv_at hl 1 rfl) ?_
    obtain ⟨x21, hx21, hf⟩ := bd_some hf
    refine vJ (As := []) (rest := []) G kX1_100 (c_jj_readNumberedSign hx21) hP hD hS ⟨rfl, rfl, Nat.le_of_ble_eq_true rfl, Nat.le_of_ble_eq_true rfl⟩ ⟨Nat.zero_le _, Nat.zero_le _⟩ rfl hl.1 (Nat.le_of_ble_eq_true rfl) dX1_readString_128 (fun H locs hP hD hS => ?_)
    refine W.eq (g2 := F0 m 131 ls [.int (bI x21.1)]) rfl ?_
    refine lv_if_eq (tgt := 163) hx hb dX1_readString_131 (by decide) (fun c22 => ?_) (fun c22 => ?_)
    · have hf := (if_neg (bI_0 c22)).symm.trans hf
      refine lv_iconst (v := (0 : Int32)) hx hb dX1_readString_163 (by decide) ?_
      cases hf
      exact ct_iret G (bI_nar false) hP hD hS dX1_readString_164
    · have hf := (if_pos (bI_n c22)).symm.trans hf
      refine lv_goto (tgt := 165) hx hb dX1_readString_134 (by decide) ?_
      obtain ⟨v23, ev23⟩ : ∃ y : Int32, y = (a3 + (1 : Int32)) := ⟨_, rfl⟩
      have hf := lt_eq hf ev23
      refine lv_iinc (v := v23) (lv' := [(3, .int v23), (5, .int s0), (0, .ref (q 0)), (1, .int a1), (2, .int a2), (4, .int a4)]) hx hb dX1_readString_165 hl (k := 4) rfl (by rw [ev23]; rfl) (by decide) rfl (fun ls hl => ?_)
      refine lv_goto (tgt := 28) hx hb dX1_readString_168 (by decide) ?_
      exact W.eq (g2 := F0 m 28 ls []) rfl (hk28 _ _ _ _ _ _ _ (lv_sub hl [2, 3, 4, 0] rfl) hP hD hS hf)
set_option maxHeartbeats 4000000 in
set_option maxRecDepth 100000 in
theorem jj_readString_t28 {p : Program} {l : Launch} {e : Env} {s : State} {m : MethodId} {args : Array Value} {below : List Frame} {meth : Method} {c : Code} {D : va_G} {aK aV : Nat → Nat} {A : Nat → Prop} {cB cI cJ : ClassId} {q : Nat → Nat} {N : Nat} {H : Heap} {locs : List Loc} {ls : Array Slot} {ρ : Bool × JSt} {k28 : Int32 → Int32 → Int32 → JSt → Option (Bool × JSt)} {a1 : Int32} {a2 : Int32} {a3 : Int32} {σ : JSt} (G : CX p s m args meth c D (gTy cB cI cJ) aK aV A RX1 cX1_readString 6 (some .boolean)) (hk28 : ∀ (a1 : Int32) (a2 : Int32) (a3 : Int32) (σ : JSt) (H : Heap) (locs : List Loc) (ls : Array Slot), lv_has ls 6 [(0, .ref (q 0)), (1, .int a1), (2, .int a2), (3, .int a3)] → va_P D vwCl (jW cB N q σ) H → va_D A (jW cB N q σ) → va_S A s.heap H locs → k28 a1 a2 a3 σ = some ρ → W p l e (rm_jj_readString) s m args below meth c H locs 0 0 (MQ below (cQ D (gTy cB cI cJ) A (jW cB N q ρ.2) (some (.int (bI ρ.1)))) args s 0 0 A) (F0 m 28 ls [])) (hl : lv_has ls 6 [(0, .ref (q 0)), (1, .int a1), (2, .int a2), (3, .int a3)]) (hP : va_P D vwCl (jW cB N q σ) H) (hD : va_D A (jW cB N q σ)) (hS : va_S A s.heap H locs) (hf : jj_readString_b28 N k28 a1 a2 a3 σ = some ρ) : W p l e (rm_jj_readString) s m args below meth c H locs 0 0 (MQ below (cQ D (gTy cB cI cJ) A (jW cB N q ρ.2) (some (.int (bI ρ.1)))) args s 0 0 A) (F0 m 28 ls []) := by
  unfold jj_readString_b28 at hf
  obtain ⟨hx, hb, hml, hown, hT, hrt, hlk, hK, hA, hG, hE⟩ := id G
  refine lv_iload_n hx hb dX1_readString_28 rfl (lv_at hl 3 rfl) ?_
  refine lv_aload_n hx hb dX1_readString_29 rfl (lv_at hl 0 rfl) ?_
  refine gj_X1_tape G hP dX1_readString_30 ?_
  obtain ⟨x3, hx3, hf⟩ := bd_some hf
  refine vJ_tape (As := []) (rest := [.int a3]) (τ := x3.2) G kX1_23 rfl (c_rr_size hx3) hP hD hS ⟨rfl, rfl, Nat.le_of_ble_eq_true rfl, Nat.le_of_ble_eq_true rfl⟩ ⟨Nat.zero_le _, Nat.zero_le _⟩ rfl hl.1 (Nat.le_of_ble_eq_true rfl) dX1_readString_33 (fun H locs hP hD hS => ?_)
  refine W.eq (g2 := F0 m 36 ls [.int x3.1, .int a3]) rfl ?_
  refine lv_icmp_gt (tgt := 171) hx hb dX1_readString_36 (by decide) (fun c4 => ?_) (fun c4 => ?_)
  · have hf := (if_pos c4).symm.trans hf
    refine lv_aload_n hx hb dX1_readString_171 rfl (lv_at hl 0 rfl) ?_
    refine lv_iconst (v := (1 : Int32)) hx hb dX1_readString_172 (by decide) ?_
    refine lv_aload_n hx hb dX1_readString_173 rfl (lv_at hl 0 rfl) ?_
    refine gj_X1_place (v := (jf_place σ)) G hP dX1_readString_174 (jG_place_tape _ _) ?_
    obtain ⟨x5, hx5, hf⟩ := bd_some hf
    refine uJ (As := [.int (1 : Int32), .int (jf_place σ)]) (rest := []) G kX1_29 (c_jj_refuse hx5) hP hD hS ⟨rfl, rfl, Nat.le_of_ble_eq_true rfl, Nat.le_of_ble_eq_true rfl⟩ ⟨Nat.zero_le _, Nat.zero_le _⟩ rfl hl.1 (Nat.le_of_ble_eq_true rfl) dX1_readString_177 (fun H locs hP hD hS => ?_)
    refine W.eq (g2 := F0 m 180 ls [.int (bI x5.1)]) rfl ?_
    cases hf
    exact ct_iret G (bI_nar x5.1) hP hD hS dX1_readString_180
  · have hf := (if_neg c4).symm.trans hf
    refine lv_aload_n hx hb dX1_readString_39 rfl (lv_at hl 0 rfl) ?_
    refine gj_X1_tape G hP dX1_readString_40 ?_
    refine lv_aload_n hx hb dX1_readString_43 rfl (lv_at hl 0 rfl) ?_
    refine gj_X1_place (v := (jf_place σ)) G hP dX1_readString_44 (jG_place_tape _ _) ?_
    obtain ⟨x6, hx6, hf⟩ := bd_some hf
    refine vJ_tape (As := [.int (jf_place σ)]) (rest := []) (τ := x6.2) G kX1_33 (jG_tape_tape _ _) (c_rr_at hx6) hP hD hS ⟨rfl, rfl, Nat.le_of_ble_eq_true rfl, Nat.le_of_ble_eq_true rfl⟩ ⟨Nat.zero_le _, Nat.zero_le _⟩ rfl hl.1 (Nat.le_of_ble_eq_true rfl) dX1_readString_47 (fun H locs hP hD hS => ?_)
    refine W.eq (g2 := F0 m 50 ls [.int x6.1]) rfl ?_
    refine lv_istore (lv' := [(4, .int x6.1), (0, .ref (q 0)), (1, .int a1), (2, .int a2), (3, .int a3)]) hx hb dX1_readString_50 hl (by decide) rfl (fun ls hl => ?_)
    refine lv_iload hx hb dX1_readString_52 (lv_at hl 0 rfl) ?_
    refine lv_bipush (v := (34 : Int32)) hx hb dX1_readString_54 (by decide) ?_
    refine lv_icmp_ne (tgt := 90) hx hb dX1_readString_56 (by decide) (fun c7 => ?_) (fun c7 => ?_)
    · have hf := (if_neg c7).symm.trans hf
      refine lv_iload hx hb dX1_readString_90 (lv_at hl 0 rfl) ?_
      refine lv_bipush (v := (92 : Int32)) hx hb dX1_readString_92 (by decide) ?_
      refine lv_icmp_ne (tgt := 119) hx hb dX1_readString_94 (by decide) (fun c8 => ?_) (fun c8 => ?_)
      · have hf := (if_neg c8).symm.trans hf
        refine lv_iconst (v := (0 : Int32)) hx hb dX1_readString_119 (by decide) ?_
        exact W.eq (g2 := F0 m 120 ls [.int (0 : Int32)]) rfl (jj_readString_t120 G hk28 (lv_sub hl [1, 2, 3, 4, 0] rfl) hP hD hS hf)
      · have hf := (if_pos c8).symm.trans hf
        refine lv_aload_n hx hb dX1_readString_97 rfl (lv_at hl 1 rfl) ?_
        refine gj_X1_tape G hP dX1_readString_98 ?_
        refine lv_aload_n hx hb dX1_readString_101 rfl (lv_at hl 1 rfl) ?_
        refine gj_X1_place (v := (jf_place σ)) G hP dX1_readString_102 (Eq.trans (jG_place_tape _ _) (jG_place_tape _ _)) ?_
        refine lv_iconst (v := (1 : Int32)) hx hb dX1_readString_105 (by decide) ?_
        refine lv_iadd hx hb dX1_readString_106 ?_
        obtain ⟨x9, hx9, hf⟩ := bd_some hf
        refine vJ_tape (As := [.int ((jf_place σ) + (1 : Int32))]) (rest := []) (τ := x9.2) G kX1_33 (jG_tape_tape _ _) (c_rr_at hx9) hP hD hS ⟨rfl, rfl, Nat.le_of_ble_eq_true rfl, Nat.le_of_ble_eq_true rfl⟩ ⟨Nat.zero_le _, Nat.zero_le _⟩ rfl hl.1 (Nat.le_of_ble_eq_true rfl) dX1_readString_107 (fun H locs hP hD hS => ?_)
        refine W.eq (g2 := F0 m 110 ls [.int x9.1]) rfl ?_
        refine lv_bipush (v := (117 : Int32)) hx hb dX1_readString_110 (by decide) ?_
        refine lv_icmp_ne (tgt := 119) hx hb dX1_readString_112 (by decide) (fun c10 => ?_) (fun c10 => ?_)
        · have hf := (if_neg c10).symm.trans hf
          refine lv_iconst (v := (0 : Int32)) hx hb dX1_readString_119 (by decide) ?_
          exact W.eq (g2 := F0 m 120 ls [.int (0 : Int32)]) rfl (jj_readString_t120 G hk28 (lv_sub hl [1, 2, 3, 4, 0] rfl) hP hD hS hf)
        · have hf := (if_pos c10).symm.trans hf
          refine lv_iconst (v := (1 : Int32)) hx hb dX1_readString_115 (by decide) ?_
          refine lv_goto (tgt := 120) hx hb dX1_readString_116 (by decide) ?_
          exact W.eq (g2 := F0 m 120 ls [.int (1 : Int32)]) rfl (jj_readString_t120 G hk28 (lv_sub hl [1, 2, 3, 4, 0] rfl) hP hD hS hf)
    · have hf := (if_pos c7).symm.trans hf
      refine lv_aload_n hx hb dX1_readString_59 rfl (lv_at hl 1 rfl) ?_
      refine lv_dup hx hb dX1_readString_60 rfl ?_
      refine gj_X1_place (v := (jf_place σ)) G hP dX1_readString_61 (Eq.trans (jG_place_tape _ _) (jG_place_tape _ _)) ?_
      refine lv_iconst (v := (1 : Int32)) hx hb dX1_readString_64 (by decide) ?_
      refine lv_iadd hx hb dX1_readString_65 ?_
      refine pj_X1_place (v := ((jf_place σ) + (1 : Int32))) G hP hD hS dX1_readString_66 (fun H locs hP hD hS => ?_)
      refine lv_aload_n hx hb dX1_readString_69 rfl (lv_at hl 1 rfl) ?_
      refine gj_X1_target G hP dX1_readString_70 ?_
      refine lv_iload_n hx hb dX1_readString_73 rfl (lv_at hl 2 rfl) ?_
      refine lv_iconst (v := (3 : Int32)) hx hb dX1_readString_74 (by decide) ?_
      refine lv_aload_n hx hb dX1_readString_75 rfl (lv_at hl 1 rfl) ?_
      refine gj_X1_target G hP dX1_readString_76 ?_
      obtain ⟨x11, hx11, hf⟩ := bd_some hf
      refine vJ_target (As := []) (rest := [.int (3 : Int32), .int a1, .ref (q 3)]) (τ := x11.2) G kX1_23 (Eq.trans (jG_target_place _ _) (Eq.trans (jG_target_tape _ _) (jG_target_tape _ _))) (c_rr_size hx11) hP hD hS ⟨rfl, rfl, Nat.le_of_ble_eq_true rfl, Nat.le_of_ble_eq_true rfl⟩ ⟨Nat.zero_le _, Nat.zero_le _⟩ rfl hl.1 (Nat.le_of_ble_eq_true rfl) dX1_readString_79 (fun H locs hP hD hS => ?_)
      refine W.eq (g2 := F0 m 82 ls [.int x11.1, .int (3 : Int32), .int a1, .ref (q 3)]) rfl ?_
      refine lv_iload_n hx hb dX1_readString_82 rfl (lv_at hl 3 rfl) ?_
      refine lv_isub hx hb dX1_readString_83 ?_
      refine lv_i2l (v := (Int32.toInt64 (x11.1 - a2))) hx hb dX1_readString_84 rfl ?_
      obtain ⟨x12, hx12, hf⟩ := bd_some hf
      refine vJ_target (As := [.int a1, .int (3 : Int32), .long (Int32.toInt64 (x11.1 - a2))]) (rest := []) (τ := x12) G kX1_96 (jG_target_target _ _) (c_rr_closeHead hx12) hP hD hS ⟨rfl, rfl, Nat.le_of_ble_eq_true rfl, Nat.le_of_ble_eq_true rfl⟩ ⟨Nat.zero_le _, Nat.zero_le _⟩ rfl hl.1 (Nat.le_of_ble_eq_true rfl) dX1_readString_85 (fun H locs hP hD hS => ?_)
      refine W.eq (g2 := F0 m 88 ls []) rfl ?_
      refine lv_iconst (v := (1 : Int32)) hx hb dX1_readString_88 (by decide) ?_
      cases hf
      exact ct_iret G (bI_nar true) hP hD hS dX1_readString_89
set_option maxHeartbeats 4000000 in
set_option maxRecDepth 100000 in
theorem jj_readString_u28 {p : Program} {l : Launch} {e : Env} {s : State} {m : MethodId} {args : Array Value} {below : List Frame} {meth : Method} {c : Code} {D : va_G} {aK aV : Nat → Nat} {A : Nat → Prop} {cB cI cJ : ClassId} {q : Nat → Nat} {N : Nat} {ρ : Bool × JSt} (G : CX p s m args meth c D (gTy cB cI cJ) aK aV A RX1 cX1_readString 6 (some .boolean)) : ∀ (n : Nat) {a1 : Int32} {a2 : Int32} {a3 : Int32} {σ : JSt} {H : Heap} {locs : List Loc} {ls : Array Slot} (hl : lv_has ls 6 [(0, .ref (q 0)), (1, .int a1), (2, .int a2), (3, .int a3)]) (hP : va_P D vwCl (jW cB N q σ) H) (hD : va_D A (jW cB N q σ)) (hS : va_S A s.heap H locs) (hf : jj_readString_L28 N n a1 a2 a3 σ = some ρ), W p l e (rm_jj_readString) s m args below meth c H locs 0 0 (MQ below (cQ D (gTy cB cI cJ) A (jW cB N q ρ.2) (some (.int (bI ρ.1)))) args s 0 0 A) (F0 m 28 ls []) := by
  intro n
  induction n with
  | zero =>
    intros
    rename_i hf
    cases hf
  | succ n ih =>
    intro a1 a2 a3 σ H locs ls hl hP hD hS hf
    exact jj_readString_t28 G (fun _ _ _ _ H locs ls hl hP hD hS hf => ih hl hP hD hS hf) hl hP hD hS hf
set_option maxHeartbeats 4000000 in
set_option maxRecDepth 100000 in
theorem jj_readString_t0e {p : Program} {l : Launch} {e : Env} {s : State} {m : MethodId} {args : Array Value} {below : List Frame} {meth : Method} {c : Code} {D : va_G} {aK aV : Nat → Nat} {A : Nat → Prop} {cB cI cJ : ClassId} {q : Nat → Nat} {N : Nat} {H : Heap} {locs : List Loc} {ls : Array Slot} {ρ : Bool × JSt} {σ : JSt} (G : CX p s m args meth c D (gTy cB cI cJ) aK aV A RX1 cX1_readString 6 (some .boolean)) (hl : lv_has ls 6 [(0, .ref (q 0))]) (hP : va_P D vwCl (jW cB N q σ) H) (hD : va_D A (jW cB N q σ)) (hS : va_S A s.heap H locs) (hf : jj_readString N σ = some ρ) : W p l e (rm_jj_readString) s m args below meth c H locs 0 0 (MQ below (cQ D (gTy cB cI cJ) A (jW cB N q ρ.2) (some (.int (bI ρ.1)))) args s 0 0 A) (F0 m 0 ls []) := by
  unfold jj_readString at hf
  obtain ⟨hx, hb, hml, hown, hT, hrt, hlk, hK, hA, hG, hE⟩ := id G
  refine lv_aload_n hx hb dX1_readString_0 rfl (lv_at hl 0 rfl) ?_
  refine gj_X1_target G hP dX1_readString_1 ?_
  obtain ⟨x1, hx1, hf⟩ := bd_some hf
  refine vJ_target (As := []) (rest := []) (τ := x1.2) G kX1_84 rfl (c_rr_openHead hx1) hP hD hS ⟨rfl, rfl, Nat.le_of_ble_eq_true rfl, Nat.le_of_ble_eq_true rfl⟩ ⟨Nat.zero_le _, Nat.zero_le _⟩ rfl hl.1 (Nat.le_of_ble_eq_true rfl) dX1_readString_4 (fun H locs hP hD hS => ?_)
  refine W.eq (g2 := F0 m 7 ls [.int x1.1]) rfl ?_
  refine lv_istore_n (lv' := [(1, .int x1.1), (0, .ref (q 0))]) hx hb dX1_readString_7 rfl hl (by decide) rfl (fun ls hl => ?_)
  refine lv_aload_n hx hb dX1_readString_8 rfl (lv_at hl 1 rfl) ?_
  refine gj_X1_target G hP dX1_readString_9 ?_
  obtain ⟨x2, hx2, hf⟩ := bd_some hf
  refine vJ_target (As := []) (rest := []) (τ := x2.2) G kX1_23 (jG_target_target _ _) (c_rr_size hx2) hP hD hS ⟨rfl, rfl, Nat.le_of_ble_eq_true rfl, Nat.le_of_ble_eq_true rfl⟩ ⟨Nat.zero_le _, Nat.zero_le _⟩ rfl hl.1 (Nat.le_of_ble_eq_true rfl) dX1_readString_12 (fun H locs hP hD hS => ?_)
  refine W.eq (g2 := F0 m 15 ls [.int x2.1]) rfl ?_
  refine lv_istore_n (lv' := [(2, .int x2.1), (1, .int x1.1), (0, .ref (q 0))]) hx hb dX1_readString_15 rfl hl (by decide) rfl (fun ls hl => ?_)
  refine lv_aload_n hx hb dX1_readString_16 rfl (lv_at hl 2 rfl) ?_
  refine lv_dup hx hb dX1_readString_17 rfl ?_
  refine gj_X1_place (v := (jf_place σ)) G hP dX1_readString_18 (Eq.trans (jG_place_target _ _) (jG_place_target _ _)) ?_
  refine lv_iconst (v := (1 : Int32)) hx hb dX1_readString_21 (by decide) ?_
  refine lv_iadd hx hb dX1_readString_22 ?_
  refine pj_X1_place (v := ((jf_place σ) + (1 : Int32))) G hP hD hS dX1_readString_23 (fun H locs hP hD hS => ?_)
  refine lv_iconst (v := (0 : Int32)) hx hb dX1_readString_26 (by decide) ?_
  refine lv_istore_n (lv' := [(3, .int (0 : Int32)), (2, .int x2.1), (1, .int x1.1), (0, .ref (q 0))]) hx hb dX1_readString_27 rfl hl (by decide) rfl (fun ls hl => ?_)
  exact W.eq (g2 := F0 m 28 ls []) rfl (jj_readString_u28 G FU (lv_sub hl [3, 2, 1, 0] rfl) hP hD hS hf)
set_option maxHeartbeats 4000000 in
set_option maxRecDepth 100000 in
theorem c_jj_readString {l : Launch} {D : va_G} {aK aV : Nat → Nat} {cB cI cJ : ClassId} {q : Nat → Nat} {N : Nat} {ρ : Bool × JSt} {σ : JSt} (hf : jj_readString N σ = some ρ) : CT l D (gTy cB cI cJ) aK aV yX1_readString (wM yX1_readString cX1_readString 6 (some .boolean)) (rm_jj_readString) 0 0 [.ref (q 0)] (jW cB N q σ) (some (.int (bI ρ.1))) (jW cB N q ρ.2) := by
  refine CT.of (by decide) rfl ?_
  intro p e s m below meth c A G hnm hP hD hS
  have hl := lv_entry [.ref (q 0)] (n := 6) (Nat.le_of_ble_eq_true rfl)
  rw [lg_entry_eq]
  generalize (lg_sl [.ref (q 0)] ++ List.replicate (6 - (lg_sl [.ref (q 0)]).length) Slot.unset).toArray = ls at hl ⊢
  exact jj_readString_t0e G hl hP hD hS hf
def jj_readKey (N : Nat) (σ : JSt) : Option (Bool × JSt) := bd (jj_skipBlanks N  σ) (fun (x1 : JSt) => bd (rr_at 4000 (jf_place x1) (jf_tape x1)) (fun (x2 : Int32 × RSt) => (if x2.1 = (34 : Int32) then bd (jj_readString N  (js_tape x1 x2.2)) (fun (x4 : Bool × JSt) => (if x4.1 = true then bd (jj_skipBlanks N  x4.2) (fun (x6 : JSt) => bd (rr_at 4000 (jf_place x6) (jf_tape x6)) (fun (x7 : Int32 × RSt) => (if x7.1 = (58 : Int32) then some (true, (js_place (js_tape x6 x7.2) ((jf_place x6) + (1 : Int32)))) else bd (jj_refuse N (1 : Int32) (jf_place x6) (js_tape x6 x7.2)) (fun (x9 : Bool × JSt) => some (x9.1, x9.2))))) else some (false, x4.2))) else bd (jj_refuse N (1 : Int32) (jf_place x1) (js_tape x1 x2.2)) (fun (x10 : Bool × JSt) => some (x10.1, x10.2)))))
abbrev rm_jj_readKey : Room := { frames := 4, cells := 0, slots := 0, locals := 143 }
set_option maxHeartbeats 4000000 in
set_option maxRecDepth 100000 in
theorem jj_readKey_t0e {p : Program} {l : Launch} {e : Env} {s : State} {m : MethodId} {args : Array Value} {below : List Frame} {meth : Method} {c : Code} {D : va_G} {aK aV : Nat → Nat} {A : Nat → Prop} {cB cI cJ : ClassId} {q : Nat → Nat} {N : Nat} {H : Heap} {locs : List Loc} {ls : Array Slot} {ρ : Bool × JSt} {σ : JSt} (G : CX p s m args meth c D (gTy cB cI cJ) aK aV A RX1 cX1_readKey 1 (some .boolean)) (hl : lv_has ls 1 [(0, .ref (q 0))]) (hP : va_P D vwCl (jW cB N q σ) H) (hD : va_D A (jW cB N q σ)) (hS : va_S A s.heap H locs) (hf : jj_readKey N σ = some ρ) : W p l e (rm_jj_readKey) s m args below meth c H locs 0 0 (MQ below (cQ D (gTy cB cI cJ) A (jW cB N q ρ.2) (some (.int (bI ρ.1)))) args s 0 0 A) (F0 m 0 ls []) := by
  unfold jj_readKey at hf
  obtain ⟨hx, hb, hml, hown, hT, hrt, hlk, hK, hA, hG, hE⟩ := id G
  refine lv_aload_n hx hb dX1_readKey_0 rfl (lv_at hl 0 rfl) ?_
  obtain ⟨x1, hx1, hf⟩ := bd_some hf
  refine vJ (As := []) (rest := []) G kX1_9 (c_jj_skipBlanks hx1) hP hD hS ⟨rfl, rfl, Nat.le_of_ble_eq_true rfl, Nat.le_of_ble_eq_true rfl⟩ ⟨Nat.zero_le _, Nat.zero_le _⟩ rfl hl.1 (Nat.le_of_ble_eq_true rfl) dX1_readKey_1 (fun H locs hP hD hS => ?_)
  refine W.eq (g2 := F0 m 4 ls []) rfl ?_
  refine lv_aload_n hx hb dX1_readKey_4 rfl (lv_at hl 0 rfl) ?_
  refine gj_X1_tape G hP dX1_readKey_5 ?_
  refine lv_aload_n hx hb dX1_readKey_8 rfl (lv_at hl 0 rfl) ?_
  refine gj_X1_place (v := (jf_place x1)) G hP dX1_readKey_9 rfl ?_
  obtain ⟨x2, hx2, hf⟩ := bd_some hf
  refine vJ_tape (As := [.int (jf_place x1)]) (rest := []) (τ := x2.2) G kX1_33 rfl (c_rr_at hx2) hP hD hS ⟨rfl, rfl, Nat.le_of_ble_eq_true rfl, Nat.le_of_ble_eq_true rfl⟩ ⟨Nat.zero_le _, Nat.zero_le _⟩ rfl hl.1 (Nat.le_of_ble_eq_true rfl) dX1_readKey_12 (fun H locs hP hD hS => ?_)
  refine W.eq (g2 := F0 m 15 ls [.int x2.1]) rfl ?_
  refine lv_bipush (v := (34 : Int32)) hx hb dX1_readKey_15 (by decide) ?_
  refine lv_icmp_eq (tgt := 30) hx hb dX1_readKey_17 (by decide) (fun c3 => ?_) (fun c3 => ?_)
  · have hf := (if_pos c3).symm.trans hf
    refine lv_aload_n hx hb dX1_readKey_30 rfl (lv_at hl 0 rfl) ?_
    obtain ⟨x4, hx4, hf⟩ := bd_some hf
    refine vJ (As := []) (rest := []) G kX1_37 (c_jj_readString hx4) hP hD hS ⟨rfl, rfl, Nat.le_of_ble_eq_true rfl, Nat.le_of_ble_eq_true rfl⟩ ⟨Nat.zero_le _, Nat.zero_le _⟩ rfl hl.1 (Nat.le_of_ble_eq_true rfl) dX1_readKey_31 (fun H locs hP hD hS => ?_)
    refine W.eq (g2 := F0 m 34 ls [.int (bI x4.1)]) rfl ?_
    refine lv_if_ne (tgt := 39) hx hb dX1_readKey_34 (by decide) (fun c5 => ?_) (fun c5 => ?_)
    · have hf := (if_pos (bI_n c5)).symm.trans hf
      refine lv_aload_n hx hb dX1_readKey_39 rfl (lv_at hl 0 rfl) ?_
      obtain ⟨x6, hx6, hf⟩ := bd_some hf
      refine vJ (As := []) (rest := []) G kX1_9 (c_jj_skipBlanks hx6) hP hD hS ⟨rfl, rfl, Nat.le_of_ble_eq_true rfl, Nat.le_of_ble_eq_true rfl⟩ ⟨Nat.zero_le _, Nat.zero_le _⟩ rfl hl.1 (Nat.le_of_ble_eq_true rfl) dX1_readKey_40 (fun H locs hP hD hS => ?_)
      refine W.eq (g2 := F0 m 43 ls []) rfl ?_
      refine lv_aload_n hx hb dX1_readKey_43 rfl (lv_at hl 0 rfl) ?_
      refine gj_X1_tape G hP dX1_readKey_44 ?_
      refine lv_aload_n hx hb dX1_readKey_47 rfl (lv_at hl 0 rfl) ?_
      refine gj_X1_place (v := (jf_place x6)) G hP dX1_readKey_48 rfl ?_
      obtain ⟨x7, hx7, hf⟩ := bd_some hf
      refine vJ_tape (As := [.int (jf_place x6)]) (rest := []) (τ := x7.2) G kX1_33 rfl (c_rr_at hx7) hP hD hS ⟨rfl, rfl, Nat.le_of_ble_eq_true rfl, Nat.le_of_ble_eq_true rfl⟩ ⟨Nat.zero_le _, Nat.zero_le _⟩ rfl hl.1 (Nat.le_of_ble_eq_true rfl) dX1_readKey_51 (fun H locs hP hD hS => ?_)
      refine W.eq (g2 := F0 m 54 ls [.int x7.1]) rfl ?_
      refine lv_bipush (v := (58 : Int32)) hx hb dX1_readKey_54 (by decide) ?_
      refine lv_icmp_eq (tgt := 69) hx hb dX1_readKey_56 (by decide) (fun c8 => ?_) (fun c8 => ?_)
      · have hf := (if_pos c8).symm.trans hf
        refine lv_aload_n hx hb dX1_readKey_69 rfl (lv_at hl 0 rfl) ?_
        refine lv_dup hx hb dX1_readKey_70 rfl ?_
        refine gj_X1_place (v := (jf_place x6)) G hP dX1_readKey_71 (jG_place_tape _ _) ?_
        refine lv_iconst (v := (1 : Int32)) hx hb dX1_readKey_74 (by decide) ?_
        refine lv_iadd hx hb dX1_readKey_75 ?_
        refine pj_X1_place (v := ((jf_place x6) + (1 : Int32))) G hP hD hS dX1_readKey_76 (fun H locs hP hD hS => ?_)
        refine lv_iconst (v := (1 : Int32)) hx hb dX1_readKey_79 (by decide) ?_
        cases hf
        exact ct_iret G (bI_nar true) hP hD hS dX1_readKey_80
      · have hf := (if_neg c8).symm.trans hf
        refine lv_aload_n hx hb dX1_readKey_59 rfl (lv_at hl 0 rfl) ?_
        refine lv_iconst (v := (1 : Int32)) hx hb dX1_readKey_60 (by decide) ?_
        refine lv_aload_n hx hb dX1_readKey_61 rfl (lv_at hl 0 rfl) ?_
        refine gj_X1_place (v := (jf_place x6)) G hP dX1_readKey_62 (jG_place_tape _ _) ?_
        obtain ⟨x9, hx9, hf⟩ := bd_some hf
        refine uJ (As := [.int (1 : Int32), .int (jf_place x6)]) (rest := []) G kX1_29 (c_jj_refuse hx9) hP hD hS ⟨rfl, rfl, Nat.le_of_ble_eq_true rfl, Nat.le_of_ble_eq_true rfl⟩ ⟨Nat.zero_le _, Nat.zero_le _⟩ rfl hl.1 (Nat.le_of_ble_eq_true rfl) dX1_readKey_65 (fun H locs hP hD hS => ?_)
        refine W.eq (g2 := F0 m 68 ls [.int (bI x9.1)]) rfl ?_
        cases hf
        exact ct_iret G (bI_nar x9.1) hP hD hS dX1_readKey_68
    · have hf := (if_neg (bI_0 c5)).symm.trans hf
      refine lv_iconst (v := (0 : Int32)) hx hb dX1_readKey_37 (by decide) ?_
      cases hf
      exact ct_iret G (bI_nar false) hP hD hS dX1_readKey_38
  · have hf := (if_neg c3).symm.trans hf
    refine lv_aload_n hx hb dX1_readKey_20 rfl (lv_at hl 0 rfl) ?_
    refine lv_iconst (v := (1 : Int32)) hx hb dX1_readKey_21 (by decide) ?_
    refine lv_aload_n hx hb dX1_readKey_22 rfl (lv_at hl 0 rfl) ?_
    refine gj_X1_place (v := (jf_place x1)) G hP dX1_readKey_23 (jG_place_tape _ _) ?_
    obtain ⟨x10, hx10, hf⟩ := bd_some hf
    refine uJ (As := [.int (1 : Int32), .int (jf_place x1)]) (rest := []) G kX1_29 (c_jj_refuse hx10) hP hD hS ⟨rfl, rfl, Nat.le_of_ble_eq_true rfl, Nat.le_of_ble_eq_true rfl⟩ ⟨Nat.zero_le _, Nat.zero_le _⟩ rfl hl.1 (Nat.le_of_ble_eq_true rfl) dX1_readKey_26 (fun H locs hP hD hS => ?_)
    refine W.eq (g2 := F0 m 29 ls [.int (bI x10.1)]) rfl ?_
    cases hf
    exact ct_iret G (bI_nar x10.1) hP hD hS dX1_readKey_29
set_option maxHeartbeats 4000000 in
set_option maxRecDepth 100000 in
theorem c_jj_readKey {l : Launch} {D : va_G} {aK aV : Nat → Nat} {cB cI cJ : ClassId} {q : Nat → Nat} {N : Nat} {ρ : Bool × JSt} {σ : JSt} (hf : jj_readKey N σ = some ρ) : CT l D (gTy cB cI cJ) aK aV yX1_readKey (wM yX1_readKey cX1_readKey 1 (some .boolean)) (rm_jj_readKey) 0 0 [.ref (q 0)] (jW cB N q σ) (some (.int (bI ρ.1))) (jW cB N q ρ.2) := by
  refine CT.of (by decide) rfl ?_
  intro p e s m below meth c A G hnm hP hD hS
  have hl := lv_entry [.ref (q 0)] (n := 1) (Nat.le_of_ble_eq_true rfl)
  rw [lg_entry_eq]
  generalize (lg_sl [.ref (q 0)] ++ List.replicate (1 - (lg_sl [.ref (q 0)]).length) Slot.unset).toArray = ls at hl ⊢
  exact jj_readKey_t0e G hl hP hD hS hf
def jj_readDigits_b45 (N : Nat) (a1 : Int32) (σ : JSt) : Option (Bool × JSt) := (if a1 < (jf_place σ) then some (true, σ) else bd (jj_refuse N (1 : Int32) (jf_place σ) σ) (fun (x8 : Bool × JSt) => (if x8.1 = true then some (true, x8.2) else some (false, x8.2))))
def jj_readDigits_b7 (N : Nat) (k7 : Int32 → Int32 → JSt → Option (Bool × JSt)) (a1 : Int32) (a2 : Int32) (σ : JSt) : Option (Bool × JSt) := bd (rr_size 4000  (jf_tape σ)) (fun (x2 : Int32 × RSt) => (if x2.1 ≤ a2 then jj_readDigits_b45 N a1 (js_tape σ x2.2) else bd (rr_at 4000 a2 x2.2) (fun (x4 : Int32 × RSt) => (if (eX1_isDigit x4.1) = true then lt (a2 + (1 : Int32)) (fun (v6 : Int32) => k7 a1 v6 (js_place (js_tape (js_tape σ x2.2) x4.2) (a2 + (1 : Int32)))) else jj_readDigits_b45 N a1 (js_tape (js_tape σ x2.2) x4.2)))))
def jj_readDigits_L7 (N : Nat) : Nat → Int32 → Int32 → JSt → Option (Bool × JSt)
  | 0, _, _, _ => none
  | n + 1, a1, a2, σ => jj_readDigits_b7 N (jj_readDigits_L7 N n) a1 a2 σ
def jj_readDigits (N : Nat) (σ : JSt) : Option (Bool × JSt) := lt (jf_place σ) (fun (v1 : Int32) => jj_readDigits_L7 N FU v1 v1 σ)
abbrev rm_jj_readDigits : Room := { frames := 1, cells := 0, slots := 0, locals := 22 }
set_option maxHeartbeats 4000000 in
set_option maxRecDepth 100000 in
theorem jj_readDigits_t45 {p : Program} {l : Launch} {e : Env} {s : State} {m : MethodId} {args : Array Value} {below : List Frame} {meth : Method} {c : Code} {D : va_G} {aK aV : Nat → Nat} {A : Nat → Prop} {cB cI cJ : ClassId} {q : Nat → Nat} {N : Nat} {H : Heap} {locs : List Loc} {ls : Array Slot} {ρ : Bool × JSt} {a1 : Int32} {σ : JSt} (G : CX p s m args meth c D (gTy cB cI cJ) aK aV A RX1 cX1_readDigits 3 (some .boolean)) (hl : lv_has ls 3 [(0, .ref (q 0)), (1, .int a1)]) (hP : va_P D vwCl (jW cB N q σ) H) (hD : va_D A (jW cB N q σ)) (hS : va_S A s.heap H locs) (hf : jj_readDigits_b45 N a1 σ = some ρ) : W p l e (rm_jj_readDigits) s m args below meth c H locs 0 0 (MQ below (cQ D (gTy cB cI cJ) A (jW cB N q ρ.2) (some (.int (bI ρ.1)))) args s 0 0 A) (F0 m 45 ls []) := by
  unfold jj_readDigits_b45 at hf
  obtain ⟨hx, hb, hml, hown, hT, hrt, hlk, hK, hA, hG, hE⟩ := id G
  refine lv_aload_n hx hb dX1_readDigits_45 rfl (lv_at hl 0 rfl) ?_
  refine gj_X1_place (v := (jf_place σ)) G hP dX1_readDigits_46 rfl ?_
  refine lv_iload_n hx hb dX1_readDigits_49 rfl (lv_at hl 1 rfl) ?_
  refine lv_icmp_gt (tgt := 65) hx hb dX1_readDigits_50 (by decide) (fun c7 => ?_) (fun c7 => ?_)
  · have hf := (if_pos c7).symm.trans hf
    refine lv_iconst (v := (1 : Int32)) hx hb dX1_readDigits_65 (by decide) ?_
    refine lv_goto (tgt := 70) hx hb dX1_readDigits_66 (by decide) ?_
    cases hf
    exact ct_iret G (bI_nar true) hP hD hS dX1_readDigits_70
  · have hf := (if_neg c7).symm.trans hf
    refine lv_aload_n hx hb dX1_readDigits_53 rfl (lv_at hl 0 rfl) ?_
    refine lv_iconst (v := (1 : Int32)) hx hb dX1_readDigits_54 (by decide) ?_
    refine lv_aload_n hx hb dX1_readDigits_55 rfl (lv_at hl 0 rfl) ?_
    refine gj_X1_place (v := (jf_place σ)) G hP dX1_readDigits_56 rfl ?_
    obtain ⟨x8, hx8, hf⟩ := bd_some hf
    refine uJ (As := [.int (1 : Int32), .int (jf_place σ)]) (rest := []) G kX1_29 (c_jj_refuse hx8) hP hD hS ⟨rfl, rfl, Nat.le_of_ble_eq_true rfl, Nat.le_of_ble_eq_true rfl⟩ ⟨Nat.zero_le _, Nat.zero_le _⟩ rfl hl.1 (Nat.le_of_ble_eq_true rfl) dX1_readDigits_59 (fun H locs hP hD hS => ?_)
    refine W.eq (g2 := F0 m 62 ls [.int (bI x8.1)]) rfl ?_
    refine lv_if_eq (tgt := 69) hx hb dX1_readDigits_62 (by decide) (fun c9 => ?_) (fun c9 => ?_)
    · have hf := (if_neg (bI_0 c9)).symm.trans hf
      refine lv_iconst (v := (0 : Int32)) hx hb dX1_readDigits_69 (by decide) ?_
      cases hf
      exact ct_iret G (bI_nar false) hP hD hS dX1_readDigits_70
    · have hf := (if_pos (bI_n c9)).symm.trans hf
      refine lv_iconst (v := (1 : Int32)) hx hb dX1_readDigits_65 (by decide) ?_
      refine lv_goto (tgt := 70) hx hb dX1_readDigits_66 (by decide) ?_
      cases hf
      exact ct_iret G (bI_nar true) hP hD hS dX1_readDigits_70
set_option maxHeartbeats 4000000 in
set_option maxRecDepth 100000 in
theorem jj_readDigits_t7 {p : Program} {l : Launch} {e : Env} {s : State} {m : MethodId} {args : Array Value} {below : List Frame} {meth : Method} {c : Code} {D : va_G} {aK aV : Nat → Nat} {A : Nat → Prop} {cB cI cJ : ClassId} {q : Nat → Nat} {N : Nat} {H : Heap} {locs : List Loc} {ls : Array Slot} {ρ : Bool × JSt} {k7 : Int32 → Int32 → JSt → Option (Bool × JSt)} {a1 : Int32} {a2 : Int32} {σ : JSt} (G : CX p s m args meth c D (gTy cB cI cJ) aK aV A RX1 cX1_readDigits 3 (some .boolean)) (hk7 : ∀ (a1 : Int32) (a2 : Int32) (σ : JSt) (H : Heap) (locs : List Loc) (ls : Array Slot), lv_has ls 3 [(0, .ref (q 0)), (1, .int a1), (2, .int a2)] → va_P D vwCl (jW cB N q σ) H → va_D A (jW cB N q σ) → va_S A s.heap H locs → k7 a1 a2 σ = some ρ → W p l e (rm_jj_readDigits) s m args below meth c H locs 0 0 (MQ below (cQ D (gTy cB cI cJ) A (jW cB N q ρ.2) (some (.int (bI ρ.1)))) args s 0 0 A) (F0 m 7 ls [])) (hl : lv_has ls 3 [(0, .ref (q 0)), (1, .int a1), (2, .int a2)]) (hP : va_P D vwCl (jW cB N q σ) H) (hD : va_D A (jW cB N q σ)) (hS : va_S A s.heap H locs) (hf : jj_readDigits_b7 N k7 a1 a2 σ = some ρ) : W p l e (rm_jj_readDigits) s m args below meth c H locs 0 0 (MQ below (cQ D (gTy cB cI cJ) A (jW cB N q ρ.2) (some (.int (bI ρ.1)))) args s 0 0 A) (F0 m 7 ls []) := by
  unfold jj_readDigits_b7 at hf
  obtain ⟨hx, hb, hml, hown, hT, hrt, hlk, hK, hA, hG, hE⟩ := id G
  refine lv_iload_n hx hb dX1_readDigits_7 rfl (lv_at hl 2 rfl) ?_
  refine lv_aload_n hx hb dX1_readDigits_8 rfl (lv_at hl 0 rfl) ?_
  refine gj_X1_tape G hP dX1_readDigits_9 ?_
  obtain ⟨x2, hx2, hf⟩ := bd_some hf
  refine vJ_tape (As := []) (rest := [.int a2]) (τ := x2.2) G kX1_23 rfl (c_rr_size hx2) hP hD hS ⟨rfl, rfl, Nat.le_of_ble_eq_true rfl, Nat.le_of_ble_eq_true rfl⟩ ⟨Nat.zero_le _, Nat.zero_le _⟩ rfl hl.1 (Nat.le_of_ble_eq_true rfl) dX1_readDigits_12 (fun H locs hP hD hS => ?_)
  refine W.eq (g2 := F0 m 15 ls [.int x2.1, .int a2]) rfl ?_
  refine lv_icmp_ge (tgt := 45) hx hb dX1_readDigits_15 (by decide) (fun c3 => ?_) (fun c3 => ?_)
  · have hf := (if_pos c3).symm.trans hf
    exact W.eq (g2 := F0 m 45 ls []) rfl (jj_readDigits_t45 G (lv_sub hl [0, 1] rfl) hP hD hS hf)
  · have hf := (if_neg c3).symm.trans hf
    refine lv_aload_n hx hb dX1_readDigits_18 rfl (lv_at hl 0 rfl) ?_
    refine gj_X1_tape G hP dX1_readDigits_19 ?_
    refine lv_iload_n hx hb dX1_readDigits_22 rfl (lv_at hl 2 rfl) ?_
    obtain ⟨x4, hx4, hf⟩ := bd_some hf
    refine vJ_tape (As := [.int a2]) (rest := []) (τ := x4.2) G kX1_33 (jG_tape_tape _ _) (c_rr_at hx4) hP hD hS ⟨rfl, rfl, Nat.le_of_ble_eq_true rfl, Nat.le_of_ble_eq_true rfl⟩ ⟨Nat.zero_le _, Nat.zero_le _⟩ rfl hl.1 (Nat.le_of_ble_eq_true rfl) dX1_readDigits_23 (fun H locs hP hD hS => ?_)
    refine W.eq (g2 := F0 m 26 ls [.int x4.1]) rfl ?_
    refine ct_s0 (As := [.int x4.1]) (rest := []) G kX1_55 (c_eX1_isDigit x4.1) hP hD hS ⟨rfl, rfl, Nat.le_of_ble_eq_true rfl, Nat.le_of_ble_eq_true rfl⟩ ⟨Nat.zero_le _, Nat.zero_le _⟩ rfl hl.1 (Nat.le_of_ble_eq_true rfl) dX1_readDigits_26 (fun H locs hP hS => ?_)
    refine W.eq (g2 := F0 m 29 ls [.int (bI (eX1_isDigit x4.1))]) rfl ?_
    refine lv_if_eq (tgt := 45) hx hb dX1_readDigits_29 (by decide) (fun c5 => ?_) (fun c5 => ?_)
    · have hf := (if_neg (bI_0 c5)).symm.trans hf
      exact W.eq (g2 := F0 m 45 ls []) rfl (jj_readDigits_t45 G (lv_sub hl [0, 1] rfl) hP hD hS hf)
    · have hf := (if_pos (bI_n c5)).symm.trans hf
      refine lv_aload_n hx hb dX1_readDigits_32 rfl (lv_at hl 0 rfl) ?_
      refine lv_iload_n hx hb dX1_readDigits_33 rfl (lv_at hl 2 rfl) ?_
      refine lv_iconst (v := (1 : Int32)) hx hb dX1_readDigits_34 (by decide) ?_
      refine lv_iadd hx hb dX1_readDigits_35 ?_
      refine pj_X1_place (v := (a2 + (1 : Int32))) G hP hD hS dX1_readDigits_36 (fun H locs hP hD hS => ?_)
      obtain ⟨v6, ev6⟩ : ∃ y : Int32, y = (a2 + (1 : Int32)) := ⟨_, rfl⟩
      have hf := lt_eq hf ev6
      refine lv_iinc (v := v6) (lv' := [(2, .int v6), (0, .ref (q 0)), (1, .int a1)]) hx hb dX1_readDigits_39 hl (k := 2) rfl (by rw [ev6]; rfl) (by decide) rfl (fun ls hl => ?_)
      refine lv_goto (tgt := 7) hx hb dX1_readDigits_42 (by decide) ?_
      exact W.eq (g2 := F0 m 7 ls []) rfl (hk7 _ _ _ _ _ _ (lv_sub hl [1, 2, 0] rfl) hP hD hS hf)
set_option maxHeartbeats 4000000 in
set_option maxRecDepth 100000 in
theorem jj_readDigits_u7 {p : Program} {l : Launch} {e : Env} {s : State} {m : MethodId} {args : Array Value} {below : List Frame} {meth : Method} {c : Code} {D : va_G} {aK aV : Nat → Nat} {A : Nat → Prop} {cB cI cJ : ClassId} {q : Nat → Nat} {N : Nat} {ρ : Bool × JSt} (G : CX p s m args meth c D (gTy cB cI cJ) aK aV A RX1 cX1_readDigits 3 (some .boolean)) : ∀ (n : Nat) {a1 : Int32} {a2 : Int32} {σ : JSt} {H : Heap} {locs : List Loc} {ls : Array Slot} (hl : lv_has ls 3 [(0, .ref (q 0)), (1, .int a1), (2, .int a2)]) (hP : va_P D vwCl (jW cB N q σ) H) (hD : va_D A (jW cB N q σ)) (hS : va_S A s.heap H locs) (hf : jj_readDigits_L7 N n a1 a2 σ = some ρ), W p l e (rm_jj_readDigits) s m args below meth c H locs 0 0 (MQ below (cQ D (gTy cB cI cJ) A (jW cB N q ρ.2) (some (.int (bI ρ.1)))) args s 0 0 A) (F0 m 7 ls []) := by
  intro n
  induction n with
  | zero =>
    intros
    rename_i hf
    cases hf
  | succ n ih =>
    intro a1 a2 σ H locs ls hl hP hD hS hf
    exact jj_readDigits_t7 G (fun _ _ _ H locs ls hl hP hD hS hf => ih hl hP hD hS hf) hl hP hD hS hf
set_option maxHeartbeats 4000000 in
set_option maxRecDepth 100000 in
theorem jj_readDigits_t0e {p : Program} {l : Launch} {e : Env} {s : State} {m : MethodId} {args : Array Value} {below : List Frame} {meth : Method} {c : Code} {D : va_G} {aK aV : Nat → Nat} {A : Nat → Prop} {cB cI cJ : ClassId} {q : Nat → Nat} {N : Nat} {H : Heap} {locs : List Loc} {ls : Array Slot} {ρ : Bool × JSt} {σ : JSt} (G : CX p s m args meth c D (gTy cB cI cJ) aK aV A RX1 cX1_readDigits 3 (some .boolean)) (hl : lv_has ls 3 [(0, .ref (q 0))]) (hP : va_P D vwCl (jW cB N q σ) H) (hD : va_D A (jW cB N q σ)) (hS : va_S A s.heap H locs) (hf : jj_readDigits N σ = some ρ) : W p l e (rm_jj_readDigits) s m args below meth c H locs 0 0 (MQ below (cQ D (gTy cB cI cJ) A (jW cB N q ρ.2) (some (.int (bI ρ.1)))) args s 0 0 A) (F0 m 0 ls []) := by
  unfold jj_readDigits at hf
  obtain ⟨hx, hb, hml, hown, hT, hrt, hlk, hK, hA, hG, hE⟩ := id G
  refine lv_aload_n hx hb dX1_readDigits_0 rfl (lv_at hl 0 rfl) ?_
  refine gj_X1_place (v := (jf_place σ)) G hP dX1_readDigits_1 rfl ?_
  refine lv_topi (fun v1 ev1 => ?_)
  have hf := lt_eq hf ev1
  refine lv_istore_n (lv' := [(1, .int v1), (0, .ref (q 0))]) hx hb dX1_readDigits_4 rfl hl (by decide) rfl (fun ls hl => ?_)
  refine lv_iload_n hx hb dX1_readDigits_5 rfl (lv_at hl 0 rfl) ?_
  refine lv_istore_n (lv' := [(2, .int v1), (1, .int v1), (0, .ref (q 0))]) hx hb dX1_readDigits_6 rfl hl (by decide) rfl (fun ls hl => ?_)
  exact W.eq (g2 := F0 m 7 ls []) rfl (jj_readDigits_u7 G FU (lv_sub hl [2, 1, 0] rfl) hP hD hS hf)
set_option maxHeartbeats 4000000 in
set_option maxRecDepth 100000 in
theorem c_jj_readDigits {l : Launch} {D : va_G} {aK aV : Nat → Nat} {cB cI cJ : ClassId} {q : Nat → Nat} {N : Nat} {ρ : Bool × JSt} {σ : JSt} (hf : jj_readDigits N σ = some ρ) : CT l D (gTy cB cI cJ) aK aV yX1_readDigits (wM yX1_readDigits cX1_readDigits 3 (some .boolean)) (rm_jj_readDigits) 0 0 [.ref (q 0)] (jW cB N q σ) (some (.int (bI ρ.1))) (jW cB N q ρ.2) := by
  refine CT.of (by decide) rfl ?_
  intro p e s m below meth c A G hnm hP hD hS
  have hl := lv_entry [.ref (q 0)] (n := 3) (Nat.le_of_ble_eq_true rfl)
  rw [lg_entry_eq]
  generalize (lg_sl [.ref (q 0)] ++ List.replicate (3 - (lg_sl [.ref (q 0)]).length) Slot.unset).toArray = ls at hl ⊢
  exact jj_readDigits_t0e G hl hP hD hS hf
def jj_readFraction (N : Nat) (σ : JSt) : Option (Bool × JSt) := bd (rr_at 4000 (jf_place σ) (jf_tape σ)) (fun (x1 : Int32 × RSt) => (if x1.1 = (46 : Int32) then bd (jj_readDigits N  (js_place (js_tape σ x1.2) ((jf_place σ) + (1 : Int32)))) (fun (x3 : Bool × JSt) => some (x3.1, x3.2)) else some (true, (js_tape σ x1.2))))
abbrev rm_jj_readFraction : Room := { frames := 2, cells := 0, slots := 0, locals := 44 }
set_option maxHeartbeats 4000000 in
set_option maxRecDepth 100000 in
theorem jj_readFraction_t0e {p : Program} {l : Launch} {e : Env} {s : State} {m : MethodId} {args : Array Value} {below : List Frame} {meth : Method} {c : Code} {D : va_G} {aK aV : Nat → Nat} {A : Nat → Prop} {cB cI cJ : ClassId} {q : Nat → Nat} {N : Nat} {H : Heap} {locs : List Loc} {ls : Array Slot} {ρ : Bool × JSt} {σ : JSt} (G : CX p s m args meth c D (gTy cB cI cJ) aK aV A RX1 cX1_readFraction 1 (some .boolean)) (hl : lv_has ls 1 [(0, .ref (q 0))]) (hP : va_P D vwCl (jW cB N q σ) H) (hD : va_D A (jW cB N q σ)) (hS : va_S A s.heap H locs) (hf : jj_readFraction N σ = some ρ) : W p l e (rm_jj_readFraction) s m args below meth c H locs 0 0 (MQ below (cQ D (gTy cB cI cJ) A (jW cB N q ρ.2) (some (.int (bI ρ.1)))) args s 0 0 A) (F0 m 0 ls []) := by
  unfold jj_readFraction at hf
  obtain ⟨hx, hb, hml, hown, hT, hrt, hlk, hK, hA, hG, hE⟩ := id G
  refine lv_aload_n hx hb dX1_readFraction_0 rfl (lv_at hl 0 rfl) ?_
  refine gj_X1_tape G hP dX1_readFraction_1 ?_
  refine lv_aload_n hx hb dX1_readFraction_4 rfl (lv_at hl 0 rfl) ?_
  refine gj_X1_place (v := (jf_place σ)) G hP dX1_readFraction_5 rfl ?_
  obtain ⟨x1, hx1, hf⟩ := bd_some hf
  refine vJ_tape (As := [.int (jf_place σ)]) (rest := []) (τ := x1.2) G kX1_33 rfl (c_rr_at hx1) hP hD hS ⟨rfl, rfl, Nat.le_of_ble_eq_true rfl, Nat.le_of_ble_eq_true rfl⟩ ⟨Nat.zero_le _, Nat.zero_le _⟩ rfl hl.1 (Nat.le_of_ble_eq_true rfl) dX1_readFraction_8 (fun H locs hP hD hS => ?_)
  refine W.eq (g2 := F0 m 11 ls [.int x1.1]) rfl ?_
  refine lv_bipush (v := (46 : Int32)) hx hb dX1_readFraction_11 (by decide) ?_
  refine lv_icmp_eq (tgt := 18) hx hb dX1_readFraction_13 (by decide) (fun c2 => ?_) (fun c2 => ?_)
  · have hf := (if_pos c2).symm.trans hf
    refine lv_aload_n hx hb dX1_readFraction_18 rfl (lv_at hl 0 rfl) ?_
    refine lv_dup hx hb dX1_readFraction_19 rfl ?_
    refine gj_X1_place (v := (jf_place σ)) G hP dX1_readFraction_20 (jG_place_tape _ _) ?_
    refine lv_iconst (v := (1 : Int32)) hx hb dX1_readFraction_23 (by decide) ?_
    refine lv_iadd hx hb dX1_readFraction_24 ?_
    refine pj_X1_place (v := ((jf_place σ) + (1 : Int32))) G hP hD hS dX1_readFraction_25 (fun H locs hP hD hS => ?_)
    refine lv_aload_n hx hb dX1_readFraction_28 rfl (lv_at hl 0 rfl) ?_
    obtain ⟨x3, hx3, hf⟩ := bd_some hf
    refine vJ (As := []) (rest := []) G kX1_139 (c_jj_readDigits hx3) hP hD hS ⟨rfl, rfl, Nat.le_of_ble_eq_true rfl, Nat.le_of_ble_eq_true rfl⟩ ⟨Nat.zero_le _, Nat.zero_le _⟩ rfl hl.1 (Nat.le_of_ble_eq_true rfl) dX1_readFraction_29 (fun H locs hP hD hS => ?_)
    refine W.eq (g2 := F0 m 32 ls [.int (bI x3.1)]) rfl ?_
    cases hf
    exact ct_iret G (bI_nar x3.1) hP hD hS dX1_readFraction_32
  · have hf := (if_neg c2).symm.trans hf
    refine lv_iconst (v := (1 : Int32)) hx hb dX1_readFraction_16 (by decide) ?_
    cases hf
    exact ct_iret G (bI_nar true) hP hD hS dX1_readFraction_17
set_option maxHeartbeats 4000000 in
set_option maxRecDepth 100000 in
theorem c_jj_readFraction {l : Launch} {D : va_G} {aK aV : Nat → Nat} {cB cI cJ : ClassId} {q : Nat → Nat} {N : Nat} {ρ : Bool × JSt} {σ : JSt} (hf : jj_readFraction N σ = some ρ) : CT l D (gTy cB cI cJ) aK aV yX1_readFraction (wM yX1_readFraction cX1_readFraction 1 (some .boolean)) (rm_jj_readFraction) 0 0 [.ref (q 0)] (jW cB N q σ) (some (.int (bI ρ.1))) (jW cB N q ρ.2) := by
  refine CT.of (by decide) rfl ?_
  intro p e s m below meth c A G hnm hP hD hS
  have hl := lv_entry [.ref (q 0)] (n := 1) (Nat.le_of_ble_eq_true rfl)
  rw [lg_entry_eq]
  generalize (lg_sl [.ref (q 0)] ++ List.replicate (1 - (lg_sl [.ref (q 0)]).length) Slot.unset).toArray = ls at hl ⊢
  exact jj_readFraction_t0e G hl hP hD hS hf
def jj_readExponent_b86 (N : Nat) (σ : JSt) : Option (Bool × JSt) := bd (jj_readDigits N  σ) (fun (x9 : Bool × JSt) => some (x9.1, x9.2))
def jj_readExponent_b76 (N : Nat) (σ : JSt) : Option (Bool × JSt) := jj_readExponent_b86 N  (js_place σ ((jf_place σ) + (1 : Int32)))
def jj_readExponent_b34 (N : Nat) (σ : JSt) : Option (Bool × JSt) := bd (rr_at 4000 ((jf_place σ) + (1 : Int32)) (jf_tape σ)) (fun (x5 : Int32 × RSt) => (if x5.1 = (43 : Int32) then jj_readExponent_b76 N  (js_tape (js_place σ ((jf_place σ) + (1 : Int32))) x5.2) else bd (rr_at 4000 ((jf_place σ) + (1 : Int32)) x5.2) (fun (x7 : Int32 × RSt) => (if x7.1 = (45 : Int32) then jj_readExponent_b76 N  (js_tape (js_tape (js_place σ ((jf_place σ) + (1 : Int32))) x5.2) x7.2) else jj_readExponent_b86 N  (js_tape (js_tape (js_place σ ((jf_place σ) + (1 : Int32))) x5.2) x7.2)))))
def jj_readExponent (N : Nat) (σ : JSt) : Option (Bool × JSt) := bd (rr_at 4000 (jf_place σ) (jf_tape σ)) (fun (x1 : Int32 × RSt) => (if x1.1 = (101 : Int32) then jj_readExponent_b34 N  (js_tape σ x1.2) else bd (rr_at 4000 (jf_place σ) x1.2) (fun (x3 : Int32 × RSt) => (if x3.1 = (69 : Int32) then jj_readExponent_b34 N  (js_tape (js_tape σ x1.2) x3.2) else some (true, (js_tape (js_tape σ x1.2) x3.2))))))
abbrev rm_jj_readExponent : Room := { frames := 2, cells := 0, slots := 0, locals := 44 }
set_option maxHeartbeats 4000000 in
set_option maxRecDepth 100000 in
theorem jj_readExponent_t86 {p : Program} {l : Launch} {e : Env} {s : State} {m : MethodId} {args : Array Value} {below : List Frame} {meth : Method} {c : Code} {D : va_G} {aK aV : Nat → Nat} {A : Nat → Prop} {cB cI cJ : ClassId} {q : Nat → Nat} {N : Nat} {H : Heap} {locs : List Loc} {ls : Array Slot} {ρ : Bool × JSt} {σ : JSt} (G : CX p s m args meth c D (gTy cB cI cJ) aK aV A RX1 cX1_readExponent 1 (some .boolean)) (hl : lv_has ls 1 [(0, .ref (q 0))]) (hP : va_P D vwCl (jW cB N q σ) H) (hD : va_D A (jW cB N q σ)) (hS : va_S A s.heap H locs) (hf : jj_readExponent_b86 N σ = some ρ) : W p l e (rm_jj_readExponent) s m args below meth c H locs 0 0 (MQ below (cQ D (gTy cB cI cJ) A (jW cB N q ρ.2) (some (.int (bI ρ.1)))) args s 0 0 A) (F0 m 86 ls []) := by
  unfold jj_readExponent_b86 at hf
  obtain ⟨hx, hb, hml, hown, hT, hrt, hlk, hK, hA, hG, hE⟩ := id G
  refine lv_aload_n hx hb dX1_readExponent_86 rfl (lv_at hl 0 rfl) ?_
  obtain ⟨x9, hx9, hf⟩ := bd_some hf
  refine vJ (As := []) (rest := []) G kX1_139 (c_jj_readDigits hx9) hP hD hS ⟨rfl, rfl, Nat.le_of_ble_eq_true rfl, Nat.le_of_ble_eq_true rfl⟩ ⟨Nat.zero_le _, Nat.zero_le _⟩ rfl hl.1 (Nat.le_of_ble_eq_true rfl) dX1_readExponent_87 (fun H locs hP hD hS => ?_)
  refine W.eq (g2 := F0 m 90 ls [.int (bI x9.1)]) rfl ?_
  cases hf
  exact ct_iret G (bI_nar x9.1) hP hD hS dX1_readExponent_90
set_option maxHeartbeats 4000000 in
set_option maxRecDepth 100000 in
theorem jj_readExponent_t76 {p : Program} {l : Launch} {e : Env} {s : State} {m : MethodId} {args : Array Value} {below : List Frame} {meth : Method} {c : Code} {D : va_G} {aK aV : Nat → Nat} {A : Nat → Prop} {cB cI cJ : ClassId} {q : Nat → Nat} {N : Nat} {H : Heap} {locs : List Loc} {ls : Array Slot} {ρ : Bool × JSt} {σ : JSt} (G : CX p s m args meth c D (gTy cB cI cJ) aK aV A RX1 cX1_readExponent 1 (some .boolean)) (hl : lv_has ls 1 [(0, .ref (q 0))]) (hP : va_P D vwCl (jW cB N q σ) H) (hD : va_D A (jW cB N q σ)) (hS : va_S A s.heap H locs) (hf : jj_readExponent_b76 N σ = some ρ) : W p l e (rm_jj_readExponent) s m args below meth c H locs 0 0 (MQ below (cQ D (gTy cB cI cJ) A (jW cB N q ρ.2) (some (.int (bI ρ.1)))) args s 0 0 A) (F0 m 76 ls []) := by
  unfold jj_readExponent_b76 at hf
  obtain ⟨hx, hb, hml, hown, hT, hrt, hlk, hK, hA, hG, hE⟩ := id G
  refine lv_aload_n hx hb dX1_readExponent_76 rfl (lv_at hl 0 rfl) ?_
  refine lv_dup hx hb dX1_readExponent_77 rfl ?_
  refine gj_X1_place (v := (jf_place σ)) G hP dX1_readExponent_78 rfl ?_
  refine lv_iconst (v := (1 : Int32)) hx hb dX1_readExponent_81 (by decide) ?_
  refine lv_iadd hx hb dX1_readExponent_82 ?_
  refine pj_X1_place (v := ((jf_place σ) + (1 : Int32))) G hP hD hS dX1_readExponent_83 (fun H locs hP hD hS => ?_)
  exact W.eq (g2 := F0 m 86 ls []) rfl (jj_readExponent_t86 G (lv_sub hl [0] rfl) hP hD hS hf)
set_option maxHeartbeats 4000000 in
set_option maxRecDepth 100000 in
theorem jj_readExponent_t34 {p : Program} {l : Launch} {e : Env} {s : State} {m : MethodId} {args : Array Value} {below : List Frame} {meth : Method} {c : Code} {D : va_G} {aK aV : Nat → Nat} {A : Nat → Prop} {cB cI cJ : ClassId} {q : Nat → Nat} {N : Nat} {H : Heap} {locs : List Loc} {ls : Array Slot} {ρ : Bool × JSt} {σ : JSt} (G : CX p s m args meth c D (gTy cB cI cJ) aK aV A RX1 cX1_readExponent 1 (some .boolean)) (hl : lv_has ls 1 [(0, .ref (q 0))]) (hP : va_P D vwCl (jW cB N q σ) H) (hD : va_D A (jW cB N q σ)) (hS : va_S A s.heap H locs) (hf : jj_readExponent_b34 N σ = some ρ) : W p l e (rm_jj_readExponent) s m args below meth c H locs 0 0 (MQ below (cQ D (gTy cB cI cJ) A (jW cB N q ρ.2) (some (.int (bI ρ.1)))) args s 0 0 A) (F0 m 34 ls []) := by
  unfold jj_readExponent_b34 at hf
  obtain ⟨hx, hb, hml, hown, hT, hrt, hlk, hK, hA, hG, hE⟩ := id G
  refine lv_aload_n hx hb dX1_readExponent_34 rfl (lv_at hl 0 rfl) ?_
  refine lv_dup hx hb dX1_readExponent_35 rfl ?_
  refine gj_X1_place (v := (jf_place σ)) G hP dX1_readExponent_36 rfl ?_
  refine lv_iconst (v := (1 : Int32)) hx hb dX1_readExponent_39 (by decide) ?_
  refine lv_iadd hx hb dX1_readExponent_40 ?_
  refine pj_X1_place (v := ((jf_place σ) + (1 : Int32))) G hP hD hS dX1_readExponent_41 (fun H locs hP hD hS => ?_)
  refine lv_aload_n hx hb dX1_readExponent_44 rfl (lv_at hl 0 rfl) ?_
  refine gj_X1_tape G hP dX1_readExponent_45 ?_
  refine lv_aload_n hx hb dX1_readExponent_48 rfl (lv_at hl 0 rfl) ?_
  refine gj_X1_place (v := ((jf_place σ) + (1 : Int32))) G hP dX1_readExponent_49 (jG_place_place _ _) ?_
  obtain ⟨x5, hx5, hf⟩ := bd_some hf
  refine vJ_tape (As := [.int ((jf_place σ) + (1 : Int32))]) (rest := []) (τ := x5.2) G kX1_33 (jG_tape_place _ _) (c_rr_at hx5) hP hD hS ⟨rfl, rfl, Nat.le_of_ble_eq_true rfl, Nat.le_of_ble_eq_true rfl⟩ ⟨Nat.zero_le _, Nat.zero_le _⟩ rfl hl.1 (Nat.le_of_ble_eq_true rfl) dX1_readExponent_52 (fun H locs hP hD hS => ?_)
  refine W.eq (g2 := F0 m 55 ls [.int x5.1]) rfl ?_
  refine lv_bipush (v := (43 : Int32)) hx hb dX1_readExponent_55 (by decide) ?_
  refine lv_icmp_eq (tgt := 76) hx hb dX1_readExponent_57 (by decide) (fun c6 => ?_) (fun c6 => ?_)
  · have hf := (if_pos c6).symm.trans hf
    exact W.eq (g2 := F0 m 76 ls []) rfl (jj_readExponent_t76 G (lv_sub hl [0] rfl) hP hD hS hf)
  · have hf := (if_neg c6).symm.trans hf
    refine lv_aload_n hx hb dX1_readExponent_60 rfl (lv_at hl 0 rfl) ?_
    refine gj_X1_tape G hP dX1_readExponent_61 ?_
    refine lv_aload_n hx hb dX1_readExponent_64 rfl (lv_at hl 0 rfl) ?_
    refine gj_X1_place (v := ((jf_place σ) + (1 : Int32))) G hP dX1_readExponent_65 (Eq.trans (jG_place_tape _ _) (jG_place_place _ _)) ?_
    obtain ⟨x7, hx7, hf⟩ := bd_some hf
    refine vJ_tape (As := [.int ((jf_place σ) + (1 : Int32))]) (rest := []) (τ := x7.2) G kX1_33 (jG_tape_tape _ _) (c_rr_at hx7) hP hD hS ⟨rfl, rfl, Nat.le_of_ble_eq_true rfl, Nat.le_of_ble_eq_true rfl⟩ ⟨Nat.zero_le _, Nat.zero_le _⟩ rfl hl.1 (Nat.le_of_ble_eq_true rfl) dX1_readExponent_68 (fun H locs hP hD hS => ?_)
    refine W.eq (g2 := F0 m 71 ls [.int x7.1]) rfl ?_
    refine lv_bipush (v := (45 : Int32)) hx hb dX1_readExponent_71 (by decide) ?_
    refine lv_icmp_ne (tgt := 86) hx hb dX1_readExponent_73 (by decide) (fun c8 => ?_) (fun c8 => ?_)
    · have hf := (if_neg c8).symm.trans hf
      exact W.eq (g2 := F0 m 86 ls []) rfl (jj_readExponent_t86 G (lv_sub hl [0] rfl) hP hD hS hf)
    · have hf := (if_pos c8).symm.trans hf
      exact W.eq (g2 := F0 m 76 ls []) rfl (jj_readExponent_t76 G (lv_sub hl [0] rfl) hP hD hS hf)
set_option maxHeartbeats 4000000 in
set_option maxRecDepth 100000 in
theorem jj_readExponent_t0e {p : Program} {l : Launch} {e : Env} {s : State} {m : MethodId} {args : Array Value} {below : List Frame} {meth : Method} {c : Code} {D : va_G} {aK aV : Nat → Nat} {A : Nat → Prop} {cB cI cJ : ClassId} {q : Nat → Nat} {N : Nat} {H : Heap} {locs : List Loc} {ls : Array Slot} {ρ : Bool × JSt} {σ : JSt} (G : CX p s m args meth c D (gTy cB cI cJ) aK aV A RX1 cX1_readExponent 1 (some .boolean)) (hl : lv_has ls 1 [(0, .ref (q 0))]) (hP : va_P D vwCl (jW cB N q σ) H) (hD : va_D A (jW cB N q σ)) (hS : va_S A s.heap H locs) (hf : jj_readExponent N σ = some ρ) : W p l e (rm_jj_readExponent) s m args below meth c H locs 0 0 (MQ below (cQ D (gTy cB cI cJ) A (jW cB N q ρ.2) (some (.int (bI ρ.1)))) args s 0 0 A) (F0 m 0 ls []) := by
  unfold jj_readExponent at hf
  obtain ⟨hx, hb, hml, hown, hT, hrt, hlk, hK, hA, hG, hE⟩ := id G
  refine lv_aload_n hx hb dX1_readExponent_0 rfl (lv_at hl 0 rfl) ?_
  refine gj_X1_tape G hP dX1_readExponent_1 ?_
  refine lv_aload_n hx hb dX1_readExponent_4 rfl (lv_at hl 0 rfl) ?_
  refine gj_X1_place (v := (jf_place σ)) G hP dX1_readExponent_5 rfl ?_
  obtain ⟨x1, hx1, hf⟩ := bd_some hf
  refine vJ_tape (As := [.int (jf_place σ)]) (rest := []) (τ := x1.2) G kX1_33 rfl (c_rr_at hx1) hP hD hS ⟨rfl, rfl, Nat.le_of_ble_eq_true rfl, Nat.le_of_ble_eq_true rfl⟩ ⟨Nat.zero_le _, Nat.zero_le _⟩ rfl hl.1 (Nat.le_of_ble_eq_true rfl) dX1_readExponent_8 (fun H locs hP hD hS => ?_)
  refine W.eq (g2 := F0 m 11 ls [.int x1.1]) rfl ?_
  refine lv_bipush (v := (101 : Int32)) hx hb dX1_readExponent_11 (by decide) ?_
  refine lv_icmp_eq (tgt := 34) hx hb dX1_readExponent_13 (by decide) (fun c2 => ?_) (fun c2 => ?_)
  · have hf := (if_pos c2).symm.trans hf
    exact W.eq (g2 := F0 m 34 ls []) rfl (jj_readExponent_t34 G (lv_sub hl [0] rfl) hP hD hS hf)
  · have hf := (if_neg c2).symm.trans hf
    refine lv_aload_n hx hb dX1_readExponent_16 rfl (lv_at hl 0 rfl) ?_
    refine gj_X1_tape G hP dX1_readExponent_17 ?_
    refine lv_aload_n hx hb dX1_readExponent_20 rfl (lv_at hl 0 rfl) ?_
    refine gj_X1_place (v := (jf_place σ)) G hP dX1_readExponent_21 (jG_place_tape _ _) ?_
    obtain ⟨x3, hx3, hf⟩ := bd_some hf
    refine vJ_tape (As := [.int (jf_place σ)]) (rest := []) (τ := x3.2) G kX1_33 (jG_tape_tape _ _) (c_rr_at hx3) hP hD hS ⟨rfl, rfl, Nat.le_of_ble_eq_true rfl, Nat.le_of_ble_eq_true rfl⟩ ⟨Nat.zero_le _, Nat.zero_le _⟩ rfl hl.1 (Nat.le_of_ble_eq_true rfl) dX1_readExponent_24 (fun H locs hP hD hS => ?_)
    refine W.eq (g2 := F0 m 27 ls [.int x3.1]) rfl ?_
    refine lv_bipush (v := (69 : Int32)) hx hb dX1_readExponent_27 (by decide) ?_
    refine lv_icmp_eq (tgt := 34) hx hb dX1_readExponent_29 (by decide) (fun c4 => ?_) (fun c4 => ?_)
    · have hf := (if_pos c4).symm.trans hf
      exact W.eq (g2 := F0 m 34 ls []) rfl (jj_readExponent_t34 G (lv_sub hl [0] rfl) hP hD hS hf)
    · have hf := (if_neg c4).symm.trans hf
      refine lv_iconst (v := (1 : Int32)) hx hb dX1_readExponent_32 (by decide) ?_
      cases hf
      exact ct_iret G (bI_nar true) hP hD hS dX1_readExponent_33
set_option maxHeartbeats 4000000 in
set_option maxRecDepth 100000 in
theorem c_jj_readExponent {l : Launch} {D : va_G} {aK aV : Nat → Nat} {cB cI cJ : ClassId} {q : Nat → Nat} {N : Nat} {ρ : Bool × JSt} {σ : JSt} (hf : jj_readExponent N σ = some ρ) : CT l D (gTy cB cI cJ) aK aV yX1_readExponent (wM yX1_readExponent cX1_readExponent 1 (some .boolean)) (rm_jj_readExponent) 0 0 [.ref (q 0)] (jW cB N q σ) (some (.int (bI ρ.1))) (jW cB N q ρ.2) := by
  refine CT.of (by decide) rfl ?_
  intro p e s m below meth c A G hnm hP hD hS
  have hl := lv_entry [.ref (q 0)] (n := 1) (Nat.le_of_ble_eq_true rfl)
  rw [lg_entry_eq]
  generalize (lg_sl [.ref (q 0)] ++ List.replicate (1 - (lg_sl [.ref (q 0)]).length) Slot.unset).toArray = ls at hl ⊢
  exact jj_readExponent_t0e G hl hP hD hS hf
def jj_putWhole_b93 (N : Nat) (a4 : Int64) (σ : JSt) : Option (Bool × JSt) := bd (rr_putHead N (0 : Int32) a4 (jf_target σ)) (fun (x11 : RSt) => some (true, (js_target σ x11)))
def jj_putWhole_b6 (N : Nat) (k6 : Int32 → Int32 → Int32 → Int64 → Int32 → JSt → Option (Bool × JSt)) (a1 : Int32) (a2 : Int32) (a3 : Int32) (a4 : Int64) (a6 : Int32) (σ : JSt) : Option (Bool × JSt) := (if a2 ≤ a6 then (if a3 = 0 then jj_putWhole_b93 N a4 σ else bd (rr_at 4000 a1 (jf_tape σ)) (fun (x3 : Int32 × RSt) => (if x3.1 = (48 : Int32) then jj_putWhole_b93 N a4 (js_tape σ x3.2) else bd (rr_putHead N (1 : Int32) (a4 - (1 : Int64)) (jf_target σ)) (fun (x5 : RSt) => some (true, (js_target (js_tape σ x3.2) x5)))))) else bd (rr_at 4000 a6 (jf_tape σ)) (fun (x6 : Int32 × RSt) => lt (x6.1 - (48 : Int32)) (fun (v7 : Int32) => (if (eX1_isBeyond a4 (a6 - a1) v7 a3) = true then some (false, (js_tape σ x6.2)) else lt ((a4 * (10 : Int64)) + (Int32.toInt64 v7)) (fun (v9 : Int64) => lt (a6 + (1 : Int32)) (fun (v10 : Int32) => k6 a1 a2 a3 v9 v10 (js_tape σ x6.2)))))))
def jj_putWhole_L6 (N : Nat) : Nat → Int32 → Int32 → Int32 → Int64 → Int32 → JSt → Option (Bool × JSt)
  | 0, _, _, _, _, _, _ => none
  | n + 1, a1, a2, a3, a4, a6, σ => jj_putWhole_b6 N (jj_putWhole_L6 N n) a1 a2 a3 a4 a6 σ
def jj_putWhole (N : Nat) (p0 : Int32) (p1 : Int32) (p2 : Int32) (σ : JSt) : Option (Bool × JSt) := jj_putWhole_L6 N FU p0 p1 p2 (0 : Int64) p0 σ
abbrev rm_jj_putWhole : Room := { frames := 4, cells := 0, slots := 0, locals := 141 }
set_option maxHeartbeats 4000000 in
set_option maxRecDepth 100000 in
theorem jj_putWhole_t93 {p : Program} {l : Launch} {e : Env} {s : State} {m : MethodId} {args : Array Value} {below : List Frame} {meth : Method} {c : Code} {D : va_G} {aK aV : Nat → Nat} {A : Nat → Prop} {cB cI cJ : ClassId} {q : Nat → Nat} {N : Nat} {H : Heap} {locs : List Loc} {ls : Array Slot} {ρ : Bool × JSt} {a4 : Int64} {σ : JSt} (G : CX p s m args meth c D (gTy cB cI cJ) aK aV A RX1 cX1_putWhole 8 (some .boolean)) (hl : lv_has ls 8 [(0, .ref (q 0)), (4, .long a4)]) (hP : va_P D vwCl (jW cB N q σ) H) (hD : va_D A (jW cB N q σ)) (hS : va_S A s.heap H locs) (hf : jj_putWhole_b93 N a4 σ = some ρ) : W p l e (rm_jj_putWhole) s m args below meth c H locs 0 0 (MQ below (cQ D (gTy cB cI cJ) A (jW cB N q ρ.2) (some (.int (bI ρ.1)))) args s 0 0 A) (F0 m 93 ls []) := by
  unfold jj_putWhole_b93 at hf
  obtain ⟨hx, hb, hml, hown, hT, hrt, hlk, hK, hA, hG, hE⟩ := id G
  refine lv_aload_n hx hb dX1_putWhole_93 rfl (lv_at hl 0 rfl) ?_
  refine gj_X1_target G hP dX1_putWhole_94 ?_
  refine lv_iconst (v := (0 : Int32)) hx hb dX1_putWhole_97 (by decide) ?_
  refine lv_lload hx hb dX1_putWhole_98 (lv_at hl 1 rfl) ?_
  obtain ⟨x11, hx11, hf⟩ := bd_some hf
  refine vJ_target (As := [.int (0 : Int32), .long a4]) (rest := []) (τ := x11) G kX1_77 rfl (c_rr_putHead hx11) hP hD hS ⟨rfl, rfl, Nat.le_of_ble_eq_true rfl, Nat.le_of_ble_eq_true rfl⟩ ⟨Nat.zero_le _, Nat.zero_le _⟩ rfl hl.1 (Nat.le_of_ble_eq_true rfl) dX1_putWhole_100 (fun H locs hP hD hS => ?_)
  refine W.eq (g2 := F0 m 103 ls []) rfl ?_
  refine lv_iconst (v := (1 : Int32)) hx hb dX1_putWhole_103 (by decide) ?_
  cases hf
  exact ct_iret G (bI_nar true) hP hD hS dX1_putWhole_104
set_option maxHeartbeats 4000000 in
set_option maxRecDepth 100000 in
theorem jj_putWhole_t6 {p : Program} {l : Launch} {e : Env} {s : State} {m : MethodId} {args : Array Value} {below : List Frame} {meth : Method} {c : Code} {D : va_G} {aK aV : Nat → Nat} {A : Nat → Prop} {cB cI cJ : ClassId} {q : Nat → Nat} {N : Nat} {H : Heap} {locs : List Loc} {ls : Array Slot} {ρ : Bool × JSt} {k6 : Int32 → Int32 → Int32 → Int64 → Int32 → JSt → Option (Bool × JSt)} {a1 : Int32} {a2 : Int32} {a3 : Int32} {a4 : Int64} {a6 : Int32} {σ : JSt} (G : CX p s m args meth c D (gTy cB cI cJ) aK aV A RX1 cX1_putWhole 8 (some .boolean)) (hk6 : ∀ (a1 : Int32) (a2 : Int32) (a3 : Int32) (a4 : Int64) (a6 : Int32) (σ : JSt) (H : Heap) (locs : List Loc) (ls : Array Slot), lv_has ls 8 [(0, .ref (q 0)), (1, .int a1), (2, .int a2), (3, .int a3), (4, .long a4), (6, .int a6)] → va_P D vwCl (jW cB N q σ) H → va_D A (jW cB N q σ) → va_S A s.heap H locs → k6 a1 a2 a3 a4 a6 σ = some ρ → W p l e (rm_jj_putWhole) s m args below meth c H locs 0 0 (MQ below (cQ D (gTy cB cI cJ) A (jW cB N q ρ.2) (some (.int (bI ρ.1)))) args s 0 0 A) (F0 m 6 ls [])) (hl : lv_has ls 8 [(0, .ref (q 0)), (1, .int a1), (2, .int a2), (3, .int a3), (4, .long a4), (6, .int a6)]) (hP : va_P D vwCl (jW cB N q σ) H) (hD : va_D A (jW cB N q σ)) (hS : va_S A s.heap H locs) (hf : jj_putWhole_b6 N k6 a1 a2 a3 a4 a6 σ = some ρ) : W p l e (rm_jj_putWhole) s m args below meth c H locs 0 0 (MQ below (cQ D (gTy cB cI cJ) A (jW cB N q ρ.2) (some (.int (bI ρ.1)))) args s 0 0 A) (F0 m 6 ls []) := by
  unfold jj_putWhole_b6 at hf
  obtain ⟨hx, hb, hml, hown, hT, hrt, hlk, hK, hA, hG, hE⟩ := id G
  refine lv_iload hx hb dX1_putWhole_6 (lv_at hl 5 rfl) ?_
  refine lv_iload_n hx hb dX1_putWhole_8 rfl (lv_at hl 2 rfl) ?_
  refine lv_icmp_ge (tgt := 61) hx hb dX1_putWhole_9 (by decide) (fun c1 => ?_) (fun c1 => ?_)
  · have hf := (if_pos c1).symm.trans hf
    refine lv_iload_n hx hb dX1_putWhole_61 rfl (lv_at hl 3 rfl) ?_
    refine lv_if_eq (tgt := 93) hx hb dX1_putWhole_62 (by decide) (fun c2 => ?_) (fun c2 => ?_)
    · have hf := (if_pos c2).symm.trans hf
      exact W.eq (g2 := F0 m 93 ls []) rfl (jj_putWhole_t93 G (lv_sub hl [0, 4] rfl) hP hD hS hf)
    · have hf := (if_neg c2).symm.trans hf
      refine lv_aload_n hx hb dX1_putWhole_65 rfl (lv_at hl 0 rfl) ?_
      refine gj_X1_tape G hP dX1_putWhole_66 ?_
      refine lv_iload_n hx hb dX1_putWhole_69 rfl (lv_at hl 1 rfl) ?_
      obtain ⟨x3, hx3, hf⟩ := bd_some hf
      refine vJ_tape (As := [.int a1]) (rest := []) (τ := x3.2) G kX1_33 rfl (c_rr_at hx3) hP hD hS ⟨rfl, rfl, Nat.le_of_ble_eq_true rfl, Nat.le_of_ble_eq_true rfl⟩ ⟨Nat.zero_le _, Nat.zero_le _⟩ rfl hl.1 (Nat.le_of_ble_eq_true rfl) dX1_putWhole_70 (fun H locs hP hD hS => ?_)
      refine W.eq (g2 := F0 m 73 ls [.int x3.1]) rfl ?_
      refine lv_bipush (v := (48 : Int32)) hx hb dX1_putWhole_73 (by decide) ?_
      refine lv_icmp_eq (tgt := 93) hx hb dX1_putWhole_75 (by decide) (fun c4 => ?_) (fun c4 => ?_)
      · have hf := (if_pos c4).symm.trans hf
        exact W.eq (g2 := F0 m 93 ls []) rfl (jj_putWhole_t93 G (lv_sub hl [0, 4] rfl) hP hD hS hf)
      · have hf := (if_neg c4).symm.trans hf
        refine lv_aload_n hx hb dX1_putWhole_78 rfl (lv_at hl 0 rfl) ?_
        refine gj_X1_target G hP dX1_putWhole_79 ?_
        refine lv_iconst (v := (1 : Int32)) hx hb dX1_putWhole_82 (by decide) ?_
        refine lv_lload hx hb dX1_putWhole_83 (lv_at hl 4 rfl) ?_
        refine lv_lconst (v := (1 : Int64)) hx hb dX1_putWhole_85 (by decide) ?_
        refine lv_lsub hx hb dX1_putWhole_86 ?_
        obtain ⟨x5, hx5, hf⟩ := bd_some hf
        refine vJ_target (As := [.int (1 : Int32), .long (a4 - (1 : Int64))]) (rest := []) (τ := x5) G kX1_77 (jG_target_tape _ _) (c_rr_putHead hx5) hP hD hS ⟨rfl, rfl, Nat.le_of_ble_eq_true rfl, Nat.le_of_ble_eq_true rfl⟩ ⟨Nat.zero_le _, Nat.zero_le _⟩ rfl hl.1 (Nat.le_of_ble_eq_true rfl) dX1_putWhole_87 (fun H locs hP hD hS => ?_)
        refine W.eq (g2 := F0 m 90 ls []) rfl ?_
        refine lv_goto (tgt := 103) hx hb dX1_putWhole_90 (by decide) ?_
        refine lv_iconst (v := (1 : Int32)) hx hb dX1_putWhole_103 (by decide) ?_
        cases hf
        exact ct_iret G (bI_nar true) hP hD hS dX1_putWhole_104
  · have hf := (if_neg c1).symm.trans hf
    refine lv_aload_n hx hb dX1_putWhole_12 rfl (lv_at hl 0 rfl) ?_
    refine gj_X1_tape G hP dX1_putWhole_13 ?_
    refine lv_iload hx hb dX1_putWhole_16 (lv_at hl 5 rfl) ?_
    obtain ⟨x6, hx6, hf⟩ := bd_some hf
    refine vJ_tape (As := [.int a6]) (rest := []) (τ := x6.2) G kX1_33 rfl (c_rr_at hx6) hP hD hS ⟨rfl, rfl, Nat.le_of_ble_eq_true rfl, Nat.le_of_ble_eq_true rfl⟩ ⟨Nat.zero_le _, Nat.zero_le _⟩ rfl hl.1 (Nat.le_of_ble_eq_true rfl) dX1_putWhole_18 (fun H locs hP hD hS => ?_)
    refine W.eq (g2 := F0 m 21 ls [.int x6.1]) rfl ?_
    refine lv_bipush (v := (48 : Int32)) hx hb dX1_putWhole_21 (by decide) ?_
    refine lv_isub hx hb dX1_putWhole_23 ?_
    refine lv_topi (fun v7 ev7 => ?_)
    have hf := lt_eq hf ev7
    refine lv_istore (lv' := [(7, .int v7), (0, .ref (q 0)), (1, .int a1), (2, .int a2), (3, .int a3), (4, .long a4), (6, .int a6)]) hx hb dX1_putWhole_24 hl (by decide) rfl (fun ls hl => ?_)
    refine lv_lload hx hb dX1_putWhole_26 (lv_at hl 5 rfl) ?_
    refine lv_iload hx hb dX1_putWhole_28 (lv_at hl 6 rfl) ?_
    refine lv_iload_n hx hb dX1_putWhole_30 rfl (lv_at hl 2 rfl) ?_
    refine lv_isub hx hb dX1_putWhole_31 ?_
    refine lv_iload hx hb dX1_putWhole_32 (lv_at hl 0 rfl) ?_
    refine lv_iload_n hx hb dX1_putWhole_34 rfl (lv_at hl 4 rfl) ?_
    refine ct_s0 (As := [.long a4, .int (a6 - a1), .int v7, .int a3]) (rest := []) G kX1_152 (c_eX1_isBeyond a4 (a6 - a1) v7 a3) hP hD hS ⟨rfl, rfl, Nat.le_of_ble_eq_true rfl, Nat.le_of_ble_eq_true rfl⟩ ⟨Nat.zero_le _, Nat.zero_le _⟩ rfl hl.1 (Nat.le_of_ble_eq_true rfl) dX1_putWhole_35 (fun H locs hP hS => ?_)
    refine W.eq (g2 := F0 m 38 ls [.int (bI (eX1_isBeyond a4 (a6 - a1) v7 a3))]) rfl ?_
    refine lv_if_eq (tgt := 43) hx hb dX1_putWhole_38 (by decide) (fun c8 => ?_) (fun c8 => ?_)
    · have hf := (if_neg (bI_0 c8)).symm.trans hf
      refine lv_lload hx hb dX1_putWhole_43 (lv_at hl 5 rfl) ?_
      refine lv_ldc2 (v := (10 : Int64)) hx hb hown (hT _ wc_X1_156) dX1_putWhole_45 ?_
      refine lv_lmul hx hb dX1_putWhole_48 ?_
      refine lv_iload hx hb dX1_putWhole_49 (lv_at hl 0 rfl) ?_
      refine lv_i2l (v := (Int32.toInt64 v7)) hx hb dX1_putWhole_51 rfl ?_
      refine lv_ladd hx hb dX1_putWhole_52 ?_
      refine lv_topl (fun v9 ev9 => ?_)
      have hf := lt_eq hf ev9
      refine lv_lstore (lv' := [(4, .long v9), (7, .int v7), (0, .ref (q 0)), (1, .int a1), (2, .int a2), (3, .int a3), (6, .int a6)]) hx hb dX1_putWhole_53 hl (by decide) rfl (fun ls hl => ?_)
      obtain ⟨v10, ev10⟩ : ∃ y : Int32, y = (a6 + (1 : Int32)) := ⟨_, rfl⟩
      have hf := lt_eq hf ev10
      refine lv_iinc (v := v10) (lv' := [(6, .int v10), (4, .long v9), (7, .int v7), (0, .ref (q 0)), (1, .int a1), (2, .int a2), (3, .int a3)]) hx hb dX1_putWhole_55 hl (k := 6) rfl (by rw [ev10]; rfl) (by decide) rfl (fun ls hl => ?_)
      refine lv_goto (tgt := 6) hx hb dX1_putWhole_58 (by decide) ?_
      exact W.eq (g2 := F0 m 6 ls []) rfl (hk6 _ _ _ _ _ _ _ _ _ (lv_sub hl [3, 4, 5, 6, 1, 0] rfl) hP hD hS hf)
    · have hf := (if_pos (bI_n c8)).symm.trans hf
      refine lv_iconst (v := (0 : Int32)) hx hb dX1_putWhole_41 (by decide) ?_
      cases hf
      exact ct_iret G (bI_nar false) hP hD hS dX1_putWhole_42
set_option maxHeartbeats 4000000 in
set_option maxRecDepth 100000 in
theorem jj_putWhole_u6 {p : Program} {l : Launch} {e : Env} {s : State} {m : MethodId} {args : Array Value} {below : List Frame} {meth : Method} {c : Code} {D : va_G} {aK aV : Nat → Nat} {A : Nat → Prop} {cB cI cJ : ClassId} {q : Nat → Nat} {N : Nat} {ρ : Bool × JSt} (G : CX p s m args meth c D (gTy cB cI cJ) aK aV A RX1 cX1_putWhole 8 (some .boolean)) : ∀ (n : Nat) {a1 : Int32} {a2 : Int32} {a3 : Int32} {a4 : Int64} {a6 : Int32} {σ : JSt} {H : Heap} {locs : List Loc} {ls : Array Slot} (hl : lv_has ls 8 [(0, .ref (q 0)), (1, .int a1), (2, .int a2), (3, .int a3), (4, .long a4), (6, .int a6)]) (hP : va_P D vwCl (jW cB N q σ) H) (hD : va_D A (jW cB N q σ)) (hS : va_S A s.heap H locs) (hf : jj_putWhole_L6 N n a1 a2 a3 a4 a6 σ = some ρ), W p l e (rm_jj_putWhole) s m args below meth c H locs 0 0 (MQ below (cQ D (gTy cB cI cJ) A (jW cB N q ρ.2) (some (.int (bI ρ.1)))) args s 0 0 A) (F0 m 6 ls []) := by
  intro n
  induction n with
  | zero =>
    intros
    rename_i hf
    cases hf
  | succ n ih =>
    intro a1 a2 a3 a4 a6 σ H locs ls hl hP hD hS hf
    exact jj_putWhole_t6 G (fun _ _ _ _ _ _ H locs ls hl hP hD hS hf => ih hl hP hD hS hf) hl hP hD hS hf
set_option maxHeartbeats 4000000 in
set_option maxRecDepth 100000 in
theorem jj_putWhole_t0e {p : Program} {l : Launch} {e : Env} {s : State} {m : MethodId} {args : Array Value} {below : List Frame} {meth : Method} {c : Code} {D : va_G} {aK aV : Nat → Nat} {A : Nat → Prop} {cB cI cJ : ClassId} {q : Nat → Nat} {N : Nat} {H : Heap} {locs : List Loc} {ls : Array Slot} {ρ : Bool × JSt} {p0 : Int32} {p1 : Int32} {p2 : Int32} {σ : JSt} (G : CX p s m args meth c D (gTy cB cI cJ) aK aV A RX1 cX1_putWhole 8 (some .boolean)) (hl : lv_has ls 8 [(0, .ref (q 0)), (1, .int p0), (2, .int p1), (3, .int p2)]) (hP : va_P D vwCl (jW cB N q σ) H) (hD : va_D A (jW cB N q σ)) (hS : va_S A s.heap H locs) (hf : jj_putWhole N p0 p1 p2 σ = some ρ) : W p l e (rm_jj_putWhole) s m args below meth c H locs 0 0 (MQ below (cQ D (gTy cB cI cJ) A (jW cB N q ρ.2) (some (.int (bI ρ.1)))) args s 0 0 A) (F0 m 0 ls []) := by
  unfold jj_putWhole at hf
  obtain ⟨hx, hb, hml, hown, hT, hrt, hlk, hK, hA, hG, hE⟩ := id G
  refine lv_lconst (v := (0 : Int64)) hx hb dX1_putWhole_0 (by decide) ?_
  refine lv_lstore (lv' := [(4, .long (0 : Int64)), (0, .ref (q 0)), (1, .int p0), (2, .int p1), (3, .int p2)]) hx hb dX1_putWhole_1 hl (by decide) rfl (fun ls hl => ?_)
  refine lv_iload_n hx hb dX1_putWhole_3 rfl (lv_at hl 2 rfl) ?_
  refine lv_istore (lv' := [(6, .int p0), (4, .long (0 : Int64)), (0, .ref (q 0)), (1, .int p0), (2, .int p1), (3, .int p2)]) hx hb dX1_putWhole_4 hl (by decide) rfl (fun ls hl => ?_)
  exact W.eq (g2 := F0 m 6 ls []) rfl (jj_putWhole_u6 G FU (lv_sub hl [2, 3, 4, 5, 1, 0] rfl) hP hD hS hf)
set_option maxHeartbeats 4000000 in
set_option maxRecDepth 100000 in
theorem c_jj_putWhole {l : Launch} {D : va_G} {aK aV : Nat → Nat} {cB cI cJ : ClassId} {q : Nat → Nat} {N : Nat} {ρ : Bool × JSt} {p0 : Int32} {p1 : Int32} {p2 : Int32} {σ : JSt} (hf : jj_putWhole N p0 p1 p2 σ = some ρ) : CT l D (gTy cB cI cJ) aK aV yX1_putWhole (wM yX1_putWhole cX1_putWhole 8 (some .boolean)) (rm_jj_putWhole) 0 0 [.ref (q 0), .int p0, .int p1, .int p2] (jW cB N q σ) (some (.int (bI ρ.1))) (jW cB N q ρ.2) := by
  refine CT.of (by decide) rfl ?_
  intro p e s m below meth c A G hnm hP hD hS
  have hl := lv_entry [.ref (q 0), .int p0, .int p1, .int p2] (n := 8) (Nat.le_of_ble_eq_true rfl)
  rw [lg_entry_eq]
  generalize (lg_sl [.ref (q 0), .int p0, .int p1, .int p2] ++ List.replicate (8 - (lg_sl [.ref (q 0), .int p0, .int p1, .int p2]).length) Slot.unset).toArray = ls at hl ⊢
  exact jj_putWhole_t0e G hl hP hD hS hf
def jj_readNumber_b134 (N : Nat) (a1 : Int32) (σ : JSt) : Option (Bool × JSt) := bd (jj_refuse N (3 : Int32) a1 σ) (fun (x17 : Bool × JSt) => (if x17.1 = true then some (true, x17.2) else some (false, x17.2)))
def jj_readNumber_b128 (N : Nat) (a1 : Int32) (s0 : Int32) (s1 : Int32) (s2 : Int32) (σ : JSt) : Option (Bool × JSt) := bd (jj_putWhole N s2 s1 s0 σ) (fun (x19 : Bool × JSt) => (if x19.1 = true then some (true, x19.2) else jj_readNumber_b134 N a1 x19.2))
def jj_readNumber_b108 (N : Nat) (a1 : Int32) (a2 : Int32) (a3 : Int32) (s0 : Int32) (σ : JSt) : Option (Bool × JSt) := (if s0 = 0 then jj_readNumber_b134 N a1 σ else (if a2 ≤ a1 then jj_readNumber_b128 N a1 (0 : Int32) a3 a2 σ else jj_readNumber_b128 N a1 (1 : Int32) a3 a2 σ))
def jj_readNumber_b74 (N : Nat) (a1 : Int32) (a2 : Int32) (σ : JSt) : Option (Bool × JSt) := lt (jf_place σ) (fun (v9 : Int32) => bd (jj_readFraction N  σ) (fun (x10 : Bool × JSt) => (if x10.1 = true then bd (jj_readExponent N  x10.2) (fun (x12 : Bool × JSt) => (if x12.1 = true then (if (jf_place x12.2) = v9 then jj_readNumber_b108 N a1 a2 v9 (1 : Int32) x12.2 else jj_readNumber_b108 N a1 a2 v9 (0 : Int32) x12.2) else some (false, x12.2))) else some (false, x10.2))))
def jj_readNumber_b31 (N : Nat) (a1 : Int32) (σ : JSt) : Option (Bool × JSt) := lt (jf_place σ) (fun (v4 : Int32) => bd (rr_at 4000 (jf_place σ) (jf_tape σ)) (fun (x5 : Int32 × RSt) => (if x5.1 = (48 : Int32) then jj_readNumber_b74 N a1 v4 (js_place (js_tape σ x5.2) ((jf_place σ) + (1 : Int32))) else bd (jj_readDigits N  (js_tape σ x5.2)) (fun (x7 : Bool × JSt) => (if x7.1 = true then jj_readNumber_b74 N a1 v4 x7.2 else some (false, x7.2))))))
def jj_readNumber (N : Nat) (σ : JSt) : Option (Bool × JSt) := lt (jf_place σ) (fun (v1 : Int32) => bd (rr_at 4000 (jf_place σ) (jf_tape σ)) (fun (x2 : Int32 × RSt) => (if x2.1 = (45 : Int32) then jj_readNumber_b31 N v1 (js_place (js_tape σ x2.2) ((jf_place σ) + (1 : Int32))) else jj_readNumber_b31 N v1 (js_tape σ x2.2))))
abbrev rm_jj_readNumber : Room := { frames := 5, cells := 0, slots := 0, locals := 168 }
set_option maxHeartbeats 4000000 in
set_option maxRecDepth 100000 in
theorem jj_readNumber_t134 {p : Program} {l : Launch} {e : Env} {s : State} {m : MethodId} {args : Array Value} {below : List Frame} {meth : Method} {c : Code} {D : va_G} {aK aV : Nat → Nat} {A : Nat → Prop} {cB cI cJ : ClassId} {q : Nat → Nat} {N : Nat} {H : Heap} {locs : List Loc} {ls : Array Slot} {ρ : Bool × JSt} {a1 : Int32} {σ : JSt} (G : CX p s m args meth c D (gTy cB cI cJ) aK aV A RX1 cX1_readNumber 5 (some .boolean)) (hl : lv_has ls 5 [(0, .ref (q 0)), (1, .int a1)]) (hP : va_P D vwCl (jW cB N q σ) H) (hD : va_D A (jW cB N q σ)) (hS : va_S A s.heap H locs) (hf : jj_readNumber_b134 N a1 σ = some ρ) : W p l e (rm_jj_readNumber) s m args below meth c H locs 0 0 (MQ below (cQ D (gTy cB cI cJ) A (jW cB N q ρ.2) (some (.int (bI ρ.1)))) args s 0 0 A) (F0 m 134 ls []) := by
  unfold jj_readNumber_b134 at hf
  obtain ⟨hx, hb, hml, hown, hT, hrt, hlk, hK, hA, hG, hE⟩ := id G
  refine lv_aload_n hx hb dX1_readNumber_134 rfl (lv_at hl 0 rfl) ?_
  refine lv_iconst (v := (3 : Int32)) hx hb dX1_readNumber_135 (by decide) ?_
  refine lv_iload_n hx hb dX1_readNumber_136 rfl (lv_at hl 1 rfl) ?_
  obtain ⟨x17, hx17, hf⟩ := bd_some hf
  refine uJ (As := [.int (3 : Int32), .int a1]) (rest := []) G kX1_29 (c_jj_refuse hx17) hP hD hS ⟨rfl, rfl, Nat.le_of_ble_eq_true rfl, Nat.le_of_ble_eq_true rfl⟩ ⟨Nat.zero_le _, Nat.zero_le _⟩ rfl hl.1 (Nat.le_of_ble_eq_true rfl) dX1_readNumber_137 (fun H locs hP hD hS => ?_)
  refine W.eq (g2 := F0 m 140 ls [.int (bI x17.1)]) rfl ?_
  refine lv_if_eq (tgt := 147) hx hb dX1_readNumber_140 (by decide) (fun c18 => ?_) (fun c18 => ?_)
  · have hf := (if_neg (bI_0 c18)).symm.trans hf
    refine lv_iconst (v := (0 : Int32)) hx hb dX1_readNumber_147 (by decide) ?_
    cases hf
    exact ct_iret G (bI_nar false) hP hD hS dX1_readNumber_148
  · have hf := (if_pos (bI_n c18)).symm.trans hf
    refine lv_iconst (v := (1 : Int32)) hx hb dX1_readNumber_143 (by decide) ?_
    refine lv_goto (tgt := 148) hx hb dX1_readNumber_144 (by decide) ?_
    cases hf
    exact ct_iret G (bI_nar true) hP hD hS dX1_readNumber_148
set_option maxHeartbeats 4000000 in
set_option maxRecDepth 100000 in
theorem jj_readNumber_t128 {p : Program} {l : Launch} {e : Env} {s : State} {m : MethodId} {args : Array Value} {below : List Frame} {meth : Method} {c : Code} {D : va_G} {aK aV : Nat → Nat} {A : Nat → Prop} {cB cI cJ : ClassId} {q : Nat → Nat} {N : Nat} {H : Heap} {locs : List Loc} {ls : Array Slot} {ρ : Bool × JSt} {a1 : Int32} {s0 : Int32} {s1 : Int32} {s2 : Int32} {σ : JSt} (G : CX p s m args meth c D (gTy cB cI cJ) aK aV A RX1 cX1_readNumber 5 (some .boolean)) (hl : lv_has ls 5 [(0, .ref (q 0)), (1, .int a1)]) (hP : va_P D vwCl (jW cB N q σ) H) (hD : va_D A (jW cB N q σ)) (hS : va_S A s.heap H locs) (hf : jj_readNumber_b128 N a1 s0 s1 s2 σ = some ρ) : W p l e (rm_jj_readNumber) s m args below meth c H locs 0 0 (MQ below (cQ D (gTy cB cI cJ) A (jW cB N q ρ.2) (some (.int (bI ρ.1)))) args s 0 0 A) (F0 m 128 ls [.int s0, .int s1, .int s2, .ref (q 0)]) := by
  unfold jj_readNumber_b128 at hf
  obtain ⟨hx, hb, hml, hown, hT, hrt, hlk, hK, hA, hG, hE⟩ := id G
  obtain ⟨x19, hx19, hf⟩ := bd_some hf
  refine vJ (As := [.int s2, .int s1, .int s0]) (rest := []) G kX1_148 (c_jj_putWhole hx19) hP hD hS ⟨rfl, rfl, Nat.le_of_ble_eq_true rfl, Nat.le_of_ble_eq_true rfl⟩ ⟨Nat.zero_le _, Nat.zero_le _⟩ rfl hl.1 (Nat.le_of_ble_eq_true rfl) dX1_readNumber_128 (fun H locs hP hD hS => ?_)
  refine W.eq (g2 := F0 m 131 ls [.int (bI x19.1)]) rfl ?_
  refine lv_if_ne (tgt := 143) hx hb dX1_readNumber_131 (by decide) (fun c20 => ?_) (fun c20 => ?_)
  · have hf := (if_pos (bI_n c20)).symm.trans hf
    refine lv_iconst (v := (1 : Int32)) hx hb dX1_readNumber_143 (by decide) ?_
    refine lv_goto (tgt := 148) hx hb dX1_readNumber_144 (by decide) ?_
    cases hf
    exact ct_iret G (bI_nar true) hP hD hS dX1_readNumber_148
  · have hf := (if_neg (bI_0 c20)).symm.trans hf
    exact W.eq (g2 := F0 m 134 ls []) rfl (jj_readNumber_t134 G (lv_sub hl [0, 1] rfl) hP hD hS hf)
set_option maxHeartbeats 4000000 in
set_option maxRecDepth 100000 in
theorem jj_readNumber_t108 {p : Program} {l : Launch} {e : Env} {s : State} {m : MethodId} {args : Array Value} {below : List Frame} {meth : Method} {c : Code} {D : va_G} {aK aV : Nat → Nat} {A : Nat → Prop} {cB cI cJ : ClassId} {q : Nat → Nat} {N : Nat} {H : Heap} {locs : List Loc} {ls : Array Slot} {ρ : Bool × JSt} {a1 : Int32} {a2 : Int32} {a3 : Int32} {s0 : Int32} {σ : JSt} (G : CX p s m args meth c D (gTy cB cI cJ) aK aV A RX1 cX1_readNumber 5 (some .boolean)) (hl : lv_has ls 5 [(0, .ref (q 0)), (1, .int a1), (2, .int a2), (3, .int a3)]) (hP : va_P D vwCl (jW cB N q σ) H) (hD : va_D A (jW cB N q σ)) (hS : va_S A s.heap H locs) (hf : jj_readNumber_b108 N a1 a2 a3 s0 σ = some ρ) : W p l e (rm_jj_readNumber) s m args below meth c H locs 0 0 (MQ below (cQ D (gTy cB cI cJ) A (jW cB N q ρ.2) (some (.int (bI ρ.1)))) args s 0 0 A) (F0 m 108 ls [.int s0]) := by
  unfold jj_readNumber_b108 at hf
  obtain ⟨hx, hb, hml, hown, hT, hrt, hlk, hK, hA, hG, hE⟩ := id G
  refine lv_istore (lv' := [(4, .int s0), (0, .ref (q 0)), (1, .int a1), (2, .int a2), (3, .int a3)]) hx hb dX1_readNumber_108 hl (by decide) rfl (fun ls hl => ?_)
  refine lv_iload hx hb dX1_readNumber_110 (lv_at hl 0 rfl) ?_
  refine lv_if_eq (tgt := 134) hx hb dX1_readNumber_112 (by decide) (fun c15 => ?_) (fun c15 => ?_)
  · have hf := (if_pos c15).symm.trans hf
    exact W.eq (g2 := F0 m 134 ls []) rfl (jj_readNumber_t134 G (lv_sub hl [1, 2] rfl) hP hD hS hf)
  · have hf := (if_neg c15).symm.trans hf
    refine lv_aload_n hx hb dX1_readNumber_115 rfl (lv_at hl 1 rfl) ?_
    refine lv_iload_n hx hb dX1_readNumber_116 rfl (lv_at hl 3 rfl) ?_
    refine lv_iload_n hx hb dX1_readNumber_117 rfl (lv_at hl 4 rfl) ?_
    refine lv_iload_n hx hb dX1_readNumber_118 rfl (lv_at hl 3 rfl) ?_
    refine lv_iload_n hx hb dX1_readNumber_119 rfl (lv_at hl 2 rfl) ?_
    refine lv_icmp_le (tgt := 127) hx hb dX1_readNumber_120 (by decide) (fun c16 => ?_) (fun c16 => ?_)
    · have hf := (if_pos c16).symm.trans hf
      refine lv_iconst (v := (0 : Int32)) hx hb dX1_readNumber_127 (by decide) ?_
      exact W.eq (g2 := F0 m 128 ls [.int (0 : Int32), .int a3, .int a2, .ref (q 0)]) rfl (jj_readNumber_t128 G (lv_sub hl [1, 2] rfl) hP hD hS hf)
    · have hf := (if_neg c16).symm.trans hf
      refine lv_iconst (v := (1 : Int32)) hx hb dX1_readNumber_123 (by decide) ?_
      refine lv_goto (tgt := 128) hx hb dX1_readNumber_124 (by decide) ?_
      exact W.eq (g2 := F0 m 128 ls [.int (1 : Int32), .int a3, .int a2, .ref (q 0)]) rfl (jj_readNumber_t128 G (lv_sub hl [1, 2] rfl) hP hD hS hf)
set_option maxHeartbeats 4000000 in
set_option maxRecDepth 100000 in
theorem jj_readNumber_t74 {p : Program} {l : Launch} {e : Env} {s : State} {m : MethodId} {args : Array Value} {below : List Frame} {meth : Method} {c : Code} {D : va_G} {aK aV : Nat → Nat} {A : Nat → Prop} {cB cI cJ : ClassId} {q : Nat → Nat} {N : Nat} {H : Heap} {locs : List Loc} {ls : Array Slot} {ρ : Bool × JSt} {a1 : Int32} {a2 : Int32} {σ : JSt} (G : CX p s m args meth c D (gTy cB cI cJ) aK aV A RX1 cX1_readNumber 5 (some .boolean)) (hl : lv_has ls 5 [(0, .ref (q 0)), (1, .int a1), (2, .int a2)]) (hP : va_P D vwCl (jW cB N q σ) H) (hD : va_D A (jW cB N q σ)) (hS : va_S A s.heap H locs) (hf : jj_readNumber_b74 N a1 a2 σ = some ρ) : W p l e (rm_jj_readNumber) s m args below meth c H locs 0 0 (MQ below (cQ D (gTy cB cI cJ) A (jW cB N q ρ.2) (some (.int (bI ρ.1)))) args s 0 0 A) (F0 m 74 ls []) := by
  unfold jj_readNumber_b74 at hf
  obtain ⟨hx, hb, hml, hown, hT, hrt, hlk, hK, hA, hG, hE⟩ := id G
  refine lv_aload_n hx hb dX1_readNumber_74 rfl (lv_at hl 0 rfl) ?_
  refine gj_X1_place (v := (jf_place σ)) G hP dX1_readNumber_75 rfl ?_
  refine lv_topi (fun v9 ev9 => ?_)
  have hf := lt_eq hf ev9
  refine lv_istore_n (lv' := [(3, .int v9), (0, .ref (q 0)), (1, .int a1), (2, .int a2)]) hx hb dX1_readNumber_78 rfl hl (by decide) rfl (fun ls hl => ?_)
  refine lv_aload_n hx hb dX1_readNumber_79 rfl (lv_at hl 1 rfl) ?_
  obtain ⟨x10, hx10, hf⟩ := bd_some hf
  refine vJ (As := []) (rest := []) G kX1_142 (c_jj_readFraction hx10) hP hD hS ⟨rfl, rfl, Nat.le_of_ble_eq_true rfl, Nat.le_of_ble_eq_true rfl⟩ ⟨Nat.zero_le _, Nat.zero_le _⟩ rfl hl.1 (Nat.le_of_ble_eq_true rfl) dX1_readNumber_80 (fun H locs hP hD hS => ?_)
  refine W.eq (g2 := F0 m 83 ls [.int (bI x10.1)]) rfl ?_
  refine lv_if_eq (tgt := 93) hx hb dX1_readNumber_83 (by decide) (fun c11 => ?_) (fun c11 => ?_)
  · have hf := (if_neg (bI_0 c11)).symm.trans hf
    refine lv_iconst (v := (0 : Int32)) hx hb dX1_readNumber_93 (by decide) ?_
    cases hf
    exact ct_iret G (bI_nar false) hP hD hS dX1_readNumber_94
  · have hf := (if_pos (bI_n c11)).symm.trans hf
    refine lv_aload_n hx hb dX1_readNumber_86 rfl (lv_at hl 1 rfl) ?_
    obtain ⟨x12, hx12, hf⟩ := bd_some hf
    refine vJ (As := []) (rest := []) G kX1_145 (c_jj_readExponent hx12) hP hD hS ⟨rfl, rfl, Nat.le_of_ble_eq_true rfl, Nat.le_of_ble_eq_true rfl⟩ ⟨Nat.zero_le _, Nat.zero_le _⟩ rfl hl.1 (Nat.le_of_ble_eq_true rfl) dX1_readNumber_87 (fun H locs hP hD hS => ?_)
    refine W.eq (g2 := F0 m 90 ls [.int (bI x12.1)]) rfl ?_
    refine lv_if_ne (tgt := 95) hx hb dX1_readNumber_90 (by decide) (fun c13 => ?_) (fun c13 => ?_)
    · have hf := (if_pos (bI_n c13)).symm.trans hf
      refine lv_aload_n hx hb dX1_readNumber_95 rfl (lv_at hl 1 rfl) ?_
      refine gj_X1_place (v := (jf_place x12.2)) G hP dX1_readNumber_96 rfl ?_
      refine lv_iload_n hx hb dX1_readNumber_99 rfl (lv_at hl 0 rfl) ?_
      refine lv_icmp_ne (tgt := 107) hx hb dX1_readNumber_100 (by decide) (fun c14 => ?_) (fun c14 => ?_)
      · have hf := (if_neg c14).symm.trans hf
        refine lv_iconst (v := (0 : Int32)) hx hb dX1_readNumber_107 (by decide) ?_
        exact W.eq (g2 := F0 m 108 ls [.int (0 : Int32)]) rfl (jj_readNumber_t108 G (lv_sub hl [1, 2, 3, 0] rfl) hP hD hS hf)
      · have hf := (if_pos c14).symm.trans hf
        refine lv_iconst (v := (1 : Int32)) hx hb dX1_readNumber_103 (by decide) ?_
        refine lv_goto (tgt := 108) hx hb dX1_readNumber_104 (by decide) ?_
        exact W.eq (g2 := F0 m 108 ls [.int (1 : Int32)]) rfl (jj_readNumber_t108 G (lv_sub hl [1, 2, 3, 0] rfl) hP hD hS hf)
    · have hf := (if_neg (bI_0 c13)).symm.trans hf
      refine lv_iconst (v := (0 : Int32)) hx hb dX1_readNumber_93 (by decide) ?_
      cases hf
      exact ct_iret G (bI_nar false) hP hD hS dX1_readNumber_94
set_option maxHeartbeats 4000000 in
set_option maxRecDepth 100000 in
theorem jj_readNumber_t31 {p : Program} {l : Launch} {e : Env} {s : State} {m : MethodId} {args : Array Value} {below : List Frame} {meth : Method} {c : Code} {D : va_G} {aK aV : Nat → Nat} {A : Nat → Prop} {cB cI cJ : ClassId} {q : Nat → Nat} {N : Nat} {H : Heap} {locs : List Loc} {ls : Array Slot} {ρ : Bool × JSt} {a1 : Int32} {σ : JSt} (G : CX p s m args meth c D (gTy cB cI cJ) aK aV A RX1 cX1_readNumber 5 (some .boolean)) (hl : lv_has ls 5 [(0, .ref (q 0)), (1, .int a1)]) (hP : va_P D vwCl (jW cB N q σ) H) (hD : va_D A (jW cB N q σ)) (hS : va_S A s.heap H locs) (hf : jj_readNumber_b31 N a1 σ = some ρ) : W p l e (rm_jj_readNumber) s m args below meth c H locs 0 0 (MQ below (cQ D (gTy cB cI cJ) A (jW cB N q ρ.2) (some (.int (bI ρ.1)))) args s 0 0 A) (F0 m 31 ls []) := by
  unfold jj_readNumber_b31 at hf
  obtain ⟨hx, hb, hml, hown, hT, hrt, hlk, hK, hA, hG, hE⟩ := id G
  refine lv_aload_n hx hb dX1_readNumber_31 rfl (lv_at hl 0 rfl) ?_
  refine gj_X1_place (v := (jf_place σ)) G hP dX1_readNumber_32 rfl ?_
  refine lv_topi (fun v4 ev4 => ?_)
  have hf := lt_eq hf ev4
  refine lv_istore_n (lv' := [(2, .int v4), (0, .ref (q 0)), (1, .int a1)]) hx hb dX1_readNumber_35 rfl hl (by decide) rfl (fun ls hl => ?_)
  refine lv_aload_n hx hb dX1_readNumber_36 rfl (lv_at hl 1 rfl) ?_
  refine gj_X1_tape G hP dX1_readNumber_37 ?_
  refine lv_aload_n hx hb dX1_readNumber_40 rfl (lv_at hl 1 rfl) ?_
  refine gj_X1_place (v := (jf_place σ)) G hP dX1_readNumber_41 rfl ?_
  obtain ⟨x5, hx5, hf⟩ := bd_some hf
  refine vJ_tape (As := [.int (jf_place σ)]) (rest := []) (τ := x5.2) G kX1_33 rfl (c_rr_at hx5) hP hD hS ⟨rfl, rfl, Nat.le_of_ble_eq_true rfl, Nat.le_of_ble_eq_true rfl⟩ ⟨Nat.zero_le _, Nat.zero_le _⟩ rfl hl.1 (Nat.le_of_ble_eq_true rfl) dX1_readNumber_44 (fun H locs hP hD hS => ?_)
  refine W.eq (g2 := F0 m 47 ls [.int x5.1]) rfl ?_
  refine lv_bipush (v := (48 : Int32)) hx hb dX1_readNumber_47 (by decide) ?_
  refine lv_icmp_ne (tgt := 65) hx hb dX1_readNumber_49 (by decide) (fun c6 => ?_) (fun c6 => ?_)
  · have hf := (if_neg c6).symm.trans hf
    refine lv_aload_n hx hb dX1_readNumber_65 rfl (lv_at hl 1 rfl) ?_
    obtain ⟨x7, hx7, hf⟩ := bd_some hf
    refine vJ (As := []) (rest := []) G kX1_139 (c_jj_readDigits hx7) hP hD hS ⟨rfl, rfl, Nat.le_of_ble_eq_true rfl, Nat.le_of_ble_eq_true rfl⟩ ⟨Nat.zero_le _, Nat.zero_le _⟩ rfl hl.1 (Nat.le_of_ble_eq_true rfl) dX1_readNumber_66 (fun H locs hP hD hS => ?_)
    refine W.eq (g2 := F0 m 69 ls [.int (bI x7.1)]) rfl ?_
    refine lv_if_ne (tgt := 74) hx hb dX1_readNumber_69 (by decide) (fun c8 => ?_) (fun c8 => ?_)
    · have hf := (if_pos (bI_n c8)).symm.trans hf
      exact W.eq (g2 := F0 m 74 ls []) rfl (jj_readNumber_t74 G (lv_sub hl [1, 2, 0] rfl) hP hD hS hf)
    · have hf := (if_neg (bI_0 c8)).symm.trans hf
      refine lv_iconst (v := (0 : Int32)) hx hb dX1_readNumber_72 (by decide) ?_
      cases hf
      exact ct_iret G (bI_nar false) hP hD hS dX1_readNumber_73
  · have hf := (if_pos c6).symm.trans hf
    refine lv_aload_n hx hb dX1_readNumber_52 rfl (lv_at hl 1 rfl) ?_
    refine lv_dup hx hb dX1_readNumber_53 rfl ?_
    refine gj_X1_place (v := (jf_place σ)) G hP dX1_readNumber_54 (jG_place_tape _ _) ?_
    refine lv_iconst (v := (1 : Int32)) hx hb dX1_readNumber_57 (by decide) ?_
    refine lv_iadd hx hb dX1_readNumber_58 ?_
    refine pj_X1_place (v := ((jf_place σ) + (1 : Int32))) G hP hD hS dX1_readNumber_59 (fun H locs hP hD hS => ?_)
    refine lv_goto (tgt := 74) hx hb dX1_readNumber_62 (by decide) ?_
    exact W.eq (g2 := F0 m 74 ls []) rfl (jj_readNumber_t74 G (lv_sub hl [1, 2, 0] rfl) hP hD hS hf)
set_option maxHeartbeats 4000000 in
set_option maxRecDepth 100000 in
theorem jj_readNumber_t0e {p : Program} {l : Launch} {e : Env} {s : State} {m : MethodId} {args : Array Value} {below : List Frame} {meth : Method} {c : Code} {D : va_G} {aK aV : Nat → Nat} {A : Nat → Prop} {cB cI cJ : ClassId} {q : Nat → Nat} {N : Nat} {H : Heap} {locs : List Loc} {ls : Array Slot} {ρ : Bool × JSt} {σ : JSt} (G : CX p s m args meth c D (gTy cB cI cJ) aK aV A RX1 cX1_readNumber 5 (some .boolean)) (hl : lv_has ls 5 [(0, .ref (q 0))]) (hP : va_P D vwCl (jW cB N q σ) H) (hD : va_D A (jW cB N q σ)) (hS : va_S A s.heap H locs) (hf : jj_readNumber N σ = some ρ) : W p l e (rm_jj_readNumber) s m args below meth c H locs 0 0 (MQ below (cQ D (gTy cB cI cJ) A (jW cB N q ρ.2) (some (.int (bI ρ.1)))) args s 0 0 A) (F0 m 0 ls []) := by
  unfold jj_readNumber at hf
  obtain ⟨hx, hb, hml, hown, hT, hrt, hlk, hK, hA, hG, hE⟩ := id G
  refine lv_aload_n hx hb dX1_readNumber_0 rfl (lv_at hl 0 rfl) ?_
  refine gj_X1_place (v := (jf_place σ)) G hP dX1_readNumber_1 rfl ?_
  refine lv_topi (fun v1 ev1 => ?_)
  have hf := lt_eq hf ev1
  refine lv_istore_n (lv' := [(1, .int v1), (0, .ref (q 0))]) hx hb dX1_readNumber_4 rfl hl (by decide) rfl (fun ls hl => ?_)
  refine lv_aload_n hx hb dX1_readNumber_5 rfl (lv_at hl 1 rfl) ?_
  refine gj_X1_tape G hP dX1_readNumber_6 ?_
  refine lv_aload_n hx hb dX1_readNumber_9 rfl (lv_at hl 1 rfl) ?_
  refine gj_X1_place (v := (jf_place σ)) G hP dX1_readNumber_10 rfl ?_
  obtain ⟨x2, hx2, hf⟩ := bd_some hf
  refine vJ_tape (As := [.int (jf_place σ)]) (rest := []) (τ := x2.2) G kX1_33 rfl (c_rr_at hx2) hP hD hS ⟨rfl, rfl, Nat.le_of_ble_eq_true rfl, Nat.le_of_ble_eq_true rfl⟩ ⟨Nat.zero_le _, Nat.zero_le _⟩ rfl hl.1 (Nat.le_of_ble_eq_true rfl) dX1_readNumber_13 (fun H locs hP hD hS => ?_)
  refine W.eq (g2 := F0 m 16 ls [.int x2.1]) rfl ?_
  refine lv_bipush (v := (45 : Int32)) hx hb dX1_readNumber_16 (by decide) ?_
  refine lv_icmp_ne (tgt := 31) hx hb dX1_readNumber_18 (by decide) (fun c3 => ?_) (fun c3 => ?_)
  · have hf := (if_neg c3).symm.trans hf
    exact W.eq (g2 := F0 m 31 ls []) rfl (jj_readNumber_t31 G (lv_sub hl [1, 0] rfl) hP hD hS hf)
  · have hf := (if_pos c3).symm.trans hf
    refine lv_aload_n hx hb dX1_readNumber_21 rfl (lv_at hl 1 rfl) ?_
    refine lv_dup hx hb dX1_readNumber_22 rfl ?_
    refine gj_X1_place (v := (jf_place σ)) G hP dX1_readNumber_23 (jG_place_tape _ _) ?_
    refine lv_iconst (v := (1 : Int32)) hx hb dX1_readNumber_26 (by decide) ?_
    refine lv_iadd hx hb dX1_readNumber_27 ?_
    refine pj_X1_place (v := ((jf_place σ) + (1 : Int32))) G hP hD hS dX1_readNumber_28 (fun H locs hP hD hS => ?_)
    exact W.eq (g2 := F0 m 31 ls []) rfl (jj_readNumber_t31 G (lv_sub hl [1, 0] rfl) hP hD hS hf)
set_option maxHeartbeats 4000000 in
set_option maxRecDepth 100000 in
theorem c_jj_readNumber {l : Launch} {D : va_G} {aK aV : Nat → Nat} {cB cI cJ : ClassId} {q : Nat → Nat} {N : Nat} {ρ : Bool × JSt} {σ : JSt} (hf : jj_readNumber N σ = some ρ) : CT l D (gTy cB cI cJ) aK aV yX1_readNumber (wM yX1_readNumber cX1_readNumber 5 (some .boolean)) (rm_jj_readNumber) 0 0 [.ref (q 0)] (jW cB N q σ) (some (.int (bI ρ.1))) (jW cB N q ρ.2) := by
  refine CT.of (by decide) rfl ?_
  intro p e s m below meth c A G hnm hP hD hS
  have hl := lv_entry [.ref (q 0)] (n := 5) (Nat.le_of_ble_eq_true rfl)
  rw [lg_entry_eq]
  generalize (lg_sl [.ref (q 0)] ++ List.replicate (5 - (lg_sl [.ref (q 0)]).length) Slot.unset).toArray = ls at hl ⊢
  exact jj_readNumber_t0e G hl hP hD hS hf
