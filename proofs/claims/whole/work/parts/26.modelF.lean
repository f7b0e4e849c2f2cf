/-! THE REFERENCE: writing (printed by program wip/gen) -/
def mm_puts_b135 (k135 : Int64 → Int32 → MSt → Option (MSt)) (a2 : Int64) (a5 : Int32) (σ : MSt) : Option (MSt) := (if a5 < 0 then some σ else bd (mm_put ((Int64.toInt32 (a2 >>> (Int32.toInt64 a5 &&& 63))) &&& (255 : Int32)) σ) (fun (x15 : MSt) => lt (a5 + (-8 : Int32)) (fun (v16 : Int32) => k135 a2 v16 x15)))
def mm_puts_L135 : Nat → Int64 → Int32 → MSt → Option (MSt)
  | 0, _, _, _ => none
  | n + 1, a2, a5, σ => mm_puts_b135 (mm_puts_L135 n) a2 a5 σ
def mm_puts_b121 (a2 : Int64) (a4 : Int32) (s0 : Int32) (s1 : Int32) (σ : MSt) : Option (MSt) := bd (mm_put (s1 + s0) σ) (fun (x11 : MSt) => lt (((8 : Int32) * a4) - (8 : Int32)) (fun (v12 : Int32) => mm_puts_L135 FU a2 v12 x11))
def mm_puts_b69 (a1 : Int32) (a2 : Int64) (s0 : Int32) (σ : MSt) : Option (MSt) := (if s0 = 0 then mm_puts_b121 a2 s0 (Int64.toInt32 a2) ((32 : Int32) * a1) σ else (if s0 = (1 : Int32) then mm_puts_b121 a2 s0 (24 : Int32) ((32 : Int32) * a1) σ else (if s0 = (2 : Int32) then mm_puts_b121 a2 s0 (25 : Int32) ((32 : Int32) * a1) σ else (if s0 = (4 : Int32) then mm_puts_b121 a2 s0 (26 : Int32) ((32 : Int32) * a1) σ else mm_puts_b121 a2 s0 (27 : Int32) ((32 : Int32) * a1) σ))))
def mm_puts_b54 (a1 : Int32) (a2 : Int64) (σ : MSt) : Option (MSt) := (if ((Int64.toUInt64 a2 >>> ((Int32.toInt64 (32 : Int32)).toUInt64 &&& Int64.toUInt64 63)).toInt64) = (0 : Int64) then mm_puts_b69 a1 a2 (4 : Int32) σ else mm_puts_b69 a1 a2 (8 : Int32) σ)
def mm_puts_b36 (a1 : Int32) (a2 : Int64) (σ : MSt) : Option (MSt) := (if a2 < (0 : Int64) then mm_puts_b54 a1 a2 σ else (if (65536 : Int64) ≤ a2 then mm_puts_b54 a1 a2 σ else mm_puts_b69 a1 a2 (2 : Int32) σ))
def mm_puts_b18 (a1 : Int32) (a2 : Int64) (σ : MSt) : Option (MSt) := (if a2 < (0 : Int64) then mm_puts_b36 a1 a2 σ else (if (256 : Int64) ≤ a2 then mm_puts_b36 a1 a2 σ else mm_puts_b69 a1 a2 (1 : Int32) σ))
def mm_puts (p0 : Int32) (p1 : Int64) (σ : MSt) : Option (MSt) := (if p1 < (0 : Int64) then mm_puts_b18 p0 p1 σ else (if (24 : Int64) ≤ p1 then mm_puts_b18 p0 p1 σ else mm_puts_b69 p0 p1 (0 : Int32) σ))
abbrev rm_mm_puts : Room := { frames := 1, cells := 0, slots := 0, locals := 21 }
set_option maxHeartbeats 4000000 in
set_option maxRecDepth 100000 in
theorem mm_puts_t135 {p : Program} {l : Launch} {e : Env} {s : State} {m : MethodId} {args : Array Value} {below : List Frame} {meth : Method} {c : Code} {D : va_G} {aK aV : Nat → Nat} {A : Nat → Prop} {cB cI cJ : ClassId} {q : Nat → Nat} {H : Heap} {locs : List Loc} {ls : Array Slot} {ρ : MSt} {k135 : Int64 → Int32 → MSt → Option (MSt)} {a2 : Int64} {a5 : Int32} {σ : MSt} (G : CX p s m args meth c D (gTy cB cI cJ) aK aV A RX5 cX5_puts 6 none) (hk135 : ∀ (a2 : Int64) (a5 : Int32) (σ : MSt) (H : Heap) (locs : List Loc) (ls : Array Slot), lv_has ls 6 [(0, .ref (q 0)), (2, .long a2), (5, .int a5)] → va_P D vwCl (mW cB cI cJ q σ) H → va_D A (mW cB cI cJ q σ) → va_S A s.heap H locs → k135 a2 a5 σ = some ρ → W p l e (rm_mm_puts) s m args below meth c H locs 0 0 (MQ below (cQ D (gTy cB cI cJ) A (mW cB cI cJ q ρ) none) args s 0 0 A) (F0 m 135 ls [])) (hl : lv_has ls 6 [(0, .ref (q 0)), (2, .long a2), (5, .int a5)]) (hP : va_P D vwCl (mW cB cI cJ q σ) H) (hD : va_D A (mW cB cI cJ q σ)) (hS : va_S A s.heap H locs) (hf : mm_puts_b135 k135 a2 a5 σ = some ρ) : W p l e (rm_mm_puts) s m args below meth c H locs 0 0 (MQ below (cQ D (gTy cB cI cJ) A (mW cB cI cJ q ρ) none) args s 0 0 A) (F0 m 135 ls []) := by
  unfold mm_puts_b135 at hf
  obtain ⟨hx, hb, hml, hown, hT, hrt, hlk, hK, hA, hG, hE⟩ := id G
  refine lv_iload hx hb dX5_puts_135 (lv_at hl 2 rfl) ?_
  refine lv_if_lt (tgt := 159) hx hb dX5_puts_137 (by decide) (fun c14 => ?_) (fun c14 => ?_)
  · have hf := (if_pos c14).symm.trans hf
    cases hf
    exact ct_vret G hP hD hS dX5_puts_159
  · have hf := (if_neg c14).symm.trans hf
    refine lv_aload_n hx hb dX5_puts_140 rfl (lv_at hl 0 rfl) ?_
    refine lv_lload_n hx hb dX5_puts_141 rfl (lv_at hl 1 rfl) ?_
    refine lv_iload hx hb dX5_puts_142 (lv_at hl 2 rfl) ?_
    refine lv_lshr (v := (a2 >>> (Int32.toInt64 a5 &&& 63))) hx hb dX5_puts_144 rfl ?_
    refine lv_l2i (v := (Int64.toInt32 (a2 >>> (Int32.toInt64 a5 &&& 63)))) hx hb dX5_puts_145 rfl ?_
    refine lv_sipush (v := (255 : Int32)) hx hb dX5_puts_146 (by decide) ?_
    refine lv_iand hx hb dX5_puts_149 ?_
    obtain ⟨x15, hx15, hf⟩ := bd_some hf
    refine vM (As := [.int ((Int64.toInt32 (a2 >>> (Int32.toInt64 a5 &&& 63))) &&& (255 : Int32))]) (rest := []) G kX5_219 (c_mm_put hx15) hP hD hS ⟨rfl, rfl, Nat.le_of_ble_eq_true rfl, Nat.le_of_ble_eq_true rfl⟩ ⟨Nat.zero_le _, Nat.zero_le _⟩ rfl hl.1 (Nat.le_of_ble_eq_true rfl) dX5_puts_150 (fun H locs hP hD hS => ?_)
    refine W.eq (g2 := F0 m 153 ls []) rfl ?_
    obtain ⟨v16, ev16⟩ : ∃ y : Int32, y = (a5 + (-8 : Int32)) := ⟨_, rfl⟩
    have hf := lt_eq hf ev16
    refine lv_iinc (v := v16) (lv' := [(5, .int v16), (0, .ref (q 0)), (2, .long a2)]) hx hb dX5_puts_153 hl (k := 2) rfl (by rw [ev16]; rfl) (by decide) rfl (fun ls hl => ?_)
    refine lv_goto (tgt := 135) hx hb dX5_puts_156 (by decide) ?_
    exact W.eq (g2 := F0 m 135 ls []) rfl (hk135 _ _ _ _ _ _ (lv_sub hl [1, 2, 0] rfl) hP hD hS hf)
set_option maxHeartbeats 4000000 in
set_option maxRecDepth 100000 in
theorem mm_puts_u135 {p : Program} {l : Launch} {e : Env} {s : State} {m : MethodId} {args : Array Value} {below : List Frame} {meth : Method} {c : Code} {D : va_G} {aK aV : Nat → Nat} {A : Nat → Prop} {cB cI cJ : ClassId} {q : Nat → Nat} {ρ : MSt} (G : CX p s m args meth c D (gTy cB cI cJ) aK aV A RX5 cX5_puts 6 none) : ∀ (n : Nat) {a2 : Int64} {a5 : Int32} {σ : MSt} {H : Heap} {locs : List Loc} {ls : Array Slot} (hl : lv_has ls 6 [(0, .ref (q 0)), (2, .long a2), (5, .int a5)]) (hP : va_P D vwCl (mW cB cI cJ q σ) H) (hD : va_D A (mW cB cI cJ q σ)) (hS : va_S A s.heap H locs) (hf : mm_puts_L135 n a2 a5 σ = some ρ), W p l e (rm_mm_puts) s m args below meth c H locs 0 0 (MQ below (cQ D (gTy cB cI cJ) A (mW cB cI cJ q ρ) none) args s 0 0 A) (F0 m 135 ls []) := by
  intro n
  induction n with
  | zero =>
    intros
    rename_i hf
    cases hf
  | succ n ih =>
    intro a2 a5 σ H locs ls hl hP hD hS hf
    exact mm_puts_t135 G (fun _ _ _ H locs ls hl hP hD hS hf => ih hl hP hD hS hf) hl hP hD hS hf
set_option maxHeartbeats 4000000 in
set_option maxRecDepth 100000 in
theorem mm_puts_t121 {p : Program} {l : Launch} {e : Env} {s : State} {m : MethodId} {args : Array Value} {below : List Frame} {meth : Method} {c : Code} {D : va_G} {aK aV : Nat → Nat} {A : Nat → Prop} {cB cI cJ : ClassId} {q : Nat → Nat} {H : Heap} {locs : List Loc} {ls : Array Slot} {ρ : MSt} {a2 : Int64} {a4 : Int32} {s0 : Int32} {s1 : Int32} {σ : MSt} (G : CX p s m args meth c D (gTy cB cI cJ) aK aV A RX5 cX5_puts 6 none) (hl : lv_has ls 6 [(0, .ref (q 0)), (2, .long a2), (4, .int a4)]) (hP : va_P D vwCl (mW cB cI cJ q σ) H) (hD : va_D A (mW cB cI cJ q σ)) (hS : va_S A s.heap H locs) (hf : mm_puts_b121 a2 a4 s0 s1 σ = some ρ) : W p l e (rm_mm_puts) s m args below meth c H locs 0 0 (MQ below (cQ D (gTy cB cI cJ) A (mW cB cI cJ q ρ) none) args s 0 0 A) (F0 m 121 ls [.int s0, .int s1, .ref (q 0)]) := by
  unfold mm_puts_b121 at hf
  obtain ⟨hx, hb, hml, hown, hT, hrt, hlk, hK, hA, hG, hE⟩ := id G
  refine lv_iadd hx hb dX5_puts_121 ?_
  obtain ⟨x11, hx11, hf⟩ := bd_some hf
  refine vM (As := [.int (s1 + s0)]) (rest := []) G kX5_219 (c_mm_put hx11) hP hD hS ⟨rfl, rfl, Nat.le_of_ble_eq_true rfl, Nat.le_of_ble_eq_true rfl⟩ ⟨Nat.zero_le _, Nat.zero_le _⟩ rfl hl.1 (Nat.le_of_ble_eq_true rfl) dX5_puts_122 (fun H locs hP hD hS => ?_)
  refine W.eq (g2 := F0 m 125 ls []) rfl ?_
  refine lv_bipush (v := (8 : Int32)) hx hb dX5_puts_125 (by decide) ?_
  refine lv_iload hx hb dX5_puts_127 (lv_at hl 2 rfl) ?_
  refine lv_imul hx hb dX5_puts_129 ?_
  refine lv_bipush (v := (8 : Int32)) hx hb dX5_puts_130 (by decide) ?_
  refine lv_isub hx hb dX5_puts_132 ?_
  refine lv_topi (fun v12 ev12 => ?_)
  have hf := lt_eq hf ev12
  refine lv_istore (lv' := [(5, .int v12), (0, .ref (q 0)), (2, .long a2), (4, .int a4)]) hx hb dX5_puts_133 hl (by decide) rfl (fun ls hl => ?_)
  exact W.eq (g2 := F0 m 135 ls []) rfl (mm_puts_u135 G FU (lv_sub hl [1, 2, 0] rfl) hP hD hS hf)
set_option maxHeartbeats 4000000 in
set_option maxRecDepth 100000 in
theorem mm_puts_t69 {p : Program} {l : Launch} {e : Env} {s : State} {m : MethodId} {args : Array Value} {below : List Frame} {meth : Method} {c : Code} {D : va_G} {aK aV : Nat → Nat} {A : Nat → Prop} {cB cI cJ : ClassId} {q : Nat → Nat} {H : Heap} {locs : List Loc} {ls : Array Slot} {ρ : MSt} {a1 : Int32} {a2 : Int64} {s0 : Int32} {σ : MSt} (G : CX p s m args meth c D (gTy cB cI cJ) aK aV A RX5 cX5_puts 6 none) (hl : lv_has ls 6 [(0, .ref (q 0)), (1, .int a1), (2, .long a2)]) (hP : va_P D vwCl (mW cB cI cJ q σ) H) (hD : va_D A (mW cB cI cJ q σ)) (hS : va_S A s.heap H locs) (hf : mm_puts_b69 a1 a2 s0 σ = some ρ) : W p l e (rm_mm_puts) s m args below meth c H locs 0 0 (MQ below (cQ D (gTy cB cI cJ) A (mW cB cI cJ q ρ) none) args s 0 0 A) (F0 m 69 ls [.int s0]) := by
  unfold mm_puts_b69 at hf
  obtain ⟨hx, hb, hml, hown, hT, hrt, hlk, hK, hA, hG, hE⟩ := id G
  refine lv_istore (lv' := [(4, .int s0), (0, .ref (q 0)), (1, .int a1), (2, .long a2)]) hx hb dX5_puts_69 hl (by decide) rfl (fun ls hl => ?_)
  refine lv_aload_n hx hb dX5_puts_71 rfl (lv_at hl 1 rfl) ?_
  refine lv_bipush (v := (32 : Int32)) hx hb dX5_puts_72 (by decide) ?_
  refine lv_iload_n hx hb dX5_puts_74 rfl (lv_at hl 2 rfl) ?_
  refine lv_imul hx hb dX5_puts_75 ?_
  refine lv_iload hx hb dX5_puts_76 (lv_at hl 0 rfl) ?_
  refine lv_if_ne (tgt := 86) hx hb dX5_puts_78 (by decide) (fun c5 => ?_) (fun c5 => ?_)
  · have hf := (if_neg c5).symm.trans hf
    refine lv_iload hx hb dX5_puts_86 (lv_at hl 0 rfl) ?_
    refine lv_iconst (v := (1 : Int32)) hx hb dX5_puts_88 (by decide) ?_
    refine lv_icmp_ne (tgt := 97) hx hb dX5_puts_89 (by decide) (fun c6 => ?_) (fun c6 => ?_)
    · have hf := (if_neg c6).symm.trans hf
      refine lv_iload hx hb dX5_puts_97 (lv_at hl 0 rfl) ?_
      refine lv_iconst (v := (2 : Int32)) hx hb dX5_puts_99 (by decide) ?_
      refine lv_icmp_ne (tgt := 108) hx hb dX5_puts_100 (by decide) (fun c7 => ?_) (fun c7 => ?_)
      · have hf := (if_neg c7).symm.trans hf
        refine lv_iload hx hb dX5_puts_108 (lv_at hl 0 rfl) ?_
        refine lv_iconst (v := (4 : Int32)) hx hb dX5_puts_110 (by decide) ?_
        refine lv_icmp_ne (tgt := 119) hx hb dX5_puts_111 (by decide) (fun c8 => ?_) (fun c8 => ?_)
        · have hf := (if_neg c8).symm.trans hf
          refine lv_bipush (v := (27 : Int32)) hx hb dX5_puts_119 (by decide) ?_
          exact W.eq (g2 := F0 m 121 ls [.int (27 : Int32), .int ((32 : Int32) * a1), .ref (q 0)]) rfl (mm_puts_t121 G (lv_sub hl [1, 3, 0] rfl) hP hD hS hf)
        · have hf := (if_pos c8).symm.trans hf
          refine lv_bipush (v := (26 : Int32)) hx hb dX5_puts_114 (by decide) ?_
          refine lv_goto (tgt := 121) hx hb dX5_puts_116 (by decide) ?_
          exact W.eq (g2 := F0 m 121 ls [.int (26 : Int32), .int ((32 : Int32) * a1), .ref (q 0)]) rfl (mm_puts_t121 G (lv_sub hl [1, 3, 0] rfl) hP hD hS hf)
      · have hf := (if_pos c7).symm.trans hf
        refine lv_bipush (v := (25 : Int32)) hx hb dX5_puts_103 (by decide) ?_
        refine lv_goto (tgt := 121) hx hb dX5_puts_105 (by decide) ?_
        exact W.eq (g2 := F0 m 121 ls [.int (25 : Int32), .int ((32 : Int32) * a1), .ref (q 0)]) rfl (mm_puts_t121 G (lv_sub hl [1, 3, 0] rfl) hP hD hS hf)
    · have hf := (if_pos c6).symm.trans hf
      refine lv_bipush (v := (24 : Int32)) hx hb dX5_puts_92 (by decide) ?_
      refine lv_goto (tgt := 121) hx hb dX5_puts_94 (by decide) ?_
      exact W.eq (g2 := F0 m 121 ls [.int (24 : Int32), .int ((32 : Int32) * a1), .ref (q 0)]) rfl (mm_puts_t121 G (lv_sub hl [1, 3, 0] rfl) hP hD hS hf)
  · have hf := (if_pos c5).symm.trans hf
    refine lv_lload_n hx hb dX5_puts_81 rfl (lv_at hl 3 rfl) ?_
    refine lv_l2i (v := (Int64.toInt32 a2)) hx hb dX5_puts_82 rfl ?_
    refine lv_goto (tgt := 121) hx hb dX5_puts_83 (by decide) ?_
    exact W.eq (g2 := F0 m 121 ls [.int (Int64.toInt32 a2), .int ((32 : Int32) * a1), .ref (q 0)]) rfl (mm_puts_t121 G (lv_sub hl [1, 3, 0] rfl) hP hD hS hf)
set_option maxHeartbeats 4000000 in
set_option maxRecDepth 100000 in
theorem mm_puts_t54 {p : Program} {l : Launch} {e : Env} {s : State} {m : MethodId} {args : Array Value} {below : List Frame} {meth : Method} {c : Code} {D : va_G} {aK aV : Nat → Nat} {A : Nat → Prop} {cB cI cJ : ClassId} {q : Nat → Nat} {H : Heap} {locs : List Loc} {ls : Array Slot} {ρ : MSt} {a1 : Int32} {a2 : Int64} {σ : MSt} (G : CX p s m args meth c D (gTy cB cI cJ) aK aV A RX5 cX5_puts 6 none) (hl : lv_has ls 6 [(0, .ref (q 0)), (1, .int a1), (2, .long a2)]) (hP : va_P D vwCl (mW cB cI cJ q σ) H) (hD : va_D A (mW cB cI cJ q σ)) (hS : va_S A s.heap H locs) (hf : mm_puts_b54 a1 a2 σ = some ρ) : W p l e (rm_mm_puts) s m args below meth c H locs 0 0 (MQ below (cQ D (gTy cB cI cJ) A (mW cB cI cJ q ρ) none) args s 0 0 A) (F0 m 54 ls []) := by
  unfold mm_puts_b54 at hf
  obtain ⟨hx, hb, hml, hown, hT, hrt, hlk, hK, hA, hG, hE⟩ := id G
  refine lv_lload_n hx hb dX5_puts_54 rfl (lv_at hl 2 rfl) ?_
  refine lv_bipush (v := (32 : Int32)) hx hb dX5_puts_55 (by decide) ?_
  refine lv_lushr (v := ((Int64.toUInt64 a2 >>> ((Int32.toInt64 (32 : Int32)).toUInt64 &&& Int64.toUInt64 63)).toInt64)) hx hb dX5_puts_57 rfl ?_
  refine lv_lconst (v := (0 : Int64)) hx hb dX5_puts_58 (by decide) ?_
  refine W.lcmp hx hb dX5_puts_59 ?_
  refine lv_if_ne (tgt := 67) hx hb dX5_puts_60 (by decide) (fun c13 => ?_) (fun c13 => ?_)
  · have hf := (if_neg (fun z => c13 ((lg_cmp_eq _ _).mpr z))).symm.trans hf
    refine lv_bipush (v := (8 : Int32)) hx hb dX5_puts_67 (by decide) ?_
    exact W.eq (g2 := F0 m 69 ls [.int (8 : Int32)]) rfl (mm_puts_t69 G (lv_sub hl [0, 1, 2] rfl) hP hD hS hf)
  · have hf := (if_pos ((lg_cmp_eq _ _).mp c13)).symm.trans hf
    refine lv_iconst (v := (4 : Int32)) hx hb dX5_puts_63 (by decide) ?_
    refine lv_goto (tgt := 69) hx hb dX5_puts_64 (by decide) ?_
    exact W.eq (g2 := F0 m 69 ls [.int (4 : Int32)]) rfl (mm_puts_t69 G (lv_sub hl [0, 1, 2] rfl) hP hD hS hf)
set_option maxHeartbeats 4000000 in
set_option maxRecDepth 100000 in
theorem mm_puts_t36 {p : Program} {l : Launch} {e : Env} {s : State} {m : MethodId} {args : Array Value} {below : List Frame} {meth : Method} {c : Code} {D : va_G} {aK aV : Nat → Nat} {A : Nat → Prop} {cB cI cJ : ClassId} {q : Nat → Nat} {H : Heap} {locs : List Loc} {ls : Array Slot} {ρ : MSt} {a1 : Int32} {a2 : Int64} {σ : MSt} (G : CX p s m args meth c D (gTy cB cI cJ) aK aV A RX5 cX5_puts 6 none) (hl : lv_has ls 6 [(0, .ref (q 0)), (1, .int a1), (2, .long a2)]) (hP : va_P D vwCl (mW cB cI cJ q σ) H) (hD : va_D A (mW cB cI cJ q σ)) (hS : va_S A s.heap H locs) (hf : mm_puts_b36 a1 a2 σ = some ρ) : W p l e (rm_mm_puts) s m args below meth c H locs 0 0 (MQ below (cQ D (gTy cB cI cJ) A (mW cB cI cJ q ρ) none) args s 0 0 A) (F0 m 36 ls []) := by
  unfold mm_puts_b36 at hf
  obtain ⟨hx, hb, hml, hown, hT, hrt, hlk, hK, hA, hG, hE⟩ := id G
  refine lv_lload_n hx hb dX5_puts_36 rfl (lv_at hl 2 rfl) ?_
  refine lv_lconst (v := (0 : Int64)) hx hb dX5_puts_37 (by decide) ?_
  refine W.lcmp hx hb dX5_puts_38 ?_
  refine lv_if_lt (tgt := 54) hx hb dX5_puts_39 (by decide) (fun c9 => ?_) (fun c9 => ?_)
  · have hf := (if_pos ((lg_cmp_lt _ _).mp c9)).symm.trans hf
    exact W.eq (g2 := F0 m 54 ls []) rfl (mm_puts_t54 G (lv_sub hl [0, 1, 2] rfl) hP hD hS hf)
  · have hf := (if_neg (fun z => c9 ((lg_cmp_lt _ _).mpr z))).symm.trans hf
    refine lv_lload_n hx hb dX5_puts_42 rfl (lv_at hl 2 rfl) ?_
    refine lv_ldc2 (v := (65536 : Int64)) hx hb hown (hT _ wc_X5_217) dX5_puts_43 ?_
    refine W.lcmp hx hb dX5_puts_46 ?_
    refine lv_if_ge (tgt := 54) hx hb dX5_puts_47 (by decide) (fun c10 => ?_) (fun c10 => ?_)
    · have hf := (if_pos ((lg_cmp_ge _ _).mp c10)).symm.trans hf
      exact W.eq (g2 := F0 m 54 ls []) rfl (mm_puts_t54 G (lv_sub hl [0, 1, 2] rfl) hP hD hS hf)
    · have hf := (if_neg (fun z => c10 ((lg_cmp_ge _ _).mpr z))).symm.trans hf
      refine lv_iconst (v := (2 : Int32)) hx hb dX5_puts_50 (by decide) ?_
      refine lv_goto (tgt := 69) hx hb dX5_puts_51 (by decide) ?_
      exact W.eq (g2 := F0 m 69 ls [.int (2 : Int32)]) rfl (mm_puts_t69 G (lv_sub hl [0, 1, 2] rfl) hP hD hS hf)
set_option maxHeartbeats 4000000 in
set_option maxRecDepth 100000 in
theorem mm_puts_t18 {p : Program} {l : Launch} {e : Env} {s : State} {m : MethodId} {args : Array Value} {below : List Frame} {meth : Method} {c : Code} {D : va_G} {aK aV : Nat → Nat} {A : Nat → Prop} {cB cI cJ : ClassId} {q : Nat → Nat} {H : Heap} {locs : List Loc} {ls : Array Slot} {ρ : MSt} {a1 : Int32} {a2 : Int64} {σ : MSt} (G : CX p s m args meth c D (gTy cB cI cJ) aK aV A RX5 cX5_puts 6 none) (hl : lv_has ls 6 [(0, .ref (q 0)), (1, .int a1), (2, .long a2)]) (hP : va_P D vwCl (mW cB cI cJ q σ) H) (hD : va_D A (mW cB cI cJ q σ)) (hS : va_S A s.heap H locs) (hf : mm_puts_b18 a1 a2 σ = some ρ) : W p l e (rm_mm_puts) s m args below meth c H locs 0 0 (MQ below (cQ D (gTy cB cI cJ) A (mW cB cI cJ q ρ) none) args s 0 0 A) (F0 m 18 ls []) := by
  unfold mm_puts_b18 at hf
  obtain ⟨hx, hb, hml, hown, hT, hrt, hlk, hK, hA, hG, hE⟩ := id G
  refine lv_lload_n hx hb dX5_puts_18 rfl (lv_at hl 2 rfl) ?_
  refine lv_lconst (v := (0 : Int64)) hx hb dX5_puts_19 (by decide) ?_
  refine W.lcmp hx hb dX5_puts_20 ?_
  refine lv_if_lt (tgt := 36) hx hb dX5_puts_21 (by decide) (fun c3 => ?_) (fun c3 => ?_)
  · have hf := (if_pos ((lg_cmp_lt _ _).mp c3)).symm.trans hf
    exact W.eq (g2 := F0 m 36 ls []) rfl (mm_puts_t36 G (lv_sub hl [0, 1, 2] rfl) hP hD hS hf)
  · have hf := (if_neg (fun z => c3 ((lg_cmp_lt _ _).mpr z))).symm.trans hf
    refine lv_lload_n hx hb dX5_puts_24 rfl (lv_at hl 2 rfl) ?_
    refine lv_ldc2 (v := (256 : Int64)) hx hb hown (hT _ wc_X5_215) dX5_puts_25 ?_
    refine W.lcmp hx hb dX5_puts_28 ?_
    refine lv_if_ge (tgt := 36) hx hb dX5_puts_29 (by decide) (fun c4 => ?_) (fun c4 => ?_)
    · have hf := (if_pos ((lg_cmp_ge _ _).mp c4)).symm.trans hf
      exact W.eq (g2 := F0 m 36 ls []) rfl (mm_puts_t36 G (lv_sub hl [0, 1, 2] rfl) hP hD hS hf)
    · have hf := (if_neg (fun z => c4 ((lg_cmp_ge _ _).mpr z))).symm.trans hf
      refine lv_iconst (v := (1 : Int32)) hx hb dX5_puts_32 (by decide) ?_
      refine lv_goto (tgt := 69) hx hb dX5_puts_33 (by decide) ?_
      exact W.eq (g2 := F0 m 69 ls [.int (1 : Int32)]) rfl (mm_puts_t69 G (lv_sub hl [0, 1, 2] rfl) hP hD hS hf)
set_option maxHeartbeats 4000000 in
set_option maxRecDepth 100000 in
theorem mm_puts_t0e {p : Program} {l : Launch} {e : Env} {s : State} {m : MethodId} {args : Array Value} {below : List Frame} {meth : Method} {c : Code} {D : va_G} {aK aV : Nat → Nat} {A : Nat → Prop} {cB cI cJ : ClassId} {q : Nat → Nat} {H : Heap} {locs : List Loc} {ls : Array Slot} {ρ : MSt} {p0 : Int32} {p1 : Int64} {σ : MSt} (G : CX p s m args meth c D (gTy cB cI cJ) aK aV A RX5 cX5_puts 6 none) (hl : lv_has ls 6 [(0, .ref (q 0)), (1, .int p0), (2, .long p1)]) (hP : va_P D vwCl (mW cB cI cJ q σ) H) (hD : va_D A (mW cB cI cJ q σ)) (hS : va_S A s.heap H locs) (hf : mm_puts p0 p1 σ = some ρ) : W p l e (rm_mm_puts) s m args below meth c H locs 0 0 (MQ below (cQ D (gTy cB cI cJ) A (mW cB cI cJ q ρ) none) args s 0 0 A) (F0 m 0 ls []) := by
  unfold mm_puts at hf
  obtain ⟨hx, hb, hml, hown, hT, hrt, hlk, hK, hA, hG, hE⟩ := id G
  refine lv_lload_n hx hb dX5_puts_0 rfl (lv_at hl 2 rfl) ?_
  refine lv_lconst (v := (0 : Int64)) hx hb dX5_puts_1 (by decide) ?_
  refine W.lcmp hx hb dX5_puts_2 ?_
  refine lv_if_lt (tgt := 18) hx hb dX5_puts_3 (by decide) (fun c1 => ?_) (fun c1 => ?_)
  · have hf := (if_pos ((lg_cmp_lt _ _).mp c1)).symm.trans hf
    exact W.eq (g2 := F0 m 18 ls []) rfl (mm_puts_t18 G (lv_sub hl [0, 1, 2] rfl) hP hD hS hf)
  · have hf := (if_neg (fun z => c1 ((lg_cmp_lt _ _).mpr z))).symm.trans hf
    refine lv_lload_n hx hb dX5_puts_6 rfl (lv_at hl 2 rfl) ?_
    refine lv_ldc2 (v := (24 : Int64)) hx hb hown (hT _ wc_X5_195) dX5_puts_7 ?_
    refine W.lcmp hx hb dX5_puts_10 ?_
    refine lv_if_ge (tgt := 18) hx hb dX5_puts_11 (by decide) (fun c2 => ?_) (fun c2 => ?_)
    · have hf := (if_pos ((lg_cmp_ge _ _).mp c2)).symm.trans hf
      exact W.eq (g2 := F0 m 18 ls []) rfl (mm_puts_t18 G (lv_sub hl [0, 1, 2] rfl) hP hD hS hf)
    · have hf := (if_neg (fun z => c2 ((lg_cmp_ge _ _).mpr z))).symm.trans hf
      refine lv_iconst (v := (0 : Int32)) hx hb dX5_puts_14 (by decide) ?_
      refine lv_goto (tgt := 69) hx hb dX5_puts_15 (by decide) ?_
      exact W.eq (g2 := F0 m 69 ls [.int (0 : Int32)]) rfl (mm_puts_t69 G (lv_sub hl [0, 1, 2] rfl) hP hD hS hf)
set_option maxHeartbeats 4000000 in
set_option maxRecDepth 100000 in
theorem c_mm_puts {l : Launch} {D : va_G} {aK aV : Nat → Nat} {cB cI cJ : ClassId} {q : Nat → Nat} {ρ : MSt} {p0 : Int32} {p1 : Int64} {σ : MSt} (hf : mm_puts p0 p1 σ = some ρ) : CT l D (gTy cB cI cJ) aK aV yX5_puts (wM yX5_puts cX5_puts 6 none) (rm_mm_puts) 0 0 [.ref (q 0), .int p0, .long p1] (mW cB cI cJ q σ) none (mW cB cI cJ q ρ) := by
  refine CT.of (by decide) rfl ?_
  intro p e s m below meth c A G hnm hP hD hS
  have hl := lv_entry [.ref (q 0), .int p0, .long p1] (n := 6) (Nat.le_of_ble_eq_true rfl)
  rw [lg_entry_eq]
  generalize (lg_sl [.ref (q 0), .int p0, .long p1] ++ List.replicate (6 - (lg_sl [.ref (q 0), .int p0, .long p1]).length) Slot.unset).toArray = ls at hl ⊢
  exact mm_puts_t0e G hl hP hD hS hf
