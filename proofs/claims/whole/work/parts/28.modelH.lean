/-! THE REFERENCE: writing (printed by program wip/gen) -/
def mm_putsNumber_b47 (k35 : Int64 → Int32 → MSt → Option (MSt)) (a4 : Int64) (a6 : Int32) (σ : MSt) : Option (MSt) := lt (((Int64.toUInt64 a4 >>> ((Int32.toInt64 (1 : Int32)).toUInt64 &&& Int64.toUInt64 63)).toInt64) / (5 : Int64)) (fun (v9 : Int64) => ck a6 24 (lt (a6 + (1 : Int32)) (fun (v11 : Int32) => k35 v9 v11 (ms_figures σ (upd (mf_figures σ) (a6).toNatClampNeg (Int64.toInt32 (a4 - ((10 : Int64) * v9))))))))
def mm_putsNumber_b90 (k90 : Int32 → MSt → Option (MSt)) (a7 : Int32) (σ : MSt) : Option (MSt) := (if a7 < 0 then some σ else ck a7 24 (bd (mm_put ((48 : Int32) + ((mf_figures σ) (a7).toNatClampNeg)) σ) (fun (x14 : MSt) => lt (a7 + (-1 : Int32)) (fun (v15 : Int32) => k90 v15 x14))))
def mm_putsNumber_L90 : Nat → Int32 → MSt → Option (MSt)
  | 0, _, _ => none
  | n + 1, a7, σ => mm_putsNumber_b90 (mm_putsNumber_L90 n) a7 σ
def mm_putsNumber_b35 (k35 : Int64 → Int32 → MSt → Option (MSt)) (a4 : Int64) (a6 : Int32) (σ : MSt) : Option (MSt) := (if a6 = 0 then mm_putsNumber_b47 k35 a4 a6 σ else (if a4 = (0 : Int64) then lt (a6 - (1 : Int32)) (fun (v8 : Int32) => mm_putsNumber_L90 FU v8 σ) else mm_putsNumber_b47 k35 a4 a6 σ))
def mm_putsNumber_L35 : Nat → Int64 → Int32 → MSt → Option (MSt)
  | 0, _, _, _ => none
  | n + 1, a4, a6, σ => mm_putsNumber_b35 (mm_putsNumber_L35 n) a4 a6 σ
def mm_putsNumber_b19 (a1 : Int64) (a3 : Int32) (σ : MSt) : Option (MSt) := (if a3 = 0 then mm_putsNumber_L35 FU a1 (0 : Int32) σ else lt (a1 + (1 : Int64)) (fun (v5 : Int64) => mm_putsNumber_L35 FU v5 (0 : Int32) σ))
def mm_putsNumber (p0 : Int64) (p1 : Int32) (σ : MSt) : Option (MSt) := (if p1 = 0 then mm_putsNumber_b19 p0 p1 σ else (if p0 = (-1 : Int64) then bd (mm_putsWord 4  σ) (fun (x3 : MSt) => some x3) else mm_putsNumber_b19 p0 p1 σ))
abbrev rm_mm_putsNumber : Room := { frames := 5, cells := 0, slots := 0, locals := 107 }
set_option maxHeartbeats 4000000 in
set_option maxRecDepth 100000 in
theorem mm_putsNumber_t47 {p : Program} {l : Launch} {e : Env} {s : State} {m : MethodId} {args : Array Value} {below : List Frame} {meth : Method} {c : Code} {D : va_G} {aK aV : Nat → Nat} {A : Nat → Prop} {cB cI cJ : ClassId} {q : Nat → Nat} {H : Heap} {locs : List Loc} {ls : Array Slot} {ρ : MSt} {k35 : Int64 → Int32 → MSt → Option (MSt)} {a4 : Int64} {a6 : Int32} {σ : MSt} (G : CX p s m args meth c D (gTy cB cI cJ) aK aV A RX5 cX5_putsNumber 9 none) (hk35 : ∀ (a4 : Int64) (a6 : Int32) (σ : MSt) (H : Heap) (locs : List Loc) (ls : Array Slot), lv_has ls 9 [(0, .ref (q 0)), (4, .long a4), (6, .int a6)] → va_P D vwCl (mW cB cI cJ q σ) H → va_D A (mW cB cI cJ q σ) → va_S A s.heap H locs → k35 a4 a6 σ = some ρ → W p l e (rm_mm_putsNumber) s m args below meth c H locs 0 0 (MQ below (cQ D (gTy cB cI cJ) A (mW cB cI cJ q ρ) none) args s 0 0 A) (F0 m 35 ls [])) (hl : lv_has ls 9 [(0, .ref (q 0)), (4, .long a4), (6, .int a6)]) (hP : va_P D vwCl (mW cB cI cJ q σ) H) (hD : va_D A (mW cB cI cJ q σ)) (hS : va_S A s.heap H locs) (hf : mm_putsNumber_b47 k35 a4 a6 σ = some ρ) : W p l e (rm_mm_putsNumber) s m args below meth c H locs 0 0 (MQ below (cQ D (gTy cB cI cJ) A (mW cB cI cJ q ρ) none) args s 0 0 A) (F0 m 47 ls []) := by
  unfold mm_putsNumber_b47 at hf
  obtain ⟨hx, hb, hml, hown, hT, hrt, hlk, hK, hA, hG, hE⟩ := id G
  refine lv_lload hx hb dX5_putsNumber_47 (lv_at hl 1 rfl) ?_
  refine lv_iconst (v := (1 : Int32)) hx hb dX5_putsNumber_49 (by decide) ?_
  refine lv_lushr (v := ((Int64.toUInt64 a4 >>> ((Int32.toInt64 (1 : Int32)).toUInt64 &&& Int64.toUInt64 63)).toInt64)) hx hb dX5_putsNumber_50 rfl ?_
  refine lv_ldc2 (v := (5 : Int64)) hx hb hown (hT _ wc_X5_238) dX5_putsNumber_51 ?_
  refine lv_ldiv hx hb dX5_putsNumber_54 (by decide) ?_
  refine lv_topl (fun v9 ev9 => ?_)
  have hf := lt_eq hf ev9
  refine lv_lstore (lv' := [(7, .long v9), (0, .ref (q 0)), (4, .long a4), (6, .int a6)]) hx hb dX5_putsNumber_55 hl (by decide) rfl (fun ls hl => ?_)
  refine lv_aload_n hx hb dX5_putsNumber_57 rfl (lv_at hl 1 rfl) ?_
  refine gm_X5_figures G hP dX5_putsNumber_58 ?_
  refine lv_iload hx hb dX5_putsNumber_61 (lv_at hl 3 rfl) ?_
  refine lv_lload hx hb dX5_putsNumber_63 (lv_at hl 2 rfl) ?_
  refine lv_ldc2 (v := (10 : Int64)) hx hb hown (hT _ wc_X5_121) dX5_putsNumber_65 ?_
  refine lv_lload hx hb dX5_putsNumber_68 (lv_at hl 0 rfl) ?_
  refine lv_lmul hx hb dX5_putsNumber_70 ?_
  refine lv_lsub hx hb dX5_putsNumber_71 ?_
  refine lv_l2i (v := (Int64.toInt32 (a4 - ((10 : Int64) * v9)))) hx hb dX5_putsNumber_72 rfl ?_
  obtain ⟨hi10, hf⟩ := ck_some hf
  refine sm_figures (f := (mf_figures σ)) G hP hD hS hi10 dX5_putsNumber_73 rfl (fun H locs hP hD hS => ?_)
  obtain ⟨v11, ev11⟩ : ∃ y : Int32, y = (a6 + (1 : Int32)) := ⟨_, rfl⟩
  have hf := lt_eq hf ev11
  refine lv_iinc (v := v11) (lv' := [(6, .int v11), (7, .long v9), (0, .ref (q 0)), (4, .long a4)]) hx hb dX5_putsNumber_74 hl (k := 3) rfl (by rw [ev11]; rfl) (by decide) rfl (fun ls hl => ?_)
  refine lv_lload hx hb dX5_putsNumber_77 (lv_at hl 1 rfl) ?_
  refine lv_lstore (lv' := [(4, .long v9), (6, .int v11), (7, .long v9), (0, .ref (q 0))]) hx hb dX5_putsNumber_79 hl (by decide) rfl (fun ls hl => ?_)
  refine lv_goto (tgt := 35) hx hb dX5_putsNumber_81 (by decide) ?_
  exact W.eq (g2 := F0 m 35 ls []) rfl (hk35 _ _ _ _ _ _ (lv_sub hl [3, 0, 1] rfl) hP hD hS hf)
set_option maxHeartbeats 4000000 in
set_option maxRecDepth 100000 in
theorem mm_putsNumber_t90 {p : Program} {l : Launch} {e : Env} {s : State} {m : MethodId} {args : Array Value} {below : List Frame} {meth : Method} {c : Code} {D : va_G} {aK aV : Nat → Nat} {A : Nat → Prop} {cB cI cJ : ClassId} {q : Nat → Nat} {H : Heap} {locs : List Loc} {ls : Array Slot} {ρ : MSt} {k90 : Int32 → MSt → Option (MSt)} {a7 : Int32} {σ : MSt} (G : CX p s m args meth c D (gTy cB cI cJ) aK aV A RX5 cX5_putsNumber 9 none) (hk90 : ∀ (a7 : Int32) (σ : MSt) (H : Heap) (locs : List Loc) (ls : Array Slot), lv_has ls 9 [(0, .ref (q 0)), (7, .int a7)] → va_P D vwCl (mW cB cI cJ q σ) H → va_D A (mW cB cI cJ q σ) → va_S A s.heap H locs → k90 a7 σ = some ρ → W p l e (rm_mm_putsNumber) s m args below meth c H locs 0 0 (MQ below (cQ D (gTy cB cI cJ) A (mW cB cI cJ q ρ) none) args s 0 0 A) (F0 m 90 ls [])) (hl : lv_has ls 9 [(0, .ref (q 0)), (7, .int a7)]) (hP : va_P D vwCl (mW cB cI cJ q σ) H) (hD : va_D A (mW cB cI cJ q σ)) (hS : va_S A s.heap H locs) (hf : mm_putsNumber_b90 k90 a7 σ = some ρ) : W p l e (rm_mm_putsNumber) s m args below meth c H locs 0 0 (MQ below (cQ D (gTy cB cI cJ) A (mW cB cI cJ q ρ) none) args s 0 0 A) (F0 m 90 ls []) := by
  unfold mm_putsNumber_b90 at hf
  obtain ⟨hx, hb, hml, hown, hT, hrt, hlk, hK, hA, hG, hE⟩ := id G
  refine lv_iload hx hb dX5_putsNumber_90 (lv_at hl 1 rfl) ?_
  refine lv_if_lt (tgt := 115) hx hb dX5_putsNumber_92 (by decide) (fun c12 => ?_) (fun c12 => ?_)
  · have hf := (if_pos c12).symm.trans hf
    cases hf
    exact ct_vret G hP hD hS dX5_putsNumber_115
  · have hf := (if_neg c12).symm.trans hf
    refine lv_aload_n hx hb dX5_putsNumber_95 rfl (lv_at hl 0 rfl) ?_
    refine lv_bipush (v := (48 : Int32)) hx hb dX5_putsNumber_96 (by decide) ?_
    refine lv_aload_n hx hb dX5_putsNumber_98 rfl (lv_at hl 0 rfl) ?_
    refine gm_X5_figures G hP dX5_putsNumber_99 ?_
    refine lv_iload hx hb dX5_putsNumber_102 (lv_at hl 1 rfl) ?_
    obtain ⟨hi13, hf⟩ := ck_some hf
    refine lm_figures (f := (mf_figures σ)) G hP hi13 dX5_putsNumber_104 rfl ?_
    refine lv_iadd hx hb dX5_putsNumber_105 ?_
    obtain ⟨x14, hx14, hf⟩ := bd_some hf
    refine vM (As := [.int ((48 : Int32) + ((mf_figures σ) (a7).toNatClampNeg))]) (rest := []) G kX5_219 (c_mm_put hx14) hP hD hS ⟨rfl, rfl, Nat.le_of_ble_eq_true rfl, Nat.le_of_ble_eq_true rfl⟩ ⟨Nat.zero_le _, Nat.zero_le _⟩ rfl hl.1 (Nat.le_of_ble_eq_true rfl) dX5_putsNumber_106 (fun H locs hP hD hS => ?_)
    refine W.eq (g2 := F0 m 109 ls []) rfl ?_
    obtain ⟨v15, ev15⟩ : ∃ y : Int32, y = (a7 + (-1 : Int32)) := ⟨_, rfl⟩
    have hf := lt_eq hf ev15
    refine lv_iinc (v := v15) (lv' := [(7, .int v15), (0, .ref (q 0))]) hx hb dX5_putsNumber_109 hl (k := 1) rfl (by rw [ev15]; rfl) (by decide) rfl (fun ls hl => ?_)
    refine lv_goto (tgt := 90) hx hb dX5_putsNumber_112 (by decide) ?_
    exact W.eq (g2 := F0 m 90 ls []) rfl (hk90 _ _ _ _ _ (lv_sub hl [1, 0] rfl) hP hD hS hf)
set_option maxHeartbeats 4000000 in
set_option maxRecDepth 100000 in
theorem mm_putsNumber_u90 {p : Program} {l : Launch} {e : Env} {s : State} {m : MethodId} {args : Array Value} {below : List Frame} {meth : Method} {c : Code} {D : va_G} {aK aV : Nat → Nat} {A : Nat → Prop} {cB cI cJ : ClassId} {q : Nat → Nat} {ρ : MSt} (G : CX p s m args meth c D (gTy cB cI cJ) aK aV A RX5 cX5_putsNumber 9 none) : ∀ (n : Nat) {a7 : Int32} {σ : MSt} {H : Heap} {locs : List Loc} {ls : Array Slot} (hl : lv_has ls 9 [(0, .ref (q 0)), (7, .int a7)]) (hP : va_P D vwCl (mW cB cI cJ q σ) H) (hD : va_D A (mW cB cI cJ q σ)) (hS : va_S A s.heap H locs) (hf : mm_putsNumber_L90 n a7 σ = some ρ), W p l e (rm_mm_putsNumber) s m args below meth c H locs 0 0 (MQ below (cQ D (gTy cB cI cJ) A (mW cB cI cJ q ρ) none) args s 0 0 A) (F0 m 90 ls []) := by
  intro n
  induction n with
  | zero =>
    intros
    rename_i hf
    cases hf
  | succ n ih =>
    intro a7 σ H locs ls hl hP hD hS hf
    exact mm_putsNumber_t90 G (fun _ _ H locs ls hl hP hD hS hf => ih hl hP hD hS hf) hl hP hD hS hf
set_option maxHeartbeats 4000000 in
set_option maxRecDepth 100000 in
theorem mm_putsNumber_t35 {p : Program} {l : Launch} {e : Env} {s : State} {m : MethodId} {args : Array Value} {below : List Frame} {meth : Method} {c : Code} {D : va_G} {aK aV : Nat → Nat} {A : Nat → Prop} {cB cI cJ : ClassId} {q : Nat → Nat} {H : Heap} {locs : List Loc} {ls : Array Slot} {ρ : MSt} {k35 : Int64 → Int32 → MSt → Option (MSt)} {a4 : Int64} {a6 : Int32} {σ : MSt} (G : CX p s m args meth c D (gTy cB cI cJ) aK aV A RX5 cX5_putsNumber 9 none) (hk35 : ∀ (a4 : Int64) (a6 : Int32) (σ : MSt) (H : Heap) (locs : List Loc) (ls : Array Slot), lv_has ls 9 [(0, .ref (q 0)), (4, .long a4), (6, .int a6)] → va_P D vwCl (mW cB cI cJ q σ) H → va_D A (mW cB cI cJ q σ) → va_S A s.heap H locs → k35 a4 a6 σ = some ρ → W p l e (rm_mm_putsNumber) s m args below meth c H locs 0 0 (MQ below (cQ D (gTy cB cI cJ) A (mW cB cI cJ q ρ) none) args s 0 0 A) (F0 m 35 ls [])) (hl : lv_has ls 9 [(0, .ref (q 0)), (4, .long a4), (6, .int a6)]) (hP : va_P D vwCl (mW cB cI cJ q σ) H) (hD : va_D A (mW cB cI cJ q σ)) (hS : va_S A s.heap H locs) (hf : mm_putsNumber_b35 k35 a4 a6 σ = some ρ) : W p l e (rm_mm_putsNumber) s m args below meth c H locs 0 0 (MQ below (cQ D (gTy cB cI cJ) A (mW cB cI cJ q ρ) none) args s 0 0 A) (F0 m 35 ls []) := by
  unfold mm_putsNumber_b35 at hf
  obtain ⟨hx, hb, hml, hown, hT, hrt, hlk, hK, hA, hG, hE⟩ := id G
  refine lv_iload hx hb dX5_putsNumber_35 (lv_at hl 2 rfl) ?_
  refine lv_if_eq (tgt := 47) hx hb dX5_putsNumber_37 (by decide) (fun c6 => ?_) (fun c6 => ?_)
  · have hf := (if_pos c6).symm.trans hf
    exact W.eq (g2 := F0 m 47 ls []) rfl (mm_putsNumber_t47 G hk35 (lv_sub hl [0, 1, 2] rfl) hP hD hS hf)
  · have hf := (if_neg c6).symm.trans hf
    refine lv_lload hx hb dX5_putsNumber_40 (lv_at hl 1 rfl) ?_
    refine lv_lconst (v := (0 : Int64)) hx hb dX5_putsNumber_42 (by decide) ?_
    refine W.lcmp hx hb dX5_putsNumber_43 ?_
    refine lv_if_eq (tgt := 84) hx hb dX5_putsNumber_44 (by decide) (fun c7 => ?_) (fun c7 => ?_)
    · have hf := (if_pos ((lg_cmp_eq _ _).mp c7)).symm.trans hf
      refine lv_iload hx hb dX5_putsNumber_84 (lv_at hl 2 rfl) ?_
      refine lv_iconst (v := (1 : Int32)) hx hb dX5_putsNumber_86 (by decide) ?_
      refine lv_isub hx hb dX5_putsNumber_87 ?_
      refine lv_topi (fun v8 ev8 => ?_)
      have hf := lt_eq hf ev8
      refine lv_istore (lv' := [(7, .int v8), (0, .ref (q 0)), (4, .long a4), (6, .int a6)]) hx hb dX5_putsNumber_88 hl (by decide) rfl (fun ls hl => ?_)
      exact W.eq (g2 := F0 m 90 ls []) rfl (mm_putsNumber_u90 G FU (lv_sub hl [1, 0] rfl) hP hD hS hf)
    · have hf := (if_neg (fun z => c7 ((lg_cmp_eq _ _).mpr z))).symm.trans hf
      exact W.eq (g2 := F0 m 47 ls []) rfl (mm_putsNumber_t47 G hk35 (lv_sub hl [0, 1, 2] rfl) hP hD hS hf)
set_option maxHeartbeats 4000000 in
set_option maxRecDepth 100000 in
theorem mm_putsNumber_u35 {p : Program} {l : Launch} {e : Env} {s : State} {m : MethodId} {args : Array Value} {below : List Frame} {meth : Method} {c : Code} {D : va_G} {aK aV : Nat → Nat} {A : Nat → Prop} {cB cI cJ : ClassId} {q : Nat → Nat} {ρ : MSt} (G : CX p s m args meth c D (gTy cB cI cJ) aK aV A RX5 cX5_putsNumber 9 none) : ∀ (n : Nat) {a4 : Int64} {a6 : Int32} {σ : MSt} {H : Heap} {locs : List Loc} {ls : Array Slot} (hl : lv_has ls 9 [(0, .ref (q 0)), (4, .long a4), (6, .int a6)]) (hP : va_P D vwCl (mW cB cI cJ q σ) H) (hD : va_D A (mW cB cI cJ q σ)) (hS : va_S A s.heap H locs) (hf : mm_putsNumber_L35 n a4 a6 σ = some ρ), W p l e (rm_mm_putsNumber) s m args below meth c H locs 0 0 (MQ below (cQ D (gTy cB cI cJ) A (mW cB cI cJ q ρ) none) args s 0 0 A) (F0 m 35 ls []) := by
  intro n
  induction n with
  | zero =>
    intros
    rename_i hf
    cases hf
  | succ n ih =>
    intro a4 a6 σ H locs ls hl hP hD hS hf
    exact mm_putsNumber_t35 G (fun _ _ _ H locs ls hl hP hD hS hf => ih hl hP hD hS hf) hl hP hD hS hf
set_option maxHeartbeats 4000000 in
set_option maxRecDepth 100000 in
theorem mm_putsNumber_t19 {p : Program} {l : Launch} {e : Env} {s : State} {m : MethodId} {args : Array Value} {below : List Frame} {meth : Method} {c : Code} {D : va_G} {aK aV : Nat → Nat} {A : Nat → Prop} {cB cI cJ : ClassId} {q : Nat → Nat} {H : Heap} {locs : List Loc} {ls : Array Slot} {ρ : MSt} {a1 : Int64} {a3 : Int32} {σ : MSt} (G : CX p s m args meth c D (gTy cB cI cJ) aK aV A RX5 cX5_putsNumber 9 none) (hl : lv_has ls 9 [(0, .ref (q 0)), (1, .long a1), (3, .int a3)]) (hP : va_P D vwCl (mW cB cI cJ q σ) H) (hD : va_D A (mW cB cI cJ q σ)) (hS : va_S A s.heap H locs) (hf : mm_putsNumber_b19 a1 a3 σ = some ρ) : W p l e (rm_mm_putsNumber) s m args below meth c H locs 0 0 (MQ below (cQ D (gTy cB cI cJ) A (mW cB cI cJ q ρ) none) args s 0 0 A) (F0 m 19 ls []) := by
  unfold mm_putsNumber_b19 at hf
  obtain ⟨hx, hb, hml, hown, hT, hrt, hlk, hK, hA, hG, hE⟩ := id G
  refine lv_iload_n hx hb dX5_putsNumber_19 rfl (lv_at hl 2 rfl) ?_
  refine lv_if_eq (tgt := 29) hx hb dX5_putsNumber_20 (by decide) (fun c4 => ?_) (fun c4 => ?_)
  · have hf := (if_pos c4).symm.trans hf
    refine lv_lload_n hx hb dX5_putsNumber_29 rfl (lv_at hl 1 rfl) ?_
    refine lv_lstore (lv' := [(4, .long a1), (0, .ref (q 0)), (1, .long a1), (3, .int a3)]) hx hb dX5_putsNumber_30 hl (by decide) rfl (fun ls hl => ?_)
    refine lv_iconst (v := (0 : Int32)) hx hb dX5_putsNumber_32 (by decide) ?_
    refine lv_istore (lv' := [(6, .int (0 : Int32)), (4, .long a1), (0, .ref (q 0)), (1, .long a1), (3, .int a3)]) hx hb dX5_putsNumber_33 hl (by decide) rfl (fun ls hl => ?_)
    exact W.eq (g2 := F0 m 35 ls []) rfl (mm_putsNumber_u35 G FU (lv_sub hl [2, 1, 0] rfl) hP hD hS hf)
  · have hf := (if_neg c4).symm.trans hf
    refine lv_lload_n hx hb dX5_putsNumber_23 rfl (lv_at hl 1 rfl) ?_
    refine lv_lconst (v := (1 : Int64)) hx hb dX5_putsNumber_24 (by decide) ?_
    refine lv_ladd hx hb dX5_putsNumber_25 ?_
    refine lv_goto (tgt := 30) hx hb dX5_putsNumber_26 (by decide) ?_
    refine lv_topl (fun v5 ev5 => ?_)
    have hf := lt_eq hf ev5
    refine lv_lstore (lv' := [(4, .long v5), (0, .ref (q 0)), (1, .long a1), (3, .int a3)]) hx hb dX5_putsNumber_30 hl (by decide) rfl (fun ls hl => ?_)
    refine lv_iconst (v := (0 : Int32)) hx hb dX5_putsNumber_32 (by decide) ?_
    refine lv_istore (lv' := [(6, .int (0 : Int32)), (4, .long v5), (0, .ref (q 0)), (1, .long a1), (3, .int a3)]) hx hb dX5_putsNumber_33 hl (by decide) rfl (fun ls hl => ?_)
    exact W.eq (g2 := F0 m 35 ls []) rfl (mm_putsNumber_u35 G FU (lv_sub hl [2, 1, 0] rfl) hP hD hS hf)
set_option maxHeartbeats 4000000 in
set_option maxRecDepth 100000 in
theorem mm_putsNumber_t0e {p : Program} {l : Launch} {e : Env} {s : State} {m : MethodId} {args : Array Value} {below : List Frame} {meth : Method} {c : Code} {D : va_G} {aK aV : Nat → Nat} {A : Nat → Prop} {cB cI cJ : ClassId} {q : Nat → Nat} {H : Heap} {locs : List Loc} {ls : Array Slot} {ρ : MSt} {p0 : Int64} {p1 : Int32} {σ : MSt} (G : CX p s m args meth c D (gTy cB cI cJ) aK aV A RX5 cX5_putsNumber 9 none) (hl : lv_has ls 9 [(0, .ref (q 0)), (1, .long p0), (3, .int p1)]) (hP : va_P D vwCl (mW cB cI cJ q σ) H) (hD : va_D A (mW cB cI cJ q σ)) (hS : va_S A s.heap H locs) (hf : mm_putsNumber p0 p1 σ = some ρ) : W p l e (rm_mm_putsNumber) s m args below meth c H locs 0 0 (MQ below (cQ D (gTy cB cI cJ) A (mW cB cI cJ q ρ) none) args s 0 0 A) (F0 m 0 ls []) := by
  unfold mm_putsNumber at hf
  obtain ⟨hx, hb, hml, hown, hT, hrt, hlk, hK, hA, hG, hE⟩ := id G
  refine lv_iload_n hx hb dX5_putsNumber_0 rfl (lv_at hl 2 rfl) ?_
  refine lv_if_eq (tgt := 19) hx hb dX5_putsNumber_1 (by decide) (fun c1 => ?_) (fun c1 => ?_)
  · have hf := (if_pos c1).symm.trans hf
    exact W.eq (g2 := F0 m 19 ls []) rfl (mm_putsNumber_t19 G (lv_sub hl [0, 1, 2] rfl) hP hD hS hf)
  · have hf := (if_neg c1).symm.trans hf
    refine lv_lload_n hx hb dX5_putsNumber_4 rfl (lv_at hl 1 rfl) ?_
    refine lv_ldc2 (v := (-1 : Int64)) hx hb hown (hT _ wc_X5_232) dX5_putsNumber_5 ?_
    refine W.lcmp hx hb dX5_putsNumber_8 ?_
    refine lv_if_ne (tgt := 19) hx hb dX5_putsNumber_9 (by decide) (fun c2 => ?_) (fun c2 => ?_)
    · have hf := (if_neg (fun z => c2 ((lg_cmp_eq _ _).mpr z))).symm.trans hf
      exact W.eq (g2 := F0 m 19 ls []) rfl (mm_putsNumber_t19 G (lv_sub hl [0, 1, 2] rfl) hP hD hS hf)
    · have hf := (if_pos ((lg_cmp_eq _ _).mp c2)).symm.trans hf
      refine lv_aload_n hx hb dX5_putsNumber_12 rfl (lv_at hl 0 rfl) ?_
      refine va_ldcS hx hb hown (hG.1 _ (List.mem_of_getElem? (i := 10) rfl)) dX5_putsNumber_13 ?_
      obtain ⟨x3, hx3, hf⟩ := bd_some hf
      refine vM (As := [.ref (aK 4)]) (rest := []) G kX5_234 (c_mm_putsWord (by decide) hx3) hP hD hS ⟨rfl, rfl, Nat.le_of_ble_eq_true rfl, Nat.le_of_ble_eq_true rfl⟩ ⟨Nat.zero_le _, Nat.zero_le _⟩ rfl hl.1 (Nat.le_of_ble_eq_true rfl) dX5_putsNumber_15 (fun H locs hP hD hS => ?_)
      refine W.eq (g2 := F0 m 18 ls []) rfl ?_
      cases hf
      exact ct_vret G hP hD hS dX5_putsNumber_18
set_option maxHeartbeats 4000000 in
set_option maxRecDepth 100000 in
theorem c_mm_putsNumber {l : Launch} {D : va_G} {aK aV : Nat → Nat} {cB cI cJ : ClassId} {q : Nat → Nat} {ρ : MSt} {p0 : Int64} {p1 : Int32} {σ : MSt} (hf : mm_putsNumber p0 p1 σ = some ρ) : CT l D (gTy cB cI cJ) aK aV yX5_putsNumber (wM yX5_putsNumber cX5_putsNumber 9 none) (rm_mm_putsNumber) 0 0 [.ref (q 0), .long p0, .int p1] (mW cB cI cJ q σ) none (mW cB cI cJ q ρ) := by
  refine CT.of (by decide) rfl ?_
  intro p e s m below meth c A G hnm hP hD hS
  have hl := lv_entry [.ref (q 0), .long p0, .int p1] (n := 9) (Nat.le_of_ble_eq_true rfl)
  rw [lg_entry_eq]
  generalize (lg_sl [.ref (q 0), .long p0, .int p1] ++ List.replicate (9 - (lg_sl [.ref (q 0), .long p0, .int p1]).length) Slot.unset).toArray = ls at hl ⊢
  exact mm_putsNumber_t0e G hl hP hD hS hf
def mm_putsString_b168 (k8 : Int32 → Int32 → MSt → Option (MSt)) (a1 : Int32) (a2 : Int32) (a3 : Int32) (σ : MSt) : Option (MSt) := bd (mm_put a3 σ) (fun (x25 : MSt) => lt (a2 + (1 : Int32)) (fun (v26 : Int32) => k8 a1 v26 x25))
def mm_putsString_b105 (k8 : Int32 → Int32 → MSt → Option (MSt)) (a1 : Int32) (a2 : Int32) (a3 : Int32) (s0 : Int32) (σ : MSt) : Option (MSt) := (if s0 ≤ 0 then (if a3 < 0 then mm_putsString_b168 k8 a1 a2 a3 σ else (if (32 : Int32) ≤ a3 then mm_putsString_b168 k8 a1 a2 a3 σ else bd (mm_putsWord 5  σ) (fun (x18 : MSt) => bd (mm_put (eX5_shown (a3 / (16 : Int32))) x18) (fun (x19 : MSt) => bd (mm_put (eX5_shown (a3 - a3 / (16 : Int32) * (16 : Int32))) x19) (fun (x20 : MSt) => lt (a2 + (1 : Int32)) (fun (v21 : Int32) => k8 a1 v21 x20)))))) else bd (mm_put (92 : Int32) σ) (fun (x22 : MSt) => bd (mm_put s0 x22) (fun (x23 : MSt) => lt (a2 + (1 : Int32)) (fun (v24 : Int32) => k8 a1 v24 x23))))
def mm_putsString_b8 (k8 : Int32 → Int32 → MSt → Option (MSt)) (a1 : Int32) (a2 : Int32) (σ : MSt) : Option (MSt) := ck a1 4200 ((if (Int64.toInt32 ((mf_numbers σ) (a1).toNatClampNeg)) ≤ a2 then bd (mm_put (34 : Int32) σ) (fun (x4 : MSt) => some x4) else ck a1 4200 (ck (((mf_places σ) (a1).toNatClampNeg) + a2) 8200 (lt ((mf_letters σ) ((((mf_places σ) (a1).toNatClampNeg) + a2)).toNatClampNeg) (fun (v7 : Int32) => (if v7 = (34 : Int32) then mm_putsString_b105 k8 a1 a2 v7 v7 σ else (if v7 = (92 : Int32) then mm_putsString_b105 k8 a1 a2 v7 v7 σ else (if v7 = (8 : Int32) then mm_putsString_b105 k8 a1 a2 v7 (98 : Int32) σ else (if v7 = (9 : Int32) then mm_putsString_b105 k8 a1 a2 v7 (116 : Int32) σ else (if v7 = (10 : Int32) then mm_putsString_b105 k8 a1 a2 v7 (110 : Int32) σ else (if v7 = (12 : Int32) then mm_putsString_b105 k8 a1 a2 v7 (102 : Int32) σ else (if v7 = (13 : Int32) then mm_putsString_b105 k8 a1 a2 v7 (114 : Int32) σ else mm_putsString_b105 k8 a1 a2 v7 (0 : Int32) σ))))))))))))
def mm_putsString_L8 : Nat → Int32 → Int32 → MSt → Option (MSt)
  | 0, _, _, _ => none
  | n + 1, a1, a2, σ => mm_putsString_b8 (mm_putsString_L8 n) a1 a2 σ
def mm_putsString (p0 : Int32) (σ : MSt) : Option (MSt) := bd (mm_put (34 : Int32) σ) (fun (x1 : MSt) => mm_putsString_L8 FU p0 (0 : Int32) x1)
abbrev rm_mm_putsString : Room := { frames := 5, cells := 0, slots := 0, locals := 107 }
set_option maxHeartbeats 4000000 in
set_option maxRecDepth 100000 in
theorem mm_putsString_t168 {p : Program} {l : Launch} {e : Env} {s : State} {m : MethodId} {args : Array Value} {below : List Frame} {meth : Method} {c : Code} {D : va_G} {aK aV : Nat → Nat} {A : Nat → Prop} {cB cI cJ : ClassId} {q : Nat → Nat} {H : Heap} {locs : List Loc} {ls : Array Slot} {ρ : MSt} {k8 : Int32 → Int32 → MSt → Option (MSt)} {a1 : Int32} {a2 : Int32} {a3 : Int32} {σ : MSt} (G : CX p s m args meth c D (gTy cB cI cJ) aK aV A RX5 cX5_putsString 5 none) (hk8 : ∀ (a1 : Int32) (a2 : Int32) (σ : MSt) (H : Heap) (locs : List Loc) (ls : Array Slot), lv_has ls 5 [(0, .ref (q 0)), (1, .int a1), (2, .int a2)] → va_P D vwCl (mW cB cI cJ q σ) H → va_D A (mW cB cI cJ q σ) → va_S A s.heap H locs → k8 a1 a2 σ = some ρ → W p l e (rm_mm_putsString) s m args below meth c H locs 0 0 (MQ below (cQ D (gTy cB cI cJ) A (mW cB cI cJ q ρ) none) args s 0 0 A) (F0 m 8 ls [])) (hl : lv_has ls 5 [(0, .ref (q 0)), (1, .int a1), (2, .int a2), (3, .int a3)]) (hP : va_P D vwCl (mW cB cI cJ q σ) H) (hD : va_D A (mW cB cI cJ q σ)) (hS : va_S A s.heap H locs) (hf : mm_putsString_b168 k8 a1 a2 a3 σ = some ρ) : W p l e (rm_mm_putsString) s m args below meth c H locs 0 0 (MQ below (cQ D (gTy cB cI cJ) A (mW cB cI cJ q ρ) none) args s 0 0 A) (F0 m 168 ls []) := by
  unfold mm_putsString_b168 at hf
  obtain ⟨hx, hb, hml, hown, hT, hrt, hlk, hK, hA, hG, hE⟩ := id G
  refine lv_aload_n hx hb dX5_putsString_168 rfl (lv_at hl 0 rfl) ?_
  refine lv_iload_n hx hb dX5_putsString_169 rfl (lv_at hl 3 rfl) ?_
  obtain ⟨x25, hx25, hf⟩ := bd_some hf
  refine vM (As := [.int a3]) (rest := []) G kX5_219 (c_mm_put hx25) hP hD hS ⟨rfl, rfl, Nat.le_of_ble_eq_true rfl, Nat.le_of_ble_eq_true rfl⟩ ⟨Nat.zero_le _, Nat.zero_le _⟩ rfl hl.1 (Nat.le_of_ble_eq_true rfl) dX5_putsString_170 (fun H locs hP hD hS => ?_)
  refine W.eq (g2 := F0 m 173 ls []) rfl ?_
  obtain ⟨v26, ev26⟩ : ∃ y : Int32, y = (a2 + (1 : Int32)) := ⟨_, rfl⟩
  have hf := lt_eq hf ev26
  refine lv_iinc (v := v26) (lv' := [(2, .int v26), (0, .ref (q 0)), (1, .int a1), (3, .int a3)]) hx hb dX5_putsString_173 hl (k := 2) rfl (by rw [ev26]; rfl) (by decide) rfl (fun ls hl => ?_)
  refine lv_goto (tgt := 8) hx hb dX5_putsString_176 (by decide) ?_
  exact W.eq (g2 := F0 m 8 ls []) rfl (hk8 _ _ _ _ _ _ (lv_sub hl [1, 2, 0] rfl) hP hD hS hf)
set_option maxHeartbeats 4000000 in
set_option maxRecDepth 100000 in
theorem mm_putsString_t105 {p : Program} {l : Launch} {e : Env} {s : State} {m : MethodId} {args : Array Value} {below : List Frame} {meth : Method} {c : Code} {D : va_G} {aK aV : Nat → Nat} {A : Nat → Prop} {cB cI cJ : ClassId} {q : Nat → Nat} {H : Heap} {locs : List Loc} {ls : Array Slot} {ρ : MSt} {k8 : Int32 → Int32 → MSt → Option (MSt)} {a1 : Int32} {a2 : Int32} {a3 : Int32} {s0 : Int32} {σ : MSt} (G : CX p s m args meth c D (gTy cB cI cJ) aK aV A RX5 cX5_putsString 5 none) (hk8 : ∀ (a1 : Int32) (a2 : Int32) (σ : MSt) (H : Heap) (locs : List Loc) (ls : Array Slot), lv_has ls 5 [(0, .ref (q 0)), (1, .int a1), (2, .int a2)] → va_P D vwCl (mW cB cI cJ q σ) H → va_D A (mW cB cI cJ q σ) → va_S A s.heap H locs → k8 a1 a2 σ = some ρ → W p l e (rm_mm_putsString) s m args below meth c H locs 0 0 (MQ below (cQ D (gTy cB cI cJ) A (mW cB cI cJ q ρ) none) args s 0 0 A) (F0 m 8 ls [])) (hl : lv_has ls 5 [(0, .ref (q 0)), (1, .int a1), (2, .int a2), (3, .int a3)]) (hP : va_P D vwCl (mW cB cI cJ q σ) H) (hD : va_D A (mW cB cI cJ q σ)) (hS : va_S A s.heap H locs) (hf : mm_putsString_b105 k8 a1 a2 a3 s0 σ = some ρ) : W p l e (rm_mm_putsString) s m args below meth c H locs 0 0 (MQ below (cQ D (gTy cB cI cJ) A (mW cB cI cJ q ρ) none) args s 0 0 A) (F0 m 105 ls [.int s0]) := by
  unfold mm_putsString_b105 at hf
  obtain ⟨hx, hb, hml, hown, hT, hrt, hlk, hK, hA, hG, hE⟩ := id G
  refine lv_istore (lv' := [(4, .int s0), (0, .ref (q 0)), (1, .int a1), (2, .int a2), (3, .int a3)]) hx hb dX5_putsString_105 hl (by decide) rfl (fun ls hl => ?_)
  refine lv_iload hx hb dX5_putsString_107 (lv_at hl 0 rfl) ?_
  refine lv_if_le (tgt := 127) hx hb dX5_putsString_109 (by decide) (fun c15 => ?_) (fun c15 => ?_)
  · have hf := (if_pos c15).symm.trans hf
    refine lv_iload_n hx hb dX5_putsString_127 rfl (lv_at hl 4 rfl) ?_
    refine lv_if_lt (tgt := 168) hx hb dX5_putsString_128 (by decide) (fun c16 => ?_) (fun c16 => ?_)
    · have hf := (if_pos c16).symm.trans hf
      exact W.eq (g2 := F0 m 168 ls []) rfl (mm_putsString_t168 G hk8 (lv_sub hl [1, 2, 3, 4] rfl) hP hD hS hf)
    · have hf := (if_neg c16).symm.trans hf
      refine lv_iload_n hx hb dX5_putsString_131 rfl (lv_at hl 4 rfl) ?_
      refine lv_bipush (v := (32 : Int32)) hx hb dX5_putsString_132 (by decide) ?_
      refine lv_icmp_ge (tgt := 168) hx hb dX5_putsString_134 (by decide) (fun c17 => ?_) (fun c17 => ?_)
      · have hf := (if_pos c17).symm.trans hf
        exact W.eq (g2 := F0 m 168 ls []) rfl (mm_putsString_t168 G hk8 (lv_sub hl [1, 2, 3, 4] rfl) hP hD hS hf)
      · have hf := (if_neg c17).symm.trans hf
        refine lv_aload_n hx hb dX5_putsString_137 rfl (lv_at hl 1 rfl) ?_
        refine va_ldcS hx hb hown (hG.1 _ (List.mem_of_getElem? (i := 11) rfl)) dX5_putsString_138 ?_
        obtain ⟨x18, hx18, hf⟩ := bd_some hf
        refine vM (As := [.ref (aK 5)]) (rest := []) G kX5_234 (c_mm_putsWord (by decide) hx18) hP hD hS ⟨rfl, rfl, Nat.le_of_ble_eq_true rfl, Nat.le_of_ble_eq_true rfl⟩ ⟨Nat.zero_le _, Nat.zero_le _⟩ rfl hl.1 (Nat.le_of_ble_eq_true rfl) dX5_putsString_140 (fun H locs hP hD hS => ?_)
        refine W.eq (g2 := F0 m 143 ls []) rfl ?_
        refine lv_aload_n hx hb dX5_putsString_143 rfl (lv_at hl 1 rfl) ?_
        refine lv_iload_n hx hb dX5_putsString_144 rfl (lv_at hl 4 rfl) ?_
        refine lv_bipush (v := (16 : Int32)) hx hb dX5_putsString_145 (by decide) ?_
        refine lv_idiv hx hb dX5_putsString_147 (by decide) ?_
        refine ct_s0 (As := [.int (a3 / (16 : Int32))]) (rest := [.ref (q 0)]) G kX5_242 (c_eX5_shown (a3 / (16 : Int32))) hP hD hS ⟨rfl, rfl, Nat.le_of_ble_eq_true rfl, Nat.le_of_ble_eq_true rfl⟩ ⟨Nat.zero_le _, Nat.zero_le _⟩ rfl hl.1 (Nat.le_of_ble_eq_true rfl) dX5_putsString_148 (fun H locs hP hS => ?_)
        refine W.eq (g2 := F0 m 151 ls [.int (eX5_shown (a3 / (16 : Int32))), .ref (q 0)]) rfl ?_
        obtain ⟨x19, hx19, hf⟩ := bd_some hf
        refine vM (As := [.int (eX5_shown (a3 / (16 : Int32)))]) (rest := []) G kX5_219 (c_mm_put hx19) hP hD hS ⟨rfl, rfl, Nat.le_of_ble_eq_true rfl, Nat.le_of_ble_eq_true rfl⟩ ⟨Nat.zero_le _, Nat.zero_le _⟩ rfl hl.1 (Nat.le_of_ble_eq_true rfl) dX5_putsString_151 (fun H locs hP hD hS => ?_)
        refine W.eq (g2 := F0 m 154 ls []) rfl ?_
        refine lv_aload_n hx hb dX5_putsString_154 rfl (lv_at hl 1 rfl) ?_
        refine lv_iload_n hx hb dX5_putsString_155 rfl (lv_at hl 4 rfl) ?_
        refine lv_bipush (v := (16 : Int32)) hx hb dX5_putsString_156 (by decide) ?_
        refine lv_irem hx hb dX5_putsString_158 (by decide) ?_
        refine ct_s0 (As := [.int (a3 - a3 / (16 : Int32) * (16 : Int32))]) (rest := [.ref (q 0)]) G kX5_242 (c_eX5_shown (a3 - a3 / (16 : Int32) * (16 : Int32))) hP hD hS ⟨rfl, rfl, Nat.le_of_ble_eq_true rfl, Nat.le_of_ble_eq_true rfl⟩ ⟨Nat.zero_le _, Nat.zero_le _⟩ rfl hl.1 (Nat.le_of_ble_eq_true rfl) dX5_putsString_159 (fun H locs hP hS => ?_)
        refine W.eq (g2 := F0 m 162 ls [.int (eX5_shown (a3 - a3 / (16 : Int32) * (16 : Int32))), .ref (q 0)]) rfl ?_
        obtain ⟨x20, hx20, hf⟩ := bd_some hf
        refine vM (As := [.int (eX5_shown (a3 - a3 / (16 : Int32) * (16 : Int32)))]) (rest := []) G kX5_219 (c_mm_put hx20) hP hD hS ⟨rfl, rfl, Nat.le_of_ble_eq_true rfl, Nat.le_of_ble_eq_true rfl⟩ ⟨Nat.zero_le _, Nat.zero_le _⟩ rfl hl.1 (Nat.le_of_ble_eq_true rfl) dX5_putsString_162 (fun H locs hP hD hS => ?_)
        refine W.eq (g2 := F0 m 165 ls []) rfl ?_
        refine lv_goto (tgt := 173) hx hb dX5_putsString_165 (by decide) ?_
        obtain ⟨v21, ev21⟩ : ∃ y : Int32, y = (a2 + (1 : Int32)) := ⟨_, rfl⟩
        have hf := lt_eq hf ev21
        refine lv_iinc (v := v21) (lv' := [(2, .int v21), (4, .int s0), (0, .ref (q 0)), (1, .int a1), (3, .int a3)]) hx hb dX5_putsString_173 hl (k := 3) rfl (by rw [ev21]; rfl) (by decide) rfl (fun ls hl => ?_)
        refine lv_goto (tgt := 8) hx hb dX5_putsString_176 (by decide) ?_
        exact W.eq (g2 := F0 m 8 ls []) rfl (hk8 _ _ _ _ _ _ (lv_sub hl [2, 3, 0] rfl) hP hD hS hf)
  · have hf := (if_neg c15).symm.trans hf
    refine lv_aload_n hx hb dX5_putsString_112 rfl (lv_at hl 1 rfl) ?_
    refine lv_bipush (v := (92 : Int32)) hx hb dX5_putsString_113 (by decide) ?_
    obtain ⟨x22, hx22, hf⟩ := bd_some hf
    refine vM (As := [.int (92 : Int32)]) (rest := []) G kX5_219 (c_mm_put hx22) hP hD hS ⟨rfl, rfl, Nat.le_of_ble_eq_true rfl, Nat.le_of_ble_eq_true rfl⟩ ⟨Nat.zero_le _, Nat.zero_le _⟩ rfl hl.1 (Nat.le_of_ble_eq_true rfl) dX5_putsString_115 (fun H locs hP hD hS => ?_)
    refine W.eq (g2 := F0 m 118 ls []) rfl ?_
    refine lv_aload_n hx hb dX5_putsString_118 rfl (lv_at hl 1 rfl) ?_
    refine lv_iload hx hb dX5_putsString_119 (lv_at hl 0 rfl) ?_
    obtain ⟨x23, hx23, hf⟩ := bd_some hf
    refine vM (As := [.int s0]) (rest := []) G kX5_219 (c_mm_put hx23) hP hD hS ⟨rfl, rfl, Nat.le_of_ble_eq_true rfl, Nat.le_of_ble_eq_true rfl⟩ ⟨Nat.zero_le _, Nat.zero_le _⟩ rfl hl.1 (Nat.le_of_ble_eq_true rfl) dX5_putsString_121 (fun H locs hP hD hS => ?_)
    refine W.eq (g2 := F0 m 124 ls []) rfl ?_
    refine lv_goto (tgt := 173) hx hb dX5_putsString_124 (by decide) ?_
    obtain ⟨v24, ev24⟩ : ∃ y : Int32, y = (a2 + (1 : Int32)) := ⟨_, rfl⟩
    have hf := lt_eq hf ev24
    refine lv_iinc (v := v24) (lv' := [(2, .int v24), (4, .int s0), (0, .ref (q 0)), (1, .int a1), (3, .int a3)]) hx hb dX5_putsString_173 hl (k := 3) rfl (by rw [ev24]; rfl) (by decide) rfl (fun ls hl => ?_)
    refine lv_goto (tgt := 8) hx hb dX5_putsString_176 (by decide) ?_
    exact W.eq (g2 := F0 m 8 ls []) rfl (hk8 _ _ _ _ _ _ (lv_sub hl [2, 3, 0] rfl) hP hD hS hf)
set_option maxHeartbeats 4000000 in
set_option maxRecDepth 100000 in
theorem mm_putsString_t8 {p : Program} {l : Launch} {e : Env} {s : State} {m : MethodId} {args : Array Value} {below : List Frame} {meth : Method} {c : Code} {D : va_G} {aK aV : Nat → Nat} {A : Nat → Prop} {cB cI cJ : ClassId} {q : Nat → Nat} {H : Heap} {locs : List Loc} {ls : Array Slot} {ρ : MSt} {k8 : Int32 → Int32 → MSt → Option (MSt)} {a1 : Int32} {a2 : Int32} {σ : MSt} (G : CX p s m args meth c D (gTy cB cI cJ) aK aV A RX5 cX5_putsString 5 none) (hk8 : ∀ (a1 : Int32) (a2 : Int32) (σ : MSt) (H : Heap) (locs : List Loc) (ls : Array Slot), lv_has ls 5 [(0, .ref (q 0)), (1, .int a1), (2, .int a2)] → va_P D vwCl (mW cB cI cJ q σ) H → va_D A (mW cB cI cJ q σ) → va_S A s.heap H locs → k8 a1 a2 σ = some ρ → W p l e (rm_mm_putsString) s m args below meth c H locs 0 0 (MQ below (cQ D (gTy cB cI cJ) A (mW cB cI cJ q ρ) none) args s 0 0 A) (F0 m 8 ls [])) (hl : lv_has ls 5 [(0, .ref (q 0)), (1, .int a1), (2, .int a2)]) (hP : va_P D vwCl (mW cB cI cJ q σ) H) (hD : va_D A (mW cB cI cJ q σ)) (hS : va_S A s.heap H locs) (hf : mm_putsString_b8 k8 a1 a2 σ = some ρ) : W p l e (rm_mm_putsString) s m args below meth c H locs 0 0 (MQ below (cQ D (gTy cB cI cJ) A (mW cB cI cJ q ρ) none) args s 0 0 A) (F0 m 8 ls []) := by
  unfold mm_putsString_b8 at hf
  obtain ⟨hx, hb, hml, hown, hT, hrt, hlk, hK, hA, hG, hE⟩ := id G
  refine lv_iload_n hx hb dX5_putsString_8 rfl (lv_at hl 2 rfl) ?_
  refine lv_aload_n hx hb dX5_putsString_9 rfl (lv_at hl 0 rfl) ?_
  refine gm_X5_numbers G hP dX5_putsString_10 ?_
  refine lv_iload_n hx hb dX5_putsString_13 rfl (lv_at hl 1 rfl) ?_
  obtain ⟨hi2, hf⟩ := ck_some hf
  refine lm_numbers (f := (mf_numbers σ)) G hP hi2 dX5_putsString_14 rfl ?_
  refine lv_l2i (v := (Int64.toInt32 ((mf_numbers σ) (a1).toNatClampNeg))) hx hb dX5_putsString_15 rfl ?_
  refine lv_icmp_ge (tgt := 179) hx hb dX5_putsString_16 (by decide) (fun c3 => ?_) (fun c3 => ?_)
  · have hf := (if_pos c3).symm.trans hf
    refine lv_aload_n hx hb dX5_putsString_179 rfl (lv_at hl 0 rfl) ?_
    refine lv_bipush (v := (34 : Int32)) hx hb dX5_putsString_180 (by decide) ?_
    obtain ⟨x4, hx4, hf⟩ := bd_some hf
    refine vM (As := [.int (34 : Int32)]) (rest := []) G kX5_219 (c_mm_put hx4) hP hD hS ⟨rfl, rfl, Nat.le_of_ble_eq_true rfl, Nat.le_of_ble_eq_true rfl⟩ ⟨Nat.zero_le _, Nat.zero_le _⟩ rfl hl.1 (Nat.le_of_ble_eq_true rfl) dX5_putsString_182 (fun H locs hP hD hS => ?_)
    refine W.eq (g2 := F0 m 185 ls []) rfl ?_
    cases hf
    exact ct_vret G hP hD hS dX5_putsString_185
  · have hf := (if_neg c3).symm.trans hf
    refine lv_aload_n hx hb dX5_putsString_19 rfl (lv_at hl 0 rfl) ?_
    refine gm_X5_letters G hP dX5_putsString_20 ?_
    refine lv_aload_n hx hb dX5_putsString_23 rfl (lv_at hl 0 rfl) ?_
    refine gm_X5_places G hP dX5_putsString_24 ?_
    refine lv_iload_n hx hb dX5_putsString_27 rfl (lv_at hl 1 rfl) ?_
    obtain ⟨hi5, hf⟩ := ck_some hf
    refine lm_places (f := (mf_places σ)) G hP hi5 dX5_putsString_28 rfl ?_
    refine lv_iload_n hx hb dX5_putsString_29 rfl (lv_at hl 2 rfl) ?_
    refine lv_iadd hx hb dX5_putsString_30 ?_
    obtain ⟨hi6, hf⟩ := ck_some hf
    refine lm_letters (f := (mf_letters σ)) G hP hi6 dX5_putsString_31 rfl ?_
    refine lv_topi (fun v7 ev7 => ?_)
    have hf := lt_eq hf ev7
    refine lv_istore_n (lv' := [(3, .int v7), (0, .ref (q 0)), (1, .int a1), (2, .int a2)]) hx hb dX5_putsString_32 rfl hl (by decide) rfl (fun ls hl => ?_)
    refine lv_iload_n hx hb dX5_putsString_33 rfl (lv_at hl 0 rfl) ?_
    refine lv_bipush (v := (34 : Int32)) hx hb dX5_putsString_34 (by decide) ?_
    refine lv_icmp_eq (tgt := 45) hx hb dX5_putsString_36 (by decide) (fun c8 => ?_) (fun c8 => ?_)
    · have hf := (if_pos c8).symm.trans hf
      refine lv_iload_n hx hb dX5_putsString_45 rfl (lv_at hl 0 rfl) ?_
      refine lv_goto (tgt := 105) hx hb dX5_putsString_46 (by decide) ?_
      exact W.eq (g2 := F0 m 105 ls [.int v7]) rfl (mm_putsString_t105 G hk8 (lv_sub hl [1, 2, 3, 0] rfl) hP hD hS hf)
    · have hf := (if_neg c8).symm.trans hf
      refine lv_iload_n hx hb dX5_putsString_39 rfl (lv_at hl 0 rfl) ?_
      refine lv_bipush (v := (92 : Int32)) hx hb dX5_putsString_40 (by decide) ?_
      refine lv_icmp_ne (tgt := 49) hx hb dX5_putsString_42 (by decide) (fun c9 => ?_) (fun c9 => ?_)
      · have hf := (if_neg c9).symm.trans hf
        refine lv_iload_n hx hb dX5_putsString_49 rfl (lv_at hl 0 rfl) ?_
        refine lv_bipush (v := (8 : Int32)) hx hb dX5_putsString_50 (by decide) ?_
        refine lv_icmp_ne (tgt := 60) hx hb dX5_putsString_52 (by decide) (fun c10 => ?_) (fun c10 => ?_)
        · have hf := (if_neg c10).symm.trans hf
          refine lv_iload_n hx hb dX5_putsString_60 rfl (lv_at hl 0 rfl) ?_
          refine lv_bipush (v := (9 : Int32)) hx hb dX5_putsString_61 (by decide) ?_
          refine lv_icmp_ne (tgt := 71) hx hb dX5_putsString_63 (by decide) (fun c11 => ?_) (fun c11 => ?_)
          · have hf := (if_neg c11).symm.trans hf
            refine lv_iload_n hx hb dX5_putsString_71 rfl (lv_at hl 0 rfl) ?_
            refine lv_bipush (v := (10 : Int32)) hx hb dX5_putsString_72 (by decide) ?_
            refine lv_icmp_ne (tgt := 82) hx hb dX5_putsString_74 (by decide) (fun c12 => ?_) (fun c12 => ?_)
            · have hf := (if_neg c12).symm.trans hf
              refine lv_iload_n hx hb dX5_putsString_82 rfl (lv_at hl 0 rfl) ?_
              refine lv_bipush (v := (12 : Int32)) hx hb dX5_putsString_83 (by decide) ?_
              refine lv_icmp_ne (tgt := 93) hx hb dX5_putsString_85 (by decide) (fun c13 => ?_) (fun c13 => ?_)
              · have hf := (if_neg c13).symm.trans hf
                refine lv_iload_n hx hb dX5_putsString_93 rfl (lv_at hl 0 rfl) ?_
                refine lv_bipush (v := (13 : Int32)) hx hb dX5_putsString_94 (by decide) ?_
                refine lv_icmp_ne (tgt := 104) hx hb dX5_putsString_96 (by decide) (fun c14 => ?_) (fun c14 => ?_)
                · have hf := (if_neg c14).symm.trans hf
                  refine lv_iconst (v := (0 : Int32)) hx hb dX5_putsString_104 (by decide) ?_
                  exact W.eq (g2 := F0 m 105 ls [.int (0 : Int32)]) rfl (mm_putsString_t105 G hk8 (lv_sub hl [1, 2, 3, 0] rfl) hP hD hS hf)
                · have hf := (if_pos c14).symm.trans hf
                  refine lv_bipush (v := (114 : Int32)) hx hb dX5_putsString_99 (by decide) ?_
                  refine lv_goto (tgt := 105) hx hb dX5_putsString_101 (by decide) ?_
                  exact W.eq (g2 := F0 m 105 ls [.int (114 : Int32)]) rfl (mm_putsString_t105 G hk8 (lv_sub hl [1, 2, 3, 0] rfl) hP hD hS hf)
              · have hf := (if_pos c13).symm.trans hf
                refine lv_bipush (v := (102 : Int32)) hx hb dX5_putsString_88 (by decide) ?_
                refine lv_goto (tgt := 105) hx hb dX5_putsString_90 (by decide) ?_
                exact W.eq (g2 := F0 m 105 ls [.int (102 : Int32)]) rfl (mm_putsString_t105 G hk8 (lv_sub hl [1, 2, 3, 0] rfl) hP hD hS hf)
            · have hf := (if_pos c12).symm.trans hf
              refine lv_bipush (v := (110 : Int32)) hx hb dX5_putsString_77 (by decide) ?_
              refine lv_goto (tgt := 105) hx hb dX5_putsString_79 (by decide) ?_
              exact W.eq (g2 := F0 m 105 ls [.int (110 : Int32)]) rfl (mm_putsString_t105 G hk8 (lv_sub hl [1, 2, 3, 0] rfl) hP hD hS hf)
          · have hf := (if_pos c11).symm.trans hf
            refine lv_bipush (v := (116 : Int32)) hx hb dX5_putsString_66 (by decide) ?_
            refine lv_goto (tgt := 105) hx hb dX5_putsString_68 (by decide) ?_
            exact W.eq (g2 := F0 m 105 ls [.int (116 : Int32)]) rfl (mm_putsString_t105 G hk8 (lv_sub hl [1, 2, 3, 0] rfl) hP hD hS hf)
        · have hf := (if_pos c10).symm.trans hf
          refine lv_bipush (v := (98 : Int32)) hx hb dX5_putsString_55 (by decide) ?_
          refine lv_goto (tgt := 105) hx hb dX5_putsString_57 (by decide) ?_
          exact W.eq (g2 := F0 m 105 ls [.int (98 : Int32)]) rfl (mm_putsString_t105 G hk8 (lv_sub hl [1, 2, 3, 0] rfl) hP hD hS hf)
      · have hf := (if_pos c9).symm.trans hf
        refine lv_iload_n hx hb dX5_putsString_45 rfl (lv_at hl 0 rfl) ?_
        refine lv_goto (tgt := 105) hx hb dX5_putsString_46 (by decide) ?_
        exact W.eq (g2 := F0 m 105 ls [.int v7]) rfl (mm_putsString_t105 G hk8 (lv_sub hl [1, 2, 3, 0] rfl) hP hD hS hf)
set_option maxHeartbeats 4000000 in
set_option maxRecDepth 100000 in
theorem mm_putsString_u8 {p : Program} {l : Launch} {e : Env} {s : State} {m : MethodId} {args : Array Value} {below : List Frame} {meth : Method} {c : Code} {D : va_G} {aK aV : Nat → Nat} {A : Nat → Prop} {cB cI cJ : ClassId} {q : Nat → Nat} {ρ : MSt} (G : CX p s m args meth c D (gTy cB cI cJ) aK aV A RX5 cX5_putsString 5 none) : ∀ (n : Nat) {a1 : Int32} {a2 : Int32} {σ : MSt} {H : Heap} {locs : List Loc} {ls : Array Slot} (hl : lv_has ls 5 [(0, .ref (q 0)), (1, .int a1), (2, .int a2)]) (hP : va_P D vwCl (mW cB cI cJ q σ) H) (hD : va_D A (mW cB cI cJ q σ)) (hS : va_S A s.heap H locs) (hf : mm_putsString_L8 n a1 a2 σ = some ρ), W p l e (rm_mm_putsString) s m args below meth c H locs 0 0 (MQ below (cQ D (gTy cB cI cJ) A (mW cB cI cJ q ρ) none) args s 0 0 A) (F0 m 8 ls []) := by
  intro n
  induction n with
  | zero =>
    intros
    rename_i hf
    cases hf
  | succ n ih =>
    intro a1 a2 σ H locs ls hl hP hD hS hf
    exact mm_putsString_t8 G (fun _ _ _ H locs ls hl hP hD hS hf => ih hl hP hD hS hf) hl hP hD hS hf
set_option maxHeartbeats 4000000 in
set_option maxRecDepth 100000 in
theorem mm_putsString_t0e {p : Program} {l : Launch} {e : Env} {s : State} {m : MethodId} {args : Array Value} {below : List Frame} {meth : Method} {c : Code} {D : va_G} {aK aV : Nat → Nat} {A : Nat → Prop} {cB cI cJ : ClassId} {q : Nat → Nat} {H : Heap} {locs : List Loc} {ls : Array Slot} {ρ : MSt} {p0 : Int32} {σ : MSt} (G : CX p s m args meth c D (gTy cB cI cJ) aK aV A RX5 cX5_putsString 5 none) (hl : lv_has ls 5 [(0, .ref (q 0)), (1, .int p0)]) (hP : va_P D vwCl (mW cB cI cJ q σ) H) (hD : va_D A (mW cB cI cJ q σ)) (hS : va_S A s.heap H locs) (hf : mm_putsString p0 σ = some ρ) : W p l e (rm_mm_putsString) s m args below meth c H locs 0 0 (MQ below (cQ D (gTy cB cI cJ) A (mW cB cI cJ q ρ) none) args s 0 0 A) (F0 m 0 ls []) := by
  unfold mm_putsString at hf
  obtain ⟨hx, hb, hml, hown, hT, hrt, hlk, hK, hA, hG, hE⟩ := id G
  refine lv_aload_n hx hb dX5_putsString_0 rfl (lv_at hl 0 rfl) ?_
  refine lv_bipush (v := (34 : Int32)) hx hb dX5_putsString_1 (by decide) ?_
  obtain ⟨x1, hx1, hf⟩ := bd_some hf
  refine vM (As := [.int (34 : Int32)]) (rest := []) G kX5_219 (c_mm_put hx1) hP hD hS ⟨rfl, rfl, Nat.le_of_ble_eq_true rfl, Nat.le_of_ble_eq_true rfl⟩ ⟨Nat.zero_le _, Nat.zero_le _⟩ rfl hl.1 (Nat.le_of_ble_eq_true rfl) dX5_putsString_3 (fun H locs hP hD hS => ?_)
  refine W.eq (g2 := F0 m 6 ls []) rfl ?_
  refine lv_iconst (v := (0 : Int32)) hx hb dX5_putsString_6 (by decide) ?_
  refine lv_istore_n (lv' := [(2, .int (0 : Int32)), (0, .ref (q 0)), (1, .int p0)]) hx hb dX5_putsString_7 rfl hl (by decide) rfl (fun ls hl => ?_)
  exact W.eq (g2 := F0 m 8 ls []) rfl (mm_putsString_u8 G FU (lv_sub hl [1, 2, 0] rfl) hP hD hS hf)
set_option maxHeartbeats 4000000 in
set_option maxRecDepth 100000 in
theorem c_mm_putsString {l : Launch} {D : va_G} {aK aV : Nat → Nat} {cB cI cJ : ClassId} {q : Nat → Nat} {ρ : MSt} {p0 : Int32} {σ : MSt} (hf : mm_putsString p0 σ = some ρ) : CT l D (gTy cB cI cJ) aK aV yX5_putsString (wM yX5_putsString cX5_putsString 5 none) (rm_mm_putsString) 0 0 [.ref (q 0), .int p0] (mW cB cI cJ q σ) none (mW cB cI cJ q ρ) := by
  refine CT.of (by decide) rfl ?_
  intro p e s m below meth c A G hnm hP hD hS
  have hl := lv_entry [.ref (q 0), .int p0] (n := 5) (Nat.le_of_ble_eq_true rfl)
  rw [lg_entry_eq]
  generalize (lg_sl [.ref (q 0), .int p0] ++ List.replicate (5 - (lg_sl [.ref (q 0), .int p0]).length) Slot.unset).toArray = ls at hl ⊢
  exact mm_putsString_t0e G hl hP hD hS hf
