/-! STATIC METHODS without a world (printed by program wip/gen) -/
theorem sw_n {x v : Int32} {n : Int} (h : ¬ x = v) (hv : v.toInt = n) : ¬ x.toInt = n := fun e => h (Int32.toInt_inj.mp (e.trans hv.symm))
theorem sw_X1_signOf {x : Int32} (h34 : ¬ x = (34 : Int32)) (h47 : ¬ x = (47 : Int32)) (h92 : ¬ x = (92 : Int32)) (h98 : ¬ x = (98 : Int32)) (h102 : ¬ x = (102 : Int32)) (h110 : ¬ x = (110 : Int32)) (h114 : ¬ x = (114 : Int32)) (h116 : ¬ x = (116 : Int32)) : Op.lookupswitch.offset [(34, 75), (47, 75), (92, 75), (98, 77), (102, 80), (110, 83), (114, 86), (116, 89)] 92 x.toInt = 92 := by
  rw [Op.lookupswitch.offset_cons, if_neg (fun z => sw_n h34 (by decide : (34 : Int32).toInt = 34) z.symm), Op.lookupswitch.offset_cons, if_neg (fun z => sw_n h47 (by decide : (47 : Int32).toInt = 47) z.symm), Op.lookupswitch.offset_cons, if_neg (fun z => sw_n h92 (by decide : (92 : Int32).toInt = 92) z.symm), Op.lookupswitch.offset_cons, if_neg (fun z => sw_n h98 (by decide : (98 : Int32).toInt = 98) z.symm), Op.lookupswitch.offset_cons, if_neg (fun z => sw_n h102 (by decide : (102 : Int32).toInt = 102) z.symm), Op.lookupswitch.offset_cons, if_neg (fun z => sw_n h110 (by decide : (110 : Int32).toInt = 110) z.symm), Op.lookupswitch.offset_cons, if_neg (fun z => sw_n h114 (by decide : (114 : Int32).toInt = 114) z.symm), Op.lookupswitch.offset_cons, if_neg (fun z => sw_n h116 (by decide : (116 : Int32).toInt = 116) z.symm)]
  rfl
theorem sw_X0_letterOf {x : Int32} (h8 : ¬ x = (8 : Int32)) (h9 : ¬ x = (9 : Int32)) (h10 : ¬ x = (10 : Int32)) (h12 : ¬ x = (12 : Int32)) (h13 : ¬ x = (13 : Int32)) (h34 : ¬ x = (34 : Int32)) (h92 : ¬ x = (92 : Int32)) : Op.lookupswitch.offset [(8, 69), (9, 72), (10, 75), (12, 78), (13, 81), (34, 67), (92, 67)] 84 x.toInt = 84 := by
  rw [Op.lookupswitch.offset_cons, if_neg (fun z => sw_n h8 (by decide : (8 : Int32).toInt = 8) z.symm), Op.lookupswitch.offset_cons, if_neg (fun z => sw_n h9 (by decide : (9 : Int32).toInt = 9) z.symm), Op.lookupswitch.offset_cons, if_neg (fun z => sw_n h10 (by decide : (10 : Int32).toInt = 10) z.symm), Op.lookupswitch.offset_cons, if_neg (fun z => sw_n h12 (by decide : (12 : Int32).toInt = 12) z.symm), Op.lookupswitch.offset_cons, if_neg (fun z => sw_n h13 (by decide : (13 : Int32).toInt = 13) z.symm), Op.lookupswitch.offset_cons, if_neg (fun z => sw_n h34 (by decide : (34 : Int32).toInt = 34) z.symm), Op.lookupswitch.offset_cons, if_neg (fun z => sw_n h92 (by decide : (92 : Int32).toInt = 92) z.symm)]
  rfl
def eX5_hexOf_b41 (a0 : Int32) : Int32 := (if a0 < (65 : Int32) then (-1 : Int32) else (if (70 : Int32) < a0 then (-1 : Int32) else ((a0 - (65 : Int32)) + (10 : Int32))))
def eX5_hexOf_b19 (a0 : Int32) : Int32 := (if a0 < (97 : Int32) then eX5_hexOf_b41 a0 else (if (102 : Int32) < a0 then eX5_hexOf_b41 a0 else ((a0 - (97 : Int32)) + (10 : Int32))))
def eX5_hexOf (p0 : Int32) : Int32 := (if p0 < (48 : Int32) then eX5_hexOf_b19 p0 else (if (57 : Int32) < p0 then eX5_hexOf_b19 p0 else (p0 - (48 : Int32))))
abbrev rm_eX5_hexOf : Room := { frames := 0, cells := 0, slots := 0, locals := 0 }
set_option maxHeartbeats 4000000 in
set_option maxRecDepth 100000 in
theorem eX5_hexOf_t41 {p : Program} {l : Launch} {e : Env} {s : State} {m : MethodId} {args : Array Value} {below : List Frame} {meth : Method} {c : Code} {D : va_G} {aK aV : Nat → Nat} {A : Nat → Prop} {cB cI cJ : ClassId}  {H : Heap} {locs : List Loc} {ls : Array Slot} {ρ : Int32} {a0 : Int32} (G : CX p s m args meth c D (gTy cB cI cJ) aK aV A RX5 cX5_hexOf 1 (some .int)) (hl : lv_has ls 1 [(0, .int a0)]) (hP : va_P D vwCl ([]) H) (hD : va_D A ([])) (hS : va_S A s.heap H locs) (hf : eX5_hexOf_b41 a0 = ρ) : W p l e (rm_eX5_hexOf) s m args below meth c H locs 0 0 (MQ below (cQ D (gTy cB cI cJ) A ([]) (some (.int ρ))) args s 0 0 A) (F0 m 41 ls []) := by
  unfold eX5_hexOf_b41 at hf
  obtain ⟨hx, hb, hml, hown, hT, hrt, hlk, hK, hA, hG, hE⟩ := id G
  refine lv_iload_n hx hb dX5_hexOf_41 rfl (lv_at hl 0 rfl) ?_
  refine lv_bipush (v := (65 : Int32)) hx hb dX5_hexOf_42 (by decide) ?_
  refine lv_icmp_lt (tgt := 63) hx hb dX5_hexOf_44 (by decide) (fun c5 => ?_) (fun c5 => ?_)
  · have hf := (if_pos c5).symm.trans hf
    refine lv_iconst (v := (-1 : Int32)) hx hb dX5_hexOf_63 (by decide) ?_
    subst hf
    exact ct_iret G rfl hP hD hS dX5_hexOf_64
  · have hf := (if_neg c5).symm.trans hf
    refine lv_iload_n hx hb dX5_hexOf_47 rfl (lv_at hl 0 rfl) ?_
    refine lv_bipush (v := (70 : Int32)) hx hb dX5_hexOf_48 (by decide) ?_
    refine lv_icmp_gt (tgt := 63) hx hb dX5_hexOf_50 (by decide) (fun c6 => ?_) (fun c6 => ?_)
    · have hf := (if_pos c6).symm.trans hf
      refine lv_iconst (v := (-1 : Int32)) hx hb dX5_hexOf_63 (by decide) ?_
      subst hf
      exact ct_iret G rfl hP hD hS dX5_hexOf_64
    · have hf := (if_neg c6).symm.trans hf
      refine lv_iload_n hx hb dX5_hexOf_53 rfl (lv_at hl 0 rfl) ?_
      refine lv_bipush (v := (65 : Int32)) hx hb dX5_hexOf_54 (by decide) ?_
      refine lv_isub hx hb dX5_hexOf_56 ?_
      refine lv_bipush (v := (10 : Int32)) hx hb dX5_hexOf_57 (by decide) ?_
      refine lv_iadd hx hb dX5_hexOf_59 ?_
      refine lv_goto (tgt := 64) hx hb dX5_hexOf_60 (by decide) ?_
      subst hf
      exact ct_iret G rfl hP hD hS dX5_hexOf_64
set_option maxHeartbeats 4000000 in
set_option maxRecDepth 100000 in
theorem eX5_hexOf_t19 {p : Program} {l : Launch} {e : Env} {s : State} {m : MethodId} {args : Array Value} {below : List Frame} {meth : Method} {c : Code} {D : va_G} {aK aV : Nat → Nat} {A : Nat → Prop} {cB cI cJ : ClassId}  {H : Heap} {locs : List Loc} {ls : Array Slot} {ρ : Int32} {a0 : Int32} (G : CX p s m args meth c D (gTy cB cI cJ) aK aV A RX5 cX5_hexOf 1 (some .int)) (hl : lv_has ls 1 [(0, .int a0)]) (hP : va_P D vwCl ([]) H) (hD : va_D A ([])) (hS : va_S A s.heap H locs) (hf : eX5_hexOf_b19 a0 = ρ) : W p l e (rm_eX5_hexOf) s m args below meth c H locs 0 0 (MQ below (cQ D (gTy cB cI cJ) A ([]) (some (.int ρ))) args s 0 0 A) (F0 m 19 ls []) := by
  unfold eX5_hexOf_b19 at hf
  obtain ⟨hx, hb, hml, hown, hT, hrt, hlk, hK, hA, hG, hE⟩ := id G
  refine lv_iload_n hx hb dX5_hexOf_19 rfl (lv_at hl 0 rfl) ?_
  refine lv_bipush (v := (97 : Int32)) hx hb dX5_hexOf_20 (by decide) ?_
  refine lv_icmp_lt (tgt := 41) hx hb dX5_hexOf_22 (by decide) (fun c3 => ?_) (fun c3 => ?_)
  · have hf := (if_pos c3).symm.trans hf
    exact W.eq (g2 := F0 m 41 ls []) rfl (eX5_hexOf_t41 G (lv_sub hl [0] rfl) hP hD hS hf)
  · have hf := (if_neg c3).symm.trans hf
    refine lv_iload_n hx hb dX5_hexOf_25 rfl (lv_at hl 0 rfl) ?_
    refine lv_bipush (v := (102 : Int32)) hx hb dX5_hexOf_26 (by decide) ?_
    refine lv_icmp_gt (tgt := 41) hx hb dX5_hexOf_28 (by decide) (fun c4 => ?_) (fun c4 => ?_)
    · have hf := (if_pos c4).symm.trans hf
      exact W.eq (g2 := F0 m 41 ls []) rfl (eX5_hexOf_t41 G (lv_sub hl [0] rfl) hP hD hS hf)
    · have hf := (if_neg c4).symm.trans hf
      refine lv_iload_n hx hb dX5_hexOf_31 rfl (lv_at hl 0 rfl) ?_
      refine lv_bipush (v := (97 : Int32)) hx hb dX5_hexOf_32 (by decide) ?_
      refine lv_isub hx hb dX5_hexOf_34 ?_
      refine lv_bipush (v := (10 : Int32)) hx hb dX5_hexOf_35 (by decide) ?_
      refine lv_iadd hx hb dX5_hexOf_37 ?_
      refine lv_goto (tgt := 64) hx hb dX5_hexOf_38 (by decide) ?_
      subst hf
      exact ct_iret G rfl hP hD hS dX5_hexOf_64
set_option maxHeartbeats 4000000 in
set_option maxRecDepth 100000 in
theorem eX5_hexOf_t0e {p : Program} {l : Launch} {e : Env} {s : State} {m : MethodId} {args : Array Value} {below : List Frame} {meth : Method} {c : Code} {D : va_G} {aK aV : Nat → Nat} {A : Nat → Prop} {cB cI cJ : ClassId}  {H : Heap} {locs : List Loc} {ls : Array Slot} {ρ : Int32} {p0 : Int32} (G : CX p s m args meth c D (gTy cB cI cJ) aK aV A RX5 cX5_hexOf 1 (some .int)) (hl : lv_has ls 1 [(0, .int p0)]) (hP : va_P D vwCl ([]) H) (hD : va_D A ([])) (hS : va_S A s.heap H locs) (hf : eX5_hexOf p0 = ρ) : W p l e (rm_eX5_hexOf) s m args below meth c H locs 0 0 (MQ below (cQ D (gTy cB cI cJ) A ([]) (some (.int ρ))) args s 0 0 A) (F0 m 0 ls []) := by
  unfold eX5_hexOf at hf
  obtain ⟨hx, hb, hml, hown, hT, hrt, hlk, hK, hA, hG, hE⟩ := id G
  refine lv_iload_n hx hb dX5_hexOf_0 rfl (lv_at hl 0 rfl) ?_
  refine lv_bipush (v := (48 : Int32)) hx hb dX5_hexOf_1 (by decide) ?_
  refine lv_icmp_lt (tgt := 19) hx hb dX5_hexOf_3 (by decide) (fun c1 => ?_) (fun c1 => ?_)
  · have hf := (if_pos c1).symm.trans hf
    exact W.eq (g2 := F0 m 19 ls []) rfl (eX5_hexOf_t19 G (lv_sub hl [0] rfl) hP hD hS hf)
  · have hf := (if_neg c1).symm.trans hf
    refine lv_iload_n hx hb dX5_hexOf_6 rfl (lv_at hl 0 rfl) ?_
    refine lv_bipush (v := (57 : Int32)) hx hb dX5_hexOf_7 (by decide) ?_
    refine lv_icmp_gt (tgt := 19) hx hb dX5_hexOf_9 (by decide) (fun c2 => ?_) (fun c2 => ?_)
    · have hf := (if_pos c2).symm.trans hf
      exact W.eq (g2 := F0 m 19 ls []) rfl (eX5_hexOf_t19 G (lv_sub hl [0] rfl) hP hD hS hf)
    · have hf := (if_neg c2).symm.trans hf
      refine lv_iload_n hx hb dX5_hexOf_12 rfl (lv_at hl 0 rfl) ?_
      refine lv_bipush (v := (48 : Int32)) hx hb dX5_hexOf_13 (by decide) ?_
      refine lv_isub hx hb dX5_hexOf_15 ?_
      refine lv_goto (tgt := 64) hx hb dX5_hexOf_16 (by decide) ?_
      subst hf
      exact ct_iret G rfl hP hD hS dX5_hexOf_64
set_option maxHeartbeats 4000000 in
set_option maxRecDepth 100000 in
theorem c_eX5_hexOf {l : Launch} {D : va_G} {aK aV : Nat → Nat} {cB cI cJ : ClassId}  (p0 : Int32) : CT l D (gTy cB cI cJ) aK aV yX5_hexOf (wM yX5_hexOf cX5_hexOf 1 (some .int)) (rm_eX5_hexOf) 0 0 [.int p0] [] (some (.int (eX5_hexOf p0))) [] := by
  refine CT.of (by decide) rfl ?_
  intro p e s m below meth c A G hnm hP hD hS
  have hl := lv_entry [.int p0] (n := 1) (Nat.le_of_ble_eq_true rfl)
  rw [lg_entry_eq]
  generalize (lg_sl [.int p0] ++ List.replicate (1 - (lg_sl [.int p0]).length) Slot.unset).toArray = ls at hl ⊢
  exact eX5_hexOf_t0e G hl hP hD hS rfl
def eX5_shown (p0 : Int32) : Int32 := (if (10 : Int32) ≤ p0 then (((97 : Int32) + p0) - (10 : Int32)) else ((48 : Int32) + p0))
abbrev rm_eX5_shown : Room := { frames := 0, cells := 0, slots := 0, locals := 0 }
set_option maxHeartbeats 4000000 in
set_option maxRecDepth 100000 in
theorem eX5_shown_t0e {p : Program} {l : Launch} {e : Env} {s : State} {m : MethodId} {args : Array Value} {below : List Frame} {meth : Method} {c : Code} {D : va_G} {aK aV : Nat → Nat} {A : Nat → Prop} {cB cI cJ : ClassId}  {H : Heap} {locs : List Loc} {ls : Array Slot} {ρ : Int32} {p0 : Int32} (G : CX p s m args meth c D (gTy cB cI cJ) aK aV A RX5 cX5_shown 1 (some .int)) (hl : lv_has ls 1 [(0, .int p0)]) (hP : va_P D vwCl ([]) H) (hD : va_D A ([])) (hS : va_S A s.heap H locs) (hf : eX5_shown p0 = ρ) : W p l e (rm_eX5_shown) s m args below meth c H locs 0 0 (MQ below (cQ D (gTy cB cI cJ) A ([]) (some (.int ρ))) args s 0 0 A) (F0 m 0 ls []) := by
  unfold eX5_shown at hf
  obtain ⟨hx, hb, hml, hown, hT, hrt, hlk, hK, hA, hG, hE⟩ := id G
  refine lv_iload_n hx hb dX5_shown_0 rfl (lv_at hl 0 rfl) ?_
  refine lv_bipush (v := (10 : Int32)) hx hb dX5_shown_1 (by decide) ?_
  refine lv_icmp_ge (tgt := 13) hx hb dX5_shown_3 (by decide) (fun c1 => ?_) (fun c1 => ?_)
  · have hf := (if_pos c1).symm.trans hf
    refine lv_bipush (v := (97 : Int32)) hx hb dX5_shown_13 (by decide) ?_
    refine lv_iload_n hx hb dX5_shown_15 rfl (lv_at hl 0 rfl) ?_
    refine lv_iadd hx hb dX5_shown_16 ?_
    refine lv_bipush (v := (10 : Int32)) hx hb dX5_shown_17 (by decide) ?_
    refine lv_isub hx hb dX5_shown_19 ?_
    subst hf
    exact ct_iret G rfl hP hD hS dX5_shown_20
  · have hf := (if_neg c1).symm.trans hf
    refine lv_bipush (v := (48 : Int32)) hx hb dX5_shown_6 (by decide) ?_
    refine lv_iload_n hx hb dX5_shown_8 rfl (lv_at hl 0 rfl) ?_
    refine lv_iadd hx hb dX5_shown_9 ?_
    refine lv_goto (tgt := 20) hx hb dX5_shown_10 (by decide) ?_
    subst hf
    exact ct_iret G rfl hP hD hS dX5_shown_20
set_option maxHeartbeats 4000000 in
set_option maxRecDepth 100000 in
theorem c_eX5_shown {l : Launch} {D : va_G} {aK aV : Nat → Nat} {cB cI cJ : ClassId}  (p0 : Int32) : CT l D (gTy cB cI cJ) aK aV yX5_shown (wM yX5_shown cX5_shown 1 (some .int)) (rm_eX5_shown) 0 0 [.int p0] [] (some (.int (eX5_shown p0))) [] := by
  refine CT.of (by decide) rfl ?_
  intro p e s m below meth c A G hnm hP hD hS
  have hl := lv_entry [.int p0] (n := 1) (Nat.le_of_ble_eq_true rfl)
  rw [lg_entry_eq]
  generalize (lg_sl [.int p0] ++ List.replicate (1 - (lg_sl [.int p0]).length) Slot.unset).toArray = ls at hl ⊢
  exact eX5_shown_t0e G hl hP hD hS rfl
def eX4_shortestInfo (p0 : Int64) : Int32 := (if p0 < (0 : Int64) then (27 : Int32) else (if p0 ≤ (4294967295 : Int64) then (if (24 : Int64) ≤ p0 then (if (256 : Int64) ≤ p0 then (if (65536 : Int64) ≤ p0 then (26 : Int32) else (25 : Int32)) else (24 : Int32)) else (Int64.toInt32 p0)) else (27 : Int32)))
abbrev rm_eX4_shortestInfo : Room := { frames := 0, cells := 0, slots := 0, locals := 0 }
set_option maxHeartbeats 4000000 in
set_option maxRecDepth 100000 in
theorem eX4_shortestInfo_t0e {p : Program} {l : Launch} {e : Env} {s : State} {m : MethodId} {args : Array Value} {below : List Frame} {meth : Method} {c : Code} {D : va_G} {aK aV : Nat → Nat} {A : Nat → Prop} {cB cI cJ : ClassId}  {H : Heap} {locs : List Loc} {ls : Array Slot} {ρ : Int32} {p0 : Int64} (G : CX p s m args meth c D (gTy cB cI cJ) aK aV A RX4 cX4_shortestInfo 2 (some .int)) (hl : lv_has ls 2 [(0, .long p0)]) (hP : va_P D vwCl ([]) H) (hD : va_D A ([])) (hS : va_S A s.heap H locs) (hf : eX4_shortestInfo p0 = ρ) : W p l e (rm_eX4_shortestInfo) s m args below meth c H locs 0 0 (MQ below (cQ D (gTy cB cI cJ) A ([]) (some (.int ρ))) args s 0 0 A) (F0 m 0 ls []) := by
  unfold eX4_shortestInfo at hf
  obtain ⟨hx, hb, hml, hown, hT, hrt, hlk, hK, hA, hG, hE⟩ := id G
  refine lv_lload_n hx hb dX4_shortestInfo_0 rfl (lv_at hl 0 rfl) ?_
  refine lv_lconst (v := (0 : Int64)) hx hb dX4_shortestInfo_1 (by decide) ?_
  refine W.lcmp hx hb dX4_shortestInfo_2 ?_
  refine lv_if_lt (tgt := 14) hx hb dX4_shortestInfo_3 (by decide) (fun c1 => ?_) (fun c1 => ?_)
  · have hf := (if_pos ((lg_cmp_lt _ _).mp c1)).symm.trans hf
    refine lv_bipush (v := (27 : Int32)) hx hb dX4_shortestInfo_14 (by decide) ?_
    subst hf
    exact ct_iret G rfl hP hD hS dX4_shortestInfo_16
  · have hf := (if_neg (fun z => c1 ((lg_cmp_lt _ _).mpr z))).symm.trans hf
    refine lv_lload_n hx hb dX4_shortestInfo_6 rfl (lv_at hl 0 rfl) ?_
    refine lv_ldc2 (v := (4294967295 : Int64)) hx hb hown (hT _ wc_X4_89) dX4_shortestInfo_7 ?_
    refine W.lcmp hx hb dX4_shortestInfo_10 ?_
    refine lv_if_le (tgt := 17) hx hb dX4_shortestInfo_11 (by decide) (fun c2 => ?_) (fun c2 => ?_)
    · have hf := (if_pos ((lg_cmp_le _ _).mp c2)).symm.trans hf
      refine lv_lload_n hx hb dX4_shortestInfo_17 rfl (lv_at hl 0 rfl) ?_
      refine lv_ldc2 (v := (24 : Int64)) hx hb hown (hT _ wc_X4_91) dX4_shortestInfo_18 ?_
      refine W.lcmp hx hb dX4_shortestInfo_21 ?_
      refine lv_if_ge (tgt := 28) hx hb dX4_shortestInfo_22 (by decide) (fun c3 => ?_) (fun c3 => ?_)
      · have hf := (if_pos ((lg_cmp_ge _ _).mp c3)).symm.trans hf
        refine lv_lload_n hx hb dX4_shortestInfo_28 rfl (lv_at hl 0 rfl) ?_
        refine lv_ldc2 (v := (256 : Int64)) hx hb hown (hT _ wc_X4_93) dX4_shortestInfo_29 ?_
        refine W.lcmp hx hb dX4_shortestInfo_32 ?_
        refine lv_if_ge (tgt := 39) hx hb dX4_shortestInfo_33 (by decide) (fun c4 => ?_) (fun c4 => ?_)
        · have hf := (if_pos ((lg_cmp_ge _ _).mp c4)).symm.trans hf
          refine lv_lload_n hx hb dX4_shortestInfo_39 rfl (lv_at hl 0 rfl) ?_
          refine lv_ldc2 (v := (65536 : Int64)) hx hb hown (hT _ wc_X4_95) dX4_shortestInfo_40 ?_
          refine W.lcmp hx hb dX4_shortestInfo_43 ?_
          refine lv_if_ge (tgt := 52) hx hb dX4_shortestInfo_44 (by decide) (fun c5 => ?_) (fun c5 => ?_)
          · have hf := (if_pos ((lg_cmp_ge _ _).mp c5)).symm.trans hf
            refine lv_bipush (v := (26 : Int32)) hx hb dX4_shortestInfo_52 (by decide) ?_
            subst hf
            exact ct_iret G rfl hP hD hS dX4_shortestInfo_54
          · have hf := (if_neg (fun z => c5 ((lg_cmp_ge _ _).mpr z))).symm.trans hf
            refine lv_bipush (v := (25 : Int32)) hx hb dX4_shortestInfo_47 (by decide) ?_
            refine lv_goto (tgt := 54) hx hb dX4_shortestInfo_49 (by decide) ?_
            subst hf
            exact ct_iret G rfl hP hD hS dX4_shortestInfo_54
        · have hf := (if_neg (fun z => c4 ((lg_cmp_ge _ _).mpr z))).symm.trans hf
          refine lv_bipush (v := (24 : Int32)) hx hb dX4_shortestInfo_36 (by decide) ?_
          subst hf
          exact ct_iret G rfl hP hD hS dX4_shortestInfo_38
      · have hf := (if_neg (fun z => c3 ((lg_cmp_ge _ _).mpr z))).symm.trans hf
        refine lv_lload_n hx hb dX4_shortestInfo_25 rfl (lv_at hl 0 rfl) ?_
        refine lv_l2i (v := (Int64.toInt32 p0)) hx hb dX4_shortestInfo_26 rfl ?_
        subst hf
        exact ct_iret G rfl hP hD hS dX4_shortestInfo_27
    · have hf := (if_neg (fun z => c2 ((lg_cmp_le _ _).mpr z))).symm.trans hf
      refine lv_bipush (v := (27 : Int32)) hx hb dX4_shortestInfo_14 (by decide) ?_
      subst hf
      exact ct_iret G rfl hP hD hS dX4_shortestInfo_16
set_option maxHeartbeats 4000000 in
set_option maxRecDepth 100000 in
theorem c_eX4_shortestInfo {l : Launch} {D : va_G} {aK aV : Nat → Nat} {cB cI cJ : ClassId}  (p0 : Int64) : CT l D (gTy cB cI cJ) aK aV yX4_shortestInfo (wM yX4_shortestInfo cX4_shortestInfo 2 (some .int)) (rm_eX4_shortestInfo) 0 0 [.long p0] [] (some (.int (eX4_shortestInfo p0))) [] := by
  refine CT.of (by decide) rfl ?_
  intro p e s m below meth c A G hnm hP hD hS
  have hl := lv_entry [.long p0] (n := 2) (Nat.le_of_ble_eq_true rfl)
  rw [lg_entry_eq]
  generalize (lg_sl [.long p0] ++ List.replicate (2 - (lg_sl [.long p0]).length) Slot.unset).toArray = ls at hl ⊢
  exact eX4_shortestInfo_t0e G hl hP hD hS rfl
def eX4_bytesBehind (p0 : Int32) : Int32 := (if p0 < (24 : Int32) then (0 : Int32) else (if p0 ≤ (27 : Int32) then ((1 : Int32) <<< ((p0 - (24 : Int32)) &&& 31)) else (0 : Int32)))
abbrev rm_eX4_bytesBehind : Room := { frames := 0, cells := 0, slots := 0, locals := 0 }
set_option maxHeartbeats 4000000 in
set_option maxRecDepth 100000 in
theorem eX4_bytesBehind_t0e {p : Program} {l : Launch} {e : Env} {s : State} {m : MethodId} {args : Array Value} {below : List Frame} {meth : Method} {c : Code} {D : va_G} {aK aV : Nat → Nat} {A : Nat → Prop} {cB cI cJ : ClassId}  {H : Heap} {locs : List Loc} {ls : Array Slot} {ρ : Int32} {p0 : Int32} (G : CX p s m args meth c D (gTy cB cI cJ) aK aV A RX4 cX4_bytesBehind 1 (some .int)) (hl : lv_has ls 1 [(0, .int p0)]) (hP : va_P D vwCl ([]) H) (hD : va_D A ([])) (hS : va_S A s.heap H locs) (hf : eX4_bytesBehind p0 = ρ) : W p l e (rm_eX4_bytesBehind) s m args below meth c H locs 0 0 (MQ below (cQ D (gTy cB cI cJ) A ([]) (some (.int ρ))) args s 0 0 A) (F0 m 0 ls []) := by
  unfold eX4_bytesBehind at hf
  obtain ⟨hx, hb, hml, hown, hT, hrt, hlk, hK, hA, hG, hE⟩ := id G
  refine lv_iload_n hx hb dX4_bytesBehind_0 rfl (lv_at hl 0 rfl) ?_
  refine lv_bipush (v := (24 : Int32)) hx hb dX4_bytesBehind_1 (by decide) ?_
  refine lv_icmp_lt (tgt := 12) hx hb dX4_bytesBehind_3 (by decide) (fun c1 => ?_) (fun c1 => ?_)
  · have hf := (if_pos c1).symm.trans hf
    refine lv_iconst (v := (0 : Int32)) hx hb dX4_bytesBehind_12 (by decide) ?_
    refine lv_goto (tgt := 22) hx hb dX4_bytesBehind_13 (by decide) ?_
    subst hf
    exact ct_iret G rfl hP hD hS dX4_bytesBehind_22
  · have hf := (if_neg c1).symm.trans hf
    refine lv_iload_n hx hb dX4_bytesBehind_6 rfl (lv_at hl 0 rfl) ?_
    refine lv_bipush (v := (27 : Int32)) hx hb dX4_bytesBehind_7 (by decide) ?_
    refine lv_icmp_le (tgt := 16) hx hb dX4_bytesBehind_9 (by decide) (fun c2 => ?_) (fun c2 => ?_)
    · have hf := (if_pos c2).symm.trans hf
      refine lv_iconst (v := (1 : Int32)) hx hb dX4_bytesBehind_16 (by decide) ?_
      refine lv_iload_n hx hb dX4_bytesBehind_17 rfl (lv_at hl 0 rfl) ?_
      refine lv_bipush (v := (24 : Int32)) hx hb dX4_bytesBehind_18 (by decide) ?_
      refine lv_isub hx hb dX4_bytesBehind_20 ?_
      refine lv_ishl hx hb dX4_bytesBehind_21 ?_
      subst hf
      exact ct_iret G rfl hP hD hS dX4_bytesBehind_22
    · have hf := (if_neg c2).symm.trans hf
      refine lv_iconst (v := (0 : Int32)) hx hb dX4_bytesBehind_12 (by decide) ?_
      refine lv_goto (tgt := 22) hx hb dX4_bytesBehind_13 (by decide) ?_
      subst hf
      exact ct_iret G rfl hP hD hS dX4_bytesBehind_22
set_option maxHeartbeats 4000000 in
set_option maxRecDepth 100000 in
theorem c_eX4_bytesBehind {l : Launch} {D : va_G} {aK aV : Nat → Nat} {cB cI cJ : ClassId}  (p0 : Int32) : CT l D (gTy cB cI cJ) aK aV yX4_bytesBehind (wM yX4_bytesBehind cX4_bytesBehind 1 (some .int)) (rm_eX4_bytesBehind) 0 0 [.int p0] [] (some (.int (eX4_bytesBehind p0))) [] := by
  refine CT.of (by decide) rfl ?_
  intro p e s m below meth c A G hnm hP hD hS
  have hl := lv_entry [.int p0] (n := 1) (Nat.le_of_ble_eq_true rfl)
  rw [lg_entry_eq]
  generalize (lg_sl [.int p0] ++ List.replicate (1 - (lg_sl [.int p0]).length) Slot.unset).toArray = ls at hl ⊢
  exact eX4_bytesBehind_t0e G hl hP hD hS rfl
def eX4_lengthByFirst (p0 : Int32) : Int32 := (if p0 < 0 then (0 : Int32) else (if p0 ≤ (244 : Int32) then (if (128 : Int32) ≤ p0 then (if (194 : Int32) ≤ p0 then (if (224 : Int32) ≤ p0 then (if (240 : Int32) ≤ p0 then (4 : Int32) else (3 : Int32)) else (2 : Int32)) else (0 : Int32)) else (1 : Int32)) else (0 : Int32)))
abbrev rm_eX4_lengthByFirst : Room := { frames := 0, cells := 0, slots := 0, locals := 0 }
set_option maxHeartbeats 4000000 in
set_option maxRecDepth 100000 in
theorem eX4_lengthByFirst_t0e {p : Program} {l : Launch} {e : Env} {s : State} {m : MethodId} {args : Array Value} {below : List Frame} {meth : Method} {c : Code} {D : va_G} {aK aV : Nat → Nat} {A : Nat → Prop} {cB cI cJ : ClassId}  {H : Heap} {locs : List Loc} {ls : Array Slot} {ρ : Int32} {p0 : Int32} (G : CX p s m args meth c D (gTy cB cI cJ) aK aV A RX4 cX4_lengthByFirst 1 (some .int)) (hl : lv_has ls 1 [(0, .int p0)]) (hP : va_P D vwCl ([]) H) (hD : va_D A ([])) (hS : va_S A s.heap H locs) (hf : eX4_lengthByFirst p0 = ρ) : W p l e (rm_eX4_lengthByFirst) s m args below meth c H locs 0 0 (MQ below (cQ D (gTy cB cI cJ) A ([]) (some (.int ρ))) args s 0 0 A) (F0 m 0 ls []) := by
  unfold eX4_lengthByFirst at hf
  obtain ⟨hx, hb, hml, hown, hT, hrt, hlk, hK, hA, hG, hE⟩ := id G
  refine lv_iload_n hx hb dX4_lengthByFirst_0 rfl (lv_at hl 0 rfl) ?_
  refine lv_if_lt (tgt := 11) hx hb dX4_lengthByFirst_1 (by decide) (fun c1 => ?_) (fun c1 => ?_)
  · have hf := (if_pos c1).symm.trans hf
    refine lv_iconst (v := (0 : Int32)) hx hb dX4_lengthByFirst_11 (by decide) ?_
    subst hf
    exact ct_iret G rfl hP hD hS dX4_lengthByFirst_12
  · have hf := (if_neg c1).symm.trans hf
    refine lv_iload_n hx hb dX4_lengthByFirst_4 rfl (lv_at hl 0 rfl) ?_
    refine lv_sipush (v := (244 : Int32)) hx hb dX4_lengthByFirst_5 (by decide) ?_
    refine lv_icmp_le (tgt := 13) hx hb dX4_lengthByFirst_8 (by decide) (fun c2 => ?_) (fun c2 => ?_)
    · have hf := (if_pos c2).symm.trans hf
      refine lv_iload_n hx hb dX4_lengthByFirst_13 rfl (lv_at hl 0 rfl) ?_
      refine lv_sipush (v := (128 : Int32)) hx hb dX4_lengthByFirst_14 (by decide) ?_
      refine lv_icmp_ge (tgt := 22) hx hb dX4_lengthByFirst_17 (by decide) (fun c3 => ?_) (fun c3 => ?_)
      · have hf := (if_pos c3).symm.trans hf
        refine lv_iload_n hx hb dX4_lengthByFirst_22 rfl (lv_at hl 0 rfl) ?_
        refine lv_sipush (v := (194 : Int32)) hx hb dX4_lengthByFirst_23 (by decide) ?_
        refine lv_icmp_ge (tgt := 31) hx hb dX4_lengthByFirst_26 (by decide) (fun c4 => ?_) (fun c4 => ?_)
        · have hf := (if_pos c4).symm.trans hf
          refine lv_iload_n hx hb dX4_lengthByFirst_31 rfl (lv_at hl 0 rfl) ?_
          refine lv_sipush (v := (224 : Int32)) hx hb dX4_lengthByFirst_32 (by decide) ?_
          refine lv_icmp_ge (tgt := 40) hx hb dX4_lengthByFirst_35 (by decide) (fun c5 => ?_) (fun c5 => ?_)
          · have hf := (if_pos c5).symm.trans hf
            refine lv_iload_n hx hb dX4_lengthByFirst_40 rfl (lv_at hl 0 rfl) ?_
            refine lv_sipush (v := (240 : Int32)) hx hb dX4_lengthByFirst_41 (by decide) ?_
            refine lv_icmp_ge (tgt := 51) hx hb dX4_lengthByFirst_44 (by decide) (fun c6 => ?_) (fun c6 => ?_)
            · have hf := (if_pos c6).symm.trans hf
              refine lv_iconst (v := (4 : Int32)) hx hb dX4_lengthByFirst_51 (by decide) ?_
              subst hf
              exact ct_iret G rfl hP hD hS dX4_lengthByFirst_52
            · have hf := (if_neg c6).symm.trans hf
              refine lv_iconst (v := (3 : Int32)) hx hb dX4_lengthByFirst_47 (by decide) ?_
              refine lv_goto (tgt := 52) hx hb dX4_lengthByFirst_48 (by decide) ?_
              subst hf
              exact ct_iret G rfl hP hD hS dX4_lengthByFirst_52
          · have hf := (if_neg c5).symm.trans hf
            refine lv_iconst (v := (2 : Int32)) hx hb dX4_lengthByFirst_38 (by decide) ?_
            subst hf
            exact ct_iret G rfl hP hD hS dX4_lengthByFirst_39
        · have hf := (if_neg c4).symm.trans hf
          refine lv_iconst (v := (0 : Int32)) hx hb dX4_lengthByFirst_29 (by decide) ?_
          subst hf
          exact ct_iret G rfl hP hD hS dX4_lengthByFirst_30
      · have hf := (if_neg c3).symm.trans hf
        refine lv_iconst (v := (1 : Int32)) hx hb dX4_lengthByFirst_20 (by decide) ?_
        subst hf
        exact ct_iret G rfl hP hD hS dX4_lengthByFirst_21
    · have hf := (if_neg c2).symm.trans hf
      refine lv_iconst (v := (0 : Int32)) hx hb dX4_lengthByFirst_11 (by decide) ?_
      subst hf
      exact ct_iret G rfl hP hD hS dX4_lengthByFirst_12
set_option maxHeartbeats 4000000 in
set_option maxRecDepth 100000 in
theorem c_eX4_lengthByFirst {l : Launch} {D : va_G} {aK aV : Nat → Nat} {cB cI cJ : ClassId}  (p0 : Int32) : CT l D (gTy cB cI cJ) aK aV yX4_lengthByFirst (wM yX4_lengthByFirst cX4_lengthByFirst 1 (some .int)) (rm_eX4_lengthByFirst) 0 0 [.int p0] [] (some (.int (eX4_lengthByFirst p0))) [] := by
  refine CT.of (by decide) rfl ?_
  intro p e s m below meth c A G hnm hP hD hS
  have hl := lv_entry [.int p0] (n := 1) (Nat.le_of_ble_eq_true rfl)
  rw [lg_entry_eq]
  generalize (lg_sl [.int p0] ++ List.replicate (1 - (lg_sl [.int p0]).length) Slot.unset).toArray = ls at hl ⊢
  exact eX4_lengthByFirst_t0e G hl hP hD hS rfl
def eX4_isSignOf (p0 : Int32) (p1 : Int32) : Bool := (if p1 = (3 : Int32) then (if p0 < (2048 : Int32) then false else (if p0 < (55296 : Int32) then true else (if p0 ≤ (57343 : Int32) then false else true))) else (if p1 = (4 : Int32) then (if p0 < (65536 : Int32) then false else (if (1114111 : Int32) < p0 then false else true)) else true))
abbrev rm_eX4_isSignOf : Room := { frames := 0, cells := 0, slots := 0, locals := 0 }
set_option maxHeartbeats 4000000 in
set_option maxRecDepth 100000 in
theorem eX4_isSignOf_t0e {p : Program} {l : Launch} {e : Env} {s : State} {m : MethodId} {args : Array Value} {below : List Frame} {meth : Method} {c : Code} {D : va_G} {aK aV : Nat → Nat} {A : Nat → Prop} {cB cI cJ : ClassId}  {H : Heap} {locs : List Loc} {ls : Array Slot} {ρ : Bool} {p0 : Int32} {p1 : Int32} (G : CX p s m args meth c D (gTy cB cI cJ) aK aV A RX4 cX4_isSignOf 2 (some .boolean)) (hl : lv_has ls 2 [(0, .int p0), (1, .int p1)]) (hP : va_P D vwCl ([]) H) (hD : va_D A ([])) (hS : va_S A s.heap H locs) (hf : eX4_isSignOf p0 p1 = ρ) : W p l e (rm_eX4_isSignOf) s m args below meth c H locs 0 0 (MQ below (cQ D (gTy cB cI cJ) A ([]) (some (.int (bI ρ)))) args s 0 0 A) (F0 m 0 ls []) := by
  unfold eX4_isSignOf at hf
  obtain ⟨hx, hb, hml, hown, hT, hrt, hlk, hK, hA, hG, hE⟩ := id G
  refine lv_iload_n hx hb dX4_isSignOf_0 rfl (lv_at hl 1 rfl) ?_
  refine lv_iconst (v := (3 : Int32)) hx hb dX4_isSignOf_1 (by decide) ?_
  refine lv_icmp_ne (tgt := 30) hx hb dX4_isSignOf_2 (by decide) (fun c1 => ?_) (fun c1 => ?_)
  · have hf := (if_neg c1).symm.trans hf
    refine lv_iload_n hx hb dX4_isSignOf_30 rfl (lv_at hl 1 rfl) ?_
    refine lv_iconst (v := (4 : Int32)) hx hb dX4_isSignOf_31 (by decide) ?_
    refine lv_icmp_ne (tgt := 53) hx hb dX4_isSignOf_32 (by decide) (fun c2 => ?_) (fun c2 => ?_)
    · have hf := (if_neg c2).symm.trans hf
      refine lv_iconst (v := (1 : Int32)) hx hb dX4_isSignOf_53 (by decide) ?_
      subst hf
      exact ct_iret G (bI_nar true) hP hD hS dX4_isSignOf_54
    · have hf := (if_pos c2).symm.trans hf
      refine lv_iload_n hx hb dX4_isSignOf_35 rfl (lv_at hl 0 rfl) ?_
      refine lv_ldc (v := (65536 : Int32)) hx hb hown (hT _ wc_X4_105) dX4_isSignOf_36 ?_
      refine lv_icmp_lt (tgt := 51) hx hb dX4_isSignOf_38 (by decide) (fun c3 => ?_) (fun c3 => ?_)
      · have hf := (if_pos c3).symm.trans hf
        refine lv_iconst (v := (0 : Int32)) hx hb dX4_isSignOf_51 (by decide) ?_
        subst hf
        exact ct_iret G (bI_nar false) hP hD hS dX4_isSignOf_52
      · have hf := (if_neg c3).symm.trans hf
        refine lv_iload_n hx hb dX4_isSignOf_41 rfl (lv_at hl 0 rfl) ?_
        refine lv_ldc (v := (1114111 : Int32)) hx hb hown (hT _ wc_X4_106) dX4_isSignOf_42 ?_
        refine lv_icmp_gt (tgt := 51) hx hb dX4_isSignOf_44 (by decide) (fun c4 => ?_) (fun c4 => ?_)
        · have hf := (if_pos c4).symm.trans hf
          refine lv_iconst (v := (0 : Int32)) hx hb dX4_isSignOf_51 (by decide) ?_
          subst hf
          exact ct_iret G (bI_nar false) hP hD hS dX4_isSignOf_52
        · have hf := (if_neg c4).symm.trans hf
          refine lv_iconst (v := (1 : Int32)) hx hb dX4_isSignOf_47 (by decide) ?_
          refine lv_goto (tgt := 52) hx hb dX4_isSignOf_48 (by decide) ?_
          subst hf
          exact ct_iret G (bI_nar true) hP hD hS dX4_isSignOf_52
  · have hf := (if_pos c1).symm.trans hf
    refine lv_iload_n hx hb dX4_isSignOf_5 rfl (lv_at hl 0 rfl) ?_
    refine lv_sipush (v := (2048 : Int32)) hx hb dX4_isSignOf_6 (by decide) ?_
    refine lv_icmp_lt (tgt := 28) hx hb dX4_isSignOf_9 (by decide) (fun c5 => ?_) (fun c5 => ?_)
    · have hf := (if_pos c5).symm.trans hf
      refine lv_iconst (v := (0 : Int32)) hx hb dX4_isSignOf_28 (by decide) ?_
      subst hf
      exact ct_iret G (bI_nar false) hP hD hS dX4_isSignOf_29
    · have hf := (if_neg c5).symm.trans hf
      refine lv_iload_n hx hb dX4_isSignOf_12 rfl (lv_at hl 0 rfl) ?_
      refine lv_ldc (v := (55296 : Int32)) hx hb hown (hT _ wc_X4_103) dX4_isSignOf_13 ?_
      refine lv_icmp_lt (tgt := 24) hx hb dX4_isSignOf_15 (by decide) (fun c6 => ?_) (fun c6 => ?_)
      · have hf := (if_pos c6).symm.trans hf
        refine lv_iconst (v := (1 : Int32)) hx hb dX4_isSignOf_24 (by decide) ?_
        refine lv_goto (tgt := 29) hx hb dX4_isSignOf_25 (by decide) ?_
        subst hf
        exact ct_iret G (bI_nar true) hP hD hS dX4_isSignOf_29
      · have hf := (if_neg c6).symm.trans hf
        refine lv_iload_n hx hb dX4_isSignOf_18 rfl (lv_at hl 0 rfl) ?_
        refine lv_ldc (v := (57343 : Int32)) hx hb hown (hT _ wc_X4_104) dX4_isSignOf_19 ?_
        refine lv_icmp_le (tgt := 28) hx hb dX4_isSignOf_21 (by decide) (fun c7 => ?_) (fun c7 => ?_)
        · have hf := (if_pos c7).symm.trans hf
          refine lv_iconst (v := (0 : Int32)) hx hb dX4_isSignOf_28 (by decide) ?_
          subst hf
          exact ct_iret G (bI_nar false) hP hD hS dX4_isSignOf_29
        · have hf := (if_neg c7).symm.trans hf
          refine lv_iconst (v := (1 : Int32)) hx hb dX4_isSignOf_24 (by decide) ?_
          refine lv_goto (tgt := 29) hx hb dX4_isSignOf_25 (by decide) ?_
          subst hf
          exact ct_iret G (bI_nar true) hP hD hS dX4_isSignOf_29
set_option maxHeartbeats 4000000 in
set_option maxRecDepth 100000 in
theorem c_eX4_isSignOf {l : Launch} {D : va_G} {aK aV : Nat → Nat} {cB cI cJ : ClassId}  (p0 : Int32) (p1 : Int32) : CT l D (gTy cB cI cJ) aK aV yX4_isSignOf (wM yX4_isSignOf cX4_isSignOf 2 (some .boolean)) (rm_eX4_isSignOf) 0 0 [.int p0, .int p1] [] (some (.int (bI (eX4_isSignOf p0 p1)))) [] := by
  refine CT.of (by decide) rfl ?_
  intro p e s m below meth c A G hnm hP hD hS
  have hl := lv_entry [.int p0, .int p1] (n := 2) (Nat.le_of_ble_eq_true rfl)
  rw [lg_entry_eq]
  generalize (lg_sl [.int p0, .int p1] ++ List.replicate (2 - (lg_sl [.int p0, .int p1]).length) Slot.unset).toArray = ls at hl ⊢
  exact eX4_isSignOf_t0e G hl hP hD hS rfl
def eX1_isBeyond_b50 (s0 : Int32) (s1 : Int32) : Bool := (if s1 ≤ s0 then false else true)
def eX1_isBeyond (p0 : Int64) (p1 : Int32) (p2 : Int32) (p3 : Int32) : Bool := (if (19 : Int32) ≤ p1 then (if (20 : Int32) ≤ p1 then true else (if p0 < (0 : Int64) then true else (if p0 ≤ (1844674407370955161 : Int64) then (if p0 = (1844674407370955161 : Int64) then (if p3 = 0 then eX1_isBeyond_b50 (5 : Int32) p2 else eX1_isBeyond_b50 (6 : Int32) p2) else false) else true))) else false)
abbrev rm_eX1_isBeyond : Room := { frames := 0, cells := 0, slots := 0, locals := 0 }
set_option maxHeartbeats 4000000 in
set_option maxRecDepth 100000 in
theorem eX1_isBeyond_t50 {p : Program} {l : Launch} {e : Env} {s : State} {m : MethodId} {args : Array Value} {below : List Frame} {meth : Method} {c : Code} {D : va_G} {aK aV : Nat → Nat} {A : Nat → Prop} {cB cI cJ : ClassId}  {H : Heap} {locs : List Loc} {ls : Array Slot} {ρ : Bool} {s0 : Int32} {s1 : Int32} (G : CX p s m args meth c D (gTy cB cI cJ) aK aV A RX1 cX1_isBeyond 5 (some .boolean)) (hl : lv_has ls 5 []) (hP : va_P D vwCl ([]) H) (hD : va_D A ([])) (hS : va_S A s.heap H locs) (hf : eX1_isBeyond_b50 s0 s1 = ρ) : W p l e (rm_eX1_isBeyond) s m args below meth c H locs 0 0 (MQ below (cQ D (gTy cB cI cJ) A ([]) (some (.int (bI ρ)))) args s 0 0 A) (F0 m 50 ls [.int s0, .int s1]) := by
  unfold eX1_isBeyond_b50 at hf
  obtain ⟨hx, hb, hml, hown, hT, hrt, hlk, hK, hA, hG, hE⟩ := id G
  refine lv_icmp_le (tgt := 57) hx hb dX1_isBeyond_50 (by decide) (fun c7 => ?_) (fun c7 => ?_)
  · have hf := (if_pos c7).symm.trans hf
    refine lv_iconst (v := (0 : Int32)) hx hb dX1_isBeyond_57 (by decide) ?_
    subst hf
    exact ct_iret G (bI_nar false) hP hD hS dX1_isBeyond_58
  · have hf := (if_neg c7).symm.trans hf
    refine lv_iconst (v := (1 : Int32)) hx hb dX1_isBeyond_53 (by decide) ?_
    refine lv_goto (tgt := 58) hx hb dX1_isBeyond_54 (by decide) ?_
    subst hf
    exact ct_iret G (bI_nar true) hP hD hS dX1_isBeyond_58
set_option maxHeartbeats 4000000 in
set_option maxRecDepth 100000 in
theorem eX1_isBeyond_t0e {p : Program} {l : Launch} {e : Env} {s : State} {m : MethodId} {args : Array Value} {below : List Frame} {meth : Method} {c : Code} {D : va_G} {aK aV : Nat → Nat} {A : Nat → Prop} {cB cI cJ : ClassId}  {H : Heap} {locs : List Loc} {ls : Array Slot} {ρ : Bool} {p0 : Int64} {p1 : Int32} {p2 : Int32} {p3 : Int32} (G : CX p s m args meth c D (gTy cB cI cJ) aK aV A RX1 cX1_isBeyond 5 (some .boolean)) (hl : lv_has ls 5 [(0, .long p0), (2, .int p1), (3, .int p2), (4, .int p3)]) (hP : va_P D vwCl ([]) H) (hD : va_D A ([])) (hS : va_S A s.heap H locs) (hf : eX1_isBeyond p0 p1 p2 p3 = ρ) : W p l e (rm_eX1_isBeyond) s m args below meth c H locs 0 0 (MQ below (cQ D (gTy cB cI cJ) A ([]) (some (.int (bI ρ)))) args s 0 0 A) (F0 m 0 ls []) := by
  unfold eX1_isBeyond at hf
  obtain ⟨hx, hb, hml, hown, hT, hrt, hlk, hK, hA, hG, hE⟩ := id G
  refine lv_iload_n hx hb dX1_isBeyond_0 rfl (lv_at hl 1 rfl) ?_
  refine lv_bipush (v := (19 : Int32)) hx hb dX1_isBeyond_1 (by decide) ?_
  refine lv_icmp_ge (tgt := 8) hx hb dX1_isBeyond_3 (by decide) (fun c1 => ?_) (fun c1 => ?_)
  · have hf := (if_pos c1).symm.trans hf
    refine lv_iload_n hx hb dX1_isBeyond_8 rfl (lv_at hl 1 rfl) ?_
    refine lv_bipush (v := (20 : Int32)) hx hb dX1_isBeyond_9 (by decide) ?_
    refine lv_icmp_ge (tgt := 28) hx hb dX1_isBeyond_11 (by decide) (fun c2 => ?_) (fun c2 => ?_)
    · have hf := (if_pos c2).symm.trans hf
      refine lv_iconst (v := (1 : Int32)) hx hb dX1_isBeyond_28 (by decide) ?_
      subst hf
      exact ct_iret G (bI_nar true) hP hD hS dX1_isBeyond_29
    · have hf := (if_neg c2).symm.trans hf
      refine lv_lload_n hx hb dX1_isBeyond_14 rfl (lv_at hl 0 rfl) ?_
      refine lv_lconst (v := (0 : Int64)) hx hb dX1_isBeyond_15 (by decide) ?_
      refine W.lcmp hx hb dX1_isBeyond_16 ?_
      refine lv_if_lt (tgt := 28) hx hb dX1_isBeyond_17 (by decide) (fun c3 => ?_) (fun c3 => ?_)
      · have hf := (if_pos ((lg_cmp_lt _ _).mp c3)).symm.trans hf
        refine lv_iconst (v := (1 : Int32)) hx hb dX1_isBeyond_28 (by decide) ?_
        subst hf
        exact ct_iret G (bI_nar true) hP hD hS dX1_isBeyond_29
      · have hf := (if_neg (fun z => c3 ((lg_cmp_lt _ _).mpr z))).symm.trans hf
        refine lv_lload_n hx hb dX1_isBeyond_20 rfl (lv_at hl 0 rfl) ?_
        refine lv_ldc2 (v := (1844674407370955161 : Int64)) hx hb hown (hT _ wc_X1_158) dX1_isBeyond_21 ?_
        refine W.lcmp hx hb dX1_isBeyond_24 ?_
        refine lv_if_le (tgt := 30) hx hb dX1_isBeyond_25 (by decide) (fun c4 => ?_) (fun c4 => ?_)
        · have hf := (if_pos ((lg_cmp_le _ _).mp c4)).symm.trans hf
          refine lv_lload_n hx hb dX1_isBeyond_30 rfl (lv_at hl 0 rfl) ?_
          refine lv_ldc2 (v := (1844674407370955161 : Int64)) hx hb hown (hT _ wc_X1_158) dX1_isBeyond_31 ?_
          refine W.lcmp hx hb dX1_isBeyond_34 ?_
          refine lv_if_ne (tgt := 57) hx hb dX1_isBeyond_35 (by decide) (fun c5 => ?_) (fun c5 => ?_)
          · have hf := (if_neg (fun z => c5 ((lg_cmp_eq _ _).mpr z))).symm.trans hf
            refine lv_iconst (v := (0 : Int32)) hx hb dX1_isBeyond_57 (by decide) ?_
            subst hf
            exact ct_iret G (bI_nar false) hP hD hS dX1_isBeyond_58
          · have hf := (if_pos ((lg_cmp_eq _ _).mp c5)).symm.trans hf
            refine lv_iload_n hx hb dX1_isBeyond_38 rfl (lv_at hl 2 rfl) ?_
            refine lv_iload hx hb dX1_isBeyond_39 (lv_at hl 3 rfl) ?_
            refine lv_if_eq (tgt := 49) hx hb dX1_isBeyond_41 (by decide) (fun c6 => ?_) (fun c6 => ?_)
            · have hf := (if_pos c6).symm.trans hf
              refine lv_iconst (v := (5 : Int32)) hx hb dX1_isBeyond_49 (by decide) ?_
              exact W.eq (g2 := F0 m 50 ls [.int (5 : Int32), .int p2]) rfl (eX1_isBeyond_t50 G (lv_sub hl [] rfl) hP hD hS hf)
            · have hf := (if_neg c6).symm.trans hf
              refine lv_bipush (v := (6 : Int32)) hx hb dX1_isBeyond_44 (by decide) ?_
              refine lv_goto (tgt := 50) hx hb dX1_isBeyond_46 (by decide) ?_
              exact W.eq (g2 := F0 m 50 ls [.int (6 : Int32), .int p2]) rfl (eX1_isBeyond_t50 G (lv_sub hl [] rfl) hP hD hS hf)
        · have hf := (if_neg (fun z => c4 ((lg_cmp_le _ _).mpr z))).symm.trans hf
          refine lv_iconst (v := (1 : Int32)) hx hb dX1_isBeyond_28 (by decide) ?_
          subst hf
          exact ct_iret G (bI_nar true) hP hD hS dX1_isBeyond_29
  · have hf := (if_neg c1).symm.trans hf
    refine lv_iconst (v := (0 : Int32)) hx hb dX1_isBeyond_6 (by decide) ?_
    subst hf
    exact ct_iret G (bI_nar false) hP hD hS dX1_isBeyond_7
set_option maxHeartbeats 4000000 in
set_option maxRecDepth 100000 in
theorem c_eX1_isBeyond {l : Launch} {D : va_G} {aK aV : Nat → Nat} {cB cI cJ : ClassId}  (p0 : Int64) (p1 : Int32) (p2 : Int32) (p3 : Int32) : CT l D (gTy cB cI cJ) aK aV yX1_isBeyond (wM yX1_isBeyond cX1_isBeyond 5 (some .boolean)) (rm_eX1_isBeyond) 0 0 [.long p0, .int p1, .int p2, .int p3] [] (some (.int (bI (eX1_isBeyond p0 p1 p2 p3)))) [] := by
  refine CT.of (by decide) rfl ?_
  intro p e s m below meth c A G hnm hP hD hS
  have hl := lv_entry [.long p0, .int p1, .int p2, .int p3] (n := 5) (Nat.le_of_ble_eq_true rfl)
  rw [lg_entry_eq]
  generalize (lg_sl [.long p0, .int p1, .int p2, .int p3] ++ List.replicate (5 - (lg_sl [.long p0, .int p1, .int p2, .int p3]).length) Slot.unset).toArray = ls at hl ⊢
  exact eX1_isBeyond_t0e G hl hP hD hS rfl
def eX1_isBlank (p0 : Int32) : Bool := (if p0 = (9 : Int32) then true else (if p0 = (10 : Int32) then true else (if p0 = (13 : Int32) then true else (if p0 = (32 : Int32) then true else false))))
abbrev rm_eX1_isBlank : Room := { frames := 0, cells := 0, slots := 0, locals := 0 }
set_option maxHeartbeats 4000000 in
set_option maxRecDepth 100000 in
theorem eX1_isBlank_t0e {p : Program} {l : Launch} {e : Env} {s : State} {m : MethodId} {args : Array Value} {below : List Frame} {meth : Method} {c : Code} {D : va_G} {aK aV : Nat → Nat} {A : Nat → Prop} {cB cI cJ : ClassId}  {H : Heap} {locs : List Loc} {ls : Array Slot} {ρ : Bool} {p0 : Int32} (G : CX p s m args meth c D (gTy cB cI cJ) aK aV A RX1 cX1_isBlank 1 (some .boolean)) (hl : lv_has ls 1 [(0, .int p0)]) (hP : va_P D vwCl ([]) H) (hD : va_D A ([])) (hS : va_S A s.heap H locs) (hf : eX1_isBlank p0 = ρ) : W p l e (rm_eX1_isBlank) s m args below meth c H locs 0 0 (MQ below (cQ D (gTy cB cI cJ) A ([]) (some (.int (bI ρ)))) args s 0 0 A) (F0 m 0 ls []) := by
  unfold eX1_isBlank at hf
  obtain ⟨hx, hb, hml, hown, hT, hrt, hlk, hK, hA, hG, hE⟩ := id G
  refine lv_iload_n hx hb dX1_isBlank_0 rfl (lv_at hl 0 rfl) ?_
  refine lv_bipush (v := (9 : Int32)) hx hb dX1_isBlank_1 (by decide) ?_
  refine lv_icmp_eq (tgt := 24) hx hb dX1_isBlank_3 (by decide) (fun c1 => ?_) (fun c1 => ?_)
  · have hf := (if_pos c1).symm.trans hf
    refine lv_iconst (v := (1 : Int32)) hx hb dX1_isBlank_24 (by decide) ?_
    refine lv_goto (tgt := 29) hx hb dX1_isBlank_25 (by decide) ?_
    subst hf
    exact ct_iret G (bI_nar true) hP hD hS dX1_isBlank_29
  · have hf := (if_neg c1).symm.trans hf
    refine lv_iload_n hx hb dX1_isBlank_6 rfl (lv_at hl 0 rfl) ?_
    refine lv_bipush (v := (10 : Int32)) hx hb dX1_isBlank_7 (by decide) ?_
    refine lv_icmp_eq (tgt := 24) hx hb dX1_isBlank_9 (by decide) (fun c2 => ?_) (fun c2 => ?_)
    · have hf := (if_pos c2).symm.trans hf
      refine lv_iconst (v := (1 : Int32)) hx hb dX1_isBlank_24 (by decide) ?_
      refine lv_goto (tgt := 29) hx hb dX1_isBlank_25 (by decide) ?_
      subst hf
      exact ct_iret G (bI_nar true) hP hD hS dX1_isBlank_29
    · have hf := (if_neg c2).symm.trans hf
      refine lv_iload_n hx hb dX1_isBlank_12 rfl (lv_at hl 0 rfl) ?_
      refine lv_bipush (v := (13 : Int32)) hx hb dX1_isBlank_13 (by decide) ?_
      refine lv_icmp_eq (tgt := 24) hx hb dX1_isBlank_15 (by decide) (fun c3 => ?_) (fun c3 => ?_)
      · have hf := (if_pos c3).symm.trans hf
        refine lv_iconst (v := (1 : Int32)) hx hb dX1_isBlank_24 (by decide) ?_
        refine lv_goto (tgt := 29) hx hb dX1_isBlank_25 (by decide) ?_
        subst hf
        exact ct_iret G (bI_nar true) hP hD hS dX1_isBlank_29
      · have hf := (if_neg c3).symm.trans hf
        refine lv_iload_n hx hb dX1_isBlank_18 rfl (lv_at hl 0 rfl) ?_
        refine lv_bipush (v := (32 : Int32)) hx hb dX1_isBlank_19 (by decide) ?_
        refine lv_icmp_ne (tgt := 28) hx hb dX1_isBlank_21 (by decide) (fun c4 => ?_) (fun c4 => ?_)
        · have hf := (if_neg c4).symm.trans hf
          refine lv_iconst (v := (0 : Int32)) hx hb dX1_isBlank_28 (by decide) ?_
          subst hf
          exact ct_iret G (bI_nar false) hP hD hS dX1_isBlank_29
        · have hf := (if_pos c4).symm.trans hf
          refine lv_iconst (v := (1 : Int32)) hx hb dX1_isBlank_24 (by decide) ?_
          refine lv_goto (tgt := 29) hx hb dX1_isBlank_25 (by decide) ?_
          subst hf
          exact ct_iret G (bI_nar true) hP hD hS dX1_isBlank_29
set_option maxHeartbeats 4000000 in
set_option maxRecDepth 100000 in
theorem c_eX1_isBlank {l : Launch} {D : va_G} {aK aV : Nat → Nat} {cB cI cJ : ClassId}  (p0 : Int32) : CT l D (gTy cB cI cJ) aK aV yX1_isBlank (wM yX1_isBlank cX1_isBlank 1 (some .boolean)) (rm_eX1_isBlank) 0 0 [.int p0] [] (some (.int (bI (eX1_isBlank p0)))) [] := by
  refine CT.of (by decide) rfl ?_
  intro p e s m below meth c A G hnm hP hD hS
  have hl := lv_entry [.int p0] (n := 1) (Nat.le_of_ble_eq_true rfl)
  rw [lg_entry_eq]
  generalize (lg_sl [.int p0] ++ List.replicate (1 - (lg_sl [.int p0]).length) Slot.unset).toArray = ls at hl ⊢
  exact eX1_isBlank_t0e G hl hP hD hS rfl
def eX1_isDigit (p0 : Int32) : Bool := (if p0 < (48 : Int32) then false else (if (57 : Int32) < p0 then false else true))
abbrev rm_eX1_isDigit : Room := { frames := 0, cells := 0, slots := 0, locals := 0 }
set_option maxHeartbeats 4000000 in
set_option maxRecDepth 100000 in
theorem eX1_isDigit_t0e {p : Program} {l : Launch} {e : Env} {s : State} {m : MethodId} {args : Array Value} {below : List Frame} {meth : Method} {c : Code} {D : va_G} {aK aV : Nat → Nat} {A : Nat → Prop} {cB cI cJ : ClassId}  {H : Heap} {locs : List Loc} {ls : Array Slot} {ρ : Bool} {p0 : Int32} (G : CX p s m args meth c D (gTy cB cI cJ) aK aV A RX1 cX1_isDigit 1 (some .boolean)) (hl : lv_has ls 1 [(0, .int p0)]) (hP : va_P D vwCl ([]) H) (hD : va_D A ([])) (hS : va_S A s.heap H locs) (hf : eX1_isDigit p0 = ρ) : W p l e (rm_eX1_isDigit) s m args below meth c H locs 0 0 (MQ below (cQ D (gTy cB cI cJ) A ([]) (some (.int (bI ρ)))) args s 0 0 A) (F0 m 0 ls []) := by
  unfold eX1_isDigit at hf
  obtain ⟨hx, hb, hml, hown, hT, hrt, hlk, hK, hA, hG, hE⟩ := id G
  refine lv_iload_n hx hb dX1_isDigit_0 rfl (lv_at hl 0 rfl) ?_
  refine lv_bipush (v := (48 : Int32)) hx hb dX1_isDigit_1 (by decide) ?_
  refine lv_icmp_lt (tgt := 16) hx hb dX1_isDigit_3 (by decide) (fun c1 => ?_) (fun c1 => ?_)
  · have hf := (if_pos c1).symm.trans hf
    refine lv_iconst (v := (0 : Int32)) hx hb dX1_isDigit_16 (by decide) ?_
    subst hf
    exact ct_iret G (bI_nar false) hP hD hS dX1_isDigit_17
  · have hf := (if_neg c1).symm.trans hf
    refine lv_iload_n hx hb dX1_isDigit_6 rfl (lv_at hl 0 rfl) ?_
    refine lv_bipush (v := (57 : Int32)) hx hb dX1_isDigit_7 (by decide) ?_
    refine lv_icmp_gt (tgt := 16) hx hb dX1_isDigit_9 (by decide) (fun c2 => ?_) (fun c2 => ?_)
    · have hf := (if_pos c2).symm.trans hf
      refine lv_iconst (v := (0 : Int32)) hx hb dX1_isDigit_16 (by decide) ?_
      subst hf
      exact ct_iret G (bI_nar false) hP hD hS dX1_isDigit_17
    · have hf := (if_neg c2).symm.trans hf
      refine lv_iconst (v := (1 : Int32)) hx hb dX1_isDigit_12 (by decide) ?_
      refine lv_goto (tgt := 17) hx hb dX1_isDigit_13 (by decide) ?_
      subst hf
      exact ct_iret G (bI_nar true) hP hD hS dX1_isDigit_17
set_option maxHeartbeats 4000000 in
set_option maxRecDepth 100000 in
theorem c_eX1_isDigit {l : Launch} {D : va_G} {aK aV : Nat → Nat} {cB cI cJ : ClassId}  (p0 : Int32) : CT l D (gTy cB cI cJ) aK aV yX1_isDigit (wM yX1_isDigit cX1_isDigit 1 (some .boolean)) (rm_eX1_isDigit) 0 0 [.int p0] [] (some (.int (bI (eX1_isDigit p0)))) [] := by
  refine CT.of (by decide) rfl ?_
  intro p e s m below meth c A G hnm hP hD hS
  have hl := lv_entry [.int p0] (n := 1) (Nat.le_of_ble_eq_true rfl)
  rw [lg_entry_eq]
  generalize (lg_sl [.int p0] ++ List.replicate (1 - (lg_sl [.int p0]).length) Slot.unset).toArray = ls at hl ⊢
  exact eX1_isDigit_t0e G hl hP hD hS rfl
def eX1_hexValue_b37 (a0 : Int32) : Int32 := (if a0 < (65 : Int32) then (-1 : Int32) else (if (70 : Int32) < a0 then (-1 : Int32) else ((a0 - (65 : Int32)) + (10 : Int32))))
def eX1_hexValue_b17 (a0 : Int32) : Int32 := (if a0 < (97 : Int32) then eX1_hexValue_b37 a0 else (if (102 : Int32) < a0 then eX1_hexValue_b37 a0 else ((a0 - (97 : Int32)) + (10 : Int32))))
def eX1_hexValue (p0 : Int32) : Int32 := (if p0 < (48 : Int32) then eX1_hexValue_b17 p0 else (if (57 : Int32) < p0 then eX1_hexValue_b17 p0 else (p0 - (48 : Int32))))
abbrev rm_eX1_hexValue : Room := { frames := 0, cells := 0, slots := 0, locals := 0 }
set_option maxHeartbeats 4000000 in
set_option maxRecDepth 100000 in
theorem eX1_hexValue_t37 {p : Program} {l : Launch} {e : Env} {s : State} {m : MethodId} {args : Array Value} {below : List Frame} {meth : Method} {c : Code} {D : va_G} {aK aV : Nat → Nat} {A : Nat → Prop} {cB cI cJ : ClassId}  {H : Heap} {locs : List Loc} {ls : Array Slot} {ρ : Int32} {a0 : Int32} (G : CX p s m args meth c D (gTy cB cI cJ) aK aV A RX1 cX1_hexValue 1 (some .int)) (hl : lv_has ls 1 [(0, .int a0)]) (hP : va_P D vwCl ([]) H) (hD : va_D A ([])) (hS : va_S A s.heap H locs) (hf : eX1_hexValue_b37 a0 = ρ) : W p l e (rm_eX1_hexValue) s m args below meth c H locs 0 0 (MQ below (cQ D (gTy cB cI cJ) A ([]) (some (.int ρ))) args s 0 0 A) (F0 m 37 ls []) := by
  unfold eX1_hexValue_b37 at hf
  obtain ⟨hx, hb, hml, hown, hT, hrt, hlk, hK, hA, hG, hE⟩ := id G
  refine lv_iload_n hx hb dX1_hexValue_37 rfl (lv_at hl 0 rfl) ?_
  refine lv_bipush (v := (65 : Int32)) hx hb dX1_hexValue_38 (by decide) ?_
  refine lv_icmp_lt (tgt := 59) hx hb dX1_hexValue_40 (by decide) (fun c5 => ?_) (fun c5 => ?_)
  · have hf := (if_pos c5).symm.trans hf
    refine lv_iconst (v := (-1 : Int32)) hx hb dX1_hexValue_59 (by decide) ?_
    subst hf
    exact ct_iret G rfl hP hD hS dX1_hexValue_60
  · have hf := (if_neg c5).symm.trans hf
    refine lv_iload_n hx hb dX1_hexValue_43 rfl (lv_at hl 0 rfl) ?_
    refine lv_bipush (v := (70 : Int32)) hx hb dX1_hexValue_44 (by decide) ?_
    refine lv_icmp_gt (tgt := 59) hx hb dX1_hexValue_46 (by decide) (fun c6 => ?_) (fun c6 => ?_)
    · have hf := (if_pos c6).symm.trans hf
      refine lv_iconst (v := (-1 : Int32)) hx hb dX1_hexValue_59 (by decide) ?_
      subst hf
      exact ct_iret G rfl hP hD hS dX1_hexValue_60
    · have hf := (if_neg c6).symm.trans hf
      refine lv_iload_n hx hb dX1_hexValue_49 rfl (lv_at hl 0 rfl) ?_
      refine lv_bipush (v := (65 : Int32)) hx hb dX1_hexValue_50 (by decide) ?_
      refine lv_isub hx hb dX1_hexValue_52 ?_
      refine lv_bipush (v := (10 : Int32)) hx hb dX1_hexValue_53 (by decide) ?_
      refine lv_iadd hx hb dX1_hexValue_55 ?_
      refine lv_goto (tgt := 60) hx hb dX1_hexValue_56 (by decide) ?_
      subst hf
      exact ct_iret G rfl hP hD hS dX1_hexValue_60
set_option maxHeartbeats 4000000 in
set_option maxRecDepth 100000 in
theorem eX1_hexValue_t17 {p : Program} {l : Launch} {e : Env} {s : State} {m : MethodId} {args : Array Value} {below : List Frame} {meth : Method} {c : Code} {D : va_G} {aK aV : Nat → Nat} {A : Nat → Prop} {cB cI cJ : ClassId}  {H : Heap} {locs : List Loc} {ls : Array Slot} {ρ : Int32} {a0 : Int32} (G : CX p s m args meth c D (gTy cB cI cJ) aK aV A RX1 cX1_hexValue 1 (some .int)) (hl : lv_has ls 1 [(0, .int a0)]) (hP : va_P D vwCl ([]) H) (hD : va_D A ([])) (hS : va_S A s.heap H locs) (hf : eX1_hexValue_b17 a0 = ρ) : W p l e (rm_eX1_hexValue) s m args below meth c H locs 0 0 (MQ below (cQ D (gTy cB cI cJ) A ([]) (some (.int ρ))) args s 0 0 A) (F0 m 17 ls []) := by
  unfold eX1_hexValue_b17 at hf
  obtain ⟨hx, hb, hml, hown, hT, hrt, hlk, hK, hA, hG, hE⟩ := id G
  refine lv_iload_n hx hb dX1_hexValue_17 rfl (lv_at hl 0 rfl) ?_
  refine lv_bipush (v := (97 : Int32)) hx hb dX1_hexValue_18 (by decide) ?_
  refine lv_icmp_lt (tgt := 37) hx hb dX1_hexValue_20 (by decide) (fun c3 => ?_) (fun c3 => ?_)
  · have hf := (if_pos c3).symm.trans hf
    exact W.eq (g2 := F0 m 37 ls []) rfl (eX1_hexValue_t37 G (lv_sub hl [0] rfl) hP hD hS hf)
  · have hf := (if_neg c3).symm.trans hf
    refine lv_iload_n hx hb dX1_hexValue_23 rfl (lv_at hl 0 rfl) ?_
    refine lv_bipush (v := (102 : Int32)) hx hb dX1_hexValue_24 (by decide) ?_
    refine lv_icmp_gt (tgt := 37) hx hb dX1_hexValue_26 (by decide) (fun c4 => ?_) (fun c4 => ?_)
    · have hf := (if_pos c4).symm.trans hf
      exact W.eq (g2 := F0 m 37 ls []) rfl (eX1_hexValue_t37 G (lv_sub hl [0] rfl) hP hD hS hf)
    · have hf := (if_neg c4).symm.trans hf
      refine lv_iload_n hx hb dX1_hexValue_29 rfl (lv_at hl 0 rfl) ?_
      refine lv_bipush (v := (97 : Int32)) hx hb dX1_hexValue_30 (by decide) ?_
      refine lv_isub hx hb dX1_hexValue_32 ?_
      refine lv_bipush (v := (10 : Int32)) hx hb dX1_hexValue_33 (by decide) ?_
      refine lv_iadd hx hb dX1_hexValue_35 ?_
      subst hf
      exact ct_iret G rfl hP hD hS dX1_hexValue_36
set_option maxHeartbeats 4000000 in
set_option maxRecDepth 100000 in
theorem eX1_hexValue_t0e {p : Program} {l : Launch} {e : Env} {s : State} {m : MethodId} {args : Array Value} {below : List Frame} {meth : Method} {c : Code} {D : va_G} {aK aV : Nat → Nat} {A : Nat → Prop} {cB cI cJ : ClassId}  {H : Heap} {locs : List Loc} {ls : Array Slot} {ρ : Int32} {p0 : Int32} (G : CX p s m args meth c D (gTy cB cI cJ) aK aV A RX1 cX1_hexValue 1 (some .int)) (hl : lv_has ls 1 [(0, .int p0)]) (hP : va_P D vwCl ([]) H) (hD : va_D A ([])) (hS : va_S A s.heap H locs) (hf : eX1_hexValue p0 = ρ) : W p l e (rm_eX1_hexValue) s m args below meth c H locs 0 0 (MQ below (cQ D (gTy cB cI cJ) A ([]) (some (.int ρ))) args s 0 0 A) (F0 m 0 ls []) := by
  unfold eX1_hexValue at hf
  obtain ⟨hx, hb, hml, hown, hT, hrt, hlk, hK, hA, hG, hE⟩ := id G
  refine lv_iload_n hx hb dX1_hexValue_0 rfl (lv_at hl 0 rfl) ?_
  refine lv_bipush (v := (48 : Int32)) hx hb dX1_hexValue_1 (by decide) ?_
  refine lv_icmp_lt (tgt := 17) hx hb dX1_hexValue_3 (by decide) (fun c1 => ?_) (fun c1 => ?_)
  · have hf := (if_pos c1).symm.trans hf
    exact W.eq (g2 := F0 m 17 ls []) rfl (eX1_hexValue_t17 G (lv_sub hl [0] rfl) hP hD hS hf)
  · have hf := (if_neg c1).symm.trans hf
    refine lv_iload_n hx hb dX1_hexValue_6 rfl (lv_at hl 0 rfl) ?_
    refine lv_bipush (v := (57 : Int32)) hx hb dX1_hexValue_7 (by decide) ?_
    refine lv_icmp_gt (tgt := 17) hx hb dX1_hexValue_9 (by decide) (fun c2 => ?_) (fun c2 => ?_)
    · have hf := (if_pos c2).symm.trans hf
      exact W.eq (g2 := F0 m 17 ls []) rfl (eX1_hexValue_t17 G (lv_sub hl [0] rfl) hP hD hS hf)
    · have hf := (if_neg c2).symm.trans hf
      refine lv_iload_n hx hb dX1_hexValue_12 rfl (lv_at hl 0 rfl) ?_
      refine lv_bipush (v := (48 : Int32)) hx hb dX1_hexValue_13 (by decide) ?_
      refine lv_isub hx hb dX1_hexValue_15 ?_
      subst hf
      exact ct_iret G rfl hP hD hS dX1_hexValue_16
set_option maxHeartbeats 4000000 in
set_option maxRecDepth 100000 in
theorem c_eX1_hexValue {l : Launch} {D : va_G} {aK aV : Nat → Nat} {cB cI cJ : ClassId}  (p0 : Int32) : CT l D (gTy cB cI cJ) aK aV yX1_hexValue (wM yX1_hexValue cX1_hexValue 1 (some .int)) (rm_eX1_hexValue) 0 0 [.int p0] [] (some (.int (eX1_hexValue p0))) [] := by
  refine CT.of (by decide) rfl ?_
  intro p e s m below meth c A G hnm hP hD hS
  have hl := lv_entry [.int p0] (n := 1) (Nat.le_of_ble_eq_true rfl)
  rw [lg_entry_eq]
  generalize (lg_sl [.int p0] ++ List.replicate (1 - (lg_sl [.int p0]).length) Slot.unset).toArray = ls at hl ⊢
  exact eX1_hexValue_t0e G hl hP hD hS rfl
def eX1_isFirstHalf (p0 : Int32) : Bool := (if p0 < (55296 : Int32) then false else (if (56319 : Int32) < p0 then false else true))
abbrev rm_eX1_isFirstHalf : Room := { frames := 0, cells := 0, slots := 0, locals := 0 }
set_option maxHeartbeats 4000000 in
set_option maxRecDepth 100000 in
theorem eX1_isFirstHalf_t0e {p : Program} {l : Launch} {e : Env} {s : State} {m : MethodId} {args : Array Value} {below : List Frame} {meth : Method} {c : Code} {D : va_G} {aK aV : Nat → Nat} {A : Nat → Prop} {cB cI cJ : ClassId}  {H : Heap} {locs : List Loc} {ls : Array Slot} {ρ : Bool} {p0 : Int32} (G : CX p s m args meth c D (gTy cB cI cJ) aK aV A RX1 cX1_isFirstHalf 1 (some .boolean)) (hl : lv_has ls 1 [(0, .int p0)]) (hP : va_P D vwCl ([]) H) (hD : va_D A ([])) (hS : va_S A s.heap H locs) (hf : eX1_isFirstHalf p0 = ρ) : W p l e (rm_eX1_isFirstHalf) s m args below meth c H locs 0 0 (MQ below (cQ D (gTy cB cI cJ) A ([]) (some (.int (bI ρ)))) args s 0 0 A) (F0 m 0 ls []) := by
  unfold eX1_isFirstHalf at hf
  obtain ⟨hx, hb, hml, hown, hT, hrt, hlk, hK, hA, hG, hE⟩ := id G
  refine lv_iload_n hx hb dX1_isFirstHalf_0 rfl (lv_at hl 0 rfl) ?_
  refine lv_ldc (v := (55296 : Int32)) hx hb hown (hT _ wc_X1_136) dX1_isFirstHalf_1 ?_
  refine lv_icmp_lt (tgt := 16) hx hb dX1_isFirstHalf_3 (by decide) (fun c1 => ?_) (fun c1 => ?_)
  · have hf := (if_pos c1).symm.trans hf
    refine lv_iconst (v := (0 : Int32)) hx hb dX1_isFirstHalf_16 (by decide) ?_
    subst hf
    exact ct_iret G (bI_nar false) hP hD hS dX1_isFirstHalf_17
  · have hf := (if_neg c1).symm.trans hf
    refine lv_iload_n hx hb dX1_isFirstHalf_6 rfl (lv_at hl 0 rfl) ?_
    refine lv_ldc (v := (56319 : Int32)) hx hb hown (hT _ wc_X1_160) dX1_isFirstHalf_7 ?_
    refine lv_icmp_gt (tgt := 16) hx hb dX1_isFirstHalf_9 (by decide) (fun c2 => ?_) (fun c2 => ?_)
    · have hf := (if_pos c2).symm.trans hf
      refine lv_iconst (v := (0 : Int32)) hx hb dX1_isFirstHalf_16 (by decide) ?_
      subst hf
      exact ct_iret G (bI_nar false) hP hD hS dX1_isFirstHalf_17
    · have hf := (if_neg c2).symm.trans hf
      refine lv_iconst (v := (1 : Int32)) hx hb dX1_isFirstHalf_12 (by decide) ?_
      refine lv_goto (tgt := 17) hx hb dX1_isFirstHalf_13 (by decide) ?_
      subst hf
      exact ct_iret G (bI_nar true) hP hD hS dX1_isFirstHalf_17
set_option maxHeartbeats 4000000 in
set_option maxRecDepth 100000 in
theorem c_eX1_isFirstHalf {l : Launch} {D : va_G} {aK aV : Nat → Nat} {cB cI cJ : ClassId}  (p0 : Int32) : CT l D (gTy cB cI cJ) aK aV yX1_isFirstHalf (wM yX1_isFirstHalf cX1_isFirstHalf 1 (some .boolean)) (rm_eX1_isFirstHalf) 0 0 [.int p0] [] (some (.int (bI (eX1_isFirstHalf p0)))) [] := by
  refine CT.of (by decide) rfl ?_
  intro p e s m below meth c A G hnm hP hD hS
  have hl := lv_entry [.int p0] (n := 1) (Nat.le_of_ble_eq_true rfl)
  rw [lg_entry_eq]
  generalize (lg_sl [.int p0] ++ List.replicate (1 - (lg_sl [.int p0]).length) Slot.unset).toArray = ls at hl ⊢
  exact eX1_isFirstHalf_t0e G hl hP hD hS rfl
def eX1_isSecondHalf (p0 : Int32) : Bool := (if p0 < (56320 : Int32) then false else (if (57343 : Int32) < p0 then false else true))
abbrev rm_eX1_isSecondHalf : Room := { frames := 0, cells := 0, slots := 0, locals := 0 }
set_option maxHeartbeats 4000000 in
set_option maxRecDepth 100000 in
theorem eX1_isSecondHalf_t0e {p : Program} {l : Launch} {e : Env} {s : State} {m : MethodId} {args : Array Value} {below : List Frame} {meth : Method} {c : Code} {D : va_G} {aK aV : Nat → Nat} {A : Nat → Prop} {cB cI cJ : ClassId}  {H : Heap} {locs : List Loc} {ls : Array Slot} {ρ : Bool} {p0 : Int32} (G : CX p s m args meth c D (gTy cB cI cJ) aK aV A RX1 cX1_isSecondHalf 1 (some .boolean)) (hl : lv_has ls 1 [(0, .int p0)]) (hP : va_P D vwCl ([]) H) (hD : va_D A ([])) (hS : va_S A s.heap H locs) (hf : eX1_isSecondHalf p0 = ρ) : W p l e (rm_eX1_isSecondHalf) s m args below meth c H locs 0 0 (MQ below (cQ D (gTy cB cI cJ) A ([]) (some (.int (bI ρ)))) args s 0 0 A) (F0 m 0 ls []) := by
  unfold eX1_isSecondHalf at hf
  obtain ⟨hx, hb, hml, hown, hT, hrt, hlk, hK, hA, hG, hE⟩ := id G
  refine lv_iload_n hx hb dX1_isSecondHalf_0 rfl (lv_at hl 0 rfl) ?_
  refine lv_ldc (v := (56320 : Int32)) hx hb hown (hT _ wc_X1_137) dX1_isSecondHalf_1 ?_
  refine lv_icmp_lt (tgt := 16) hx hb dX1_isSecondHalf_3 (by decide) (fun c1 => ?_) (fun c1 => ?_)
  · have hf := (if_pos c1).symm.trans hf
    refine lv_iconst (v := (0 : Int32)) hx hb dX1_isSecondHalf_16 (by decide) ?_
    subst hf
    exact ct_iret G (bI_nar false) hP hD hS dX1_isSecondHalf_17
  · have hf := (if_neg c1).symm.trans hf
    refine lv_iload_n hx hb dX1_isSecondHalf_6 rfl (lv_at hl 0 rfl) ?_
    refine lv_ldc (v := (57343 : Int32)) hx hb hown (hT _ wc_X1_161) dX1_isSecondHalf_7 ?_
    refine lv_icmp_gt (tgt := 16) hx hb dX1_isSecondHalf_9 (by decide) (fun c2 => ?_) (fun c2 => ?_)
    · have hf := (if_pos c2).symm.trans hf
      refine lv_iconst (v := (0 : Int32)) hx hb dX1_isSecondHalf_16 (by decide) ?_
      subst hf
      exact ct_iret G (bI_nar false) hP hD hS dX1_isSecondHalf_17
    · have hf := (if_neg c2).symm.trans hf
      refine lv_iconst (v := (1 : Int32)) hx hb dX1_isSecondHalf_12 (by decide) ?_
      refine lv_goto (tgt := 17) hx hb dX1_isSecondHalf_13 (by decide) ?_
      subst hf
      exact ct_iret G (bI_nar true) hP hD hS dX1_isSecondHalf_17
set_option maxHeartbeats 4000000 in
set_option maxRecDepth 100000 in
theorem c_eX1_isSecondHalf {l : Launch} {D : va_G} {aK aV : Nat → Nat} {cB cI cJ : ClassId}  (p0 : Int32) : CT l D (gTy cB cI cJ) aK aV yX1_isSecondHalf (wM yX1_isSecondHalf cX1_isSecondHalf 1 (some .boolean)) (rm_eX1_isSecondHalf) 0 0 [.int p0] [] (some (.int (bI (eX1_isSecondHalf p0)))) [] := by
  refine CT.of (by decide) rfl ?_
  intro p e s m below meth c A G hnm hP hD hS
  have hl := lv_entry [.int p0] (n := 1) (Nat.le_of_ble_eq_true rfl)
  rw [lg_entry_eq]
  generalize (lg_sl [.int p0] ++ List.replicate (1 - (lg_sl [.int p0]).length) Slot.unset).toArray = ls at hl ⊢
  exact eX1_isSecondHalf_t0e G hl hP hD hS rfl
def eX0_isWithin (p0 : Int64) (p1 : Int32) : Bool := (if p0 < (0 : Int64) then false else (if (Int32.toInt64 p1) < p0 then false else true))
abbrev rm_eX0_isWithin : Room := { frames := 0, cells := 0, slots := 0, locals := 0 }
set_option maxHeartbeats 4000000 in
set_option maxRecDepth 100000 in
theorem eX0_isWithin_t0e {p : Program} {l : Launch} {e : Env} {s : State} {m : MethodId} {args : Array Value} {below : List Frame} {meth : Method} {c : Code} {D : va_G} {aK aV : Nat → Nat} {A : Nat → Prop} {cB cI cJ : ClassId}  {H : Heap} {locs : List Loc} {ls : Array Slot} {ρ : Bool} {p0 : Int64} {p1 : Int32} (G : CX p s m args meth c D (gTy cB cI cJ) aK aV A RX0 cX0_isWithin 3 (some .boolean)) (hl : lv_has ls 3 [(0, .long p0), (2, .int p1)]) (hP : va_P D vwCl ([]) H) (hD : va_D A ([])) (hS : va_S A s.heap H locs) (hf : eX0_isWithin p0 p1 = ρ) : W p l e (rm_eX0_isWithin) s m args below meth c H locs 0 0 (MQ below (cQ D (gTy cB cI cJ) A ([]) (some (.int (bI ρ)))) args s 0 0 A) (F0 m 0 ls []) := by
  unfold eX0_isWithin at hf
  obtain ⟨hx, hb, hml, hown, hT, hrt, hlk, hK, hA, hG, hE⟩ := id G
  refine lv_lload_n hx hb dX0_isWithin_0 rfl (lv_at hl 0 rfl) ?_
  refine lv_lconst (v := (0 : Int64)) hx hb dX0_isWithin_1 (by decide) ?_
  refine W.lcmp hx hb dX0_isWithin_2 ?_
  refine lv_if_lt (tgt := 17) hx hb dX0_isWithin_3 (by decide) (fun c1 => ?_) (fun c1 => ?_)
  · have hf := (if_pos ((lg_cmp_lt _ _).mp c1)).symm.trans hf
    refine lv_iconst (v := (0 : Int32)) hx hb dX0_isWithin_17 (by decide) ?_
    subst hf
    exact ct_iret G (bI_nar false) hP hD hS dX0_isWithin_18
  · have hf := (if_neg (fun z => c1 ((lg_cmp_lt _ _).mpr z))).symm.trans hf
    refine lv_lload_n hx hb dX0_isWithin_6 rfl (lv_at hl 0 rfl) ?_
    refine lv_iload_n hx hb dX0_isWithin_7 rfl (lv_at hl 1 rfl) ?_
    refine lv_i2l (v := (Int32.toInt64 p1)) hx hb dX0_isWithin_8 rfl ?_
    refine W.lcmp hx hb dX0_isWithin_9 ?_
    refine lv_if_gt (tgt := 17) hx hb dX0_isWithin_10 (by decide) (fun c2 => ?_) (fun c2 => ?_)
    · have hf := (if_pos ((lg_cmp_gt _ _).mp c2)).symm.trans hf
      refine lv_iconst (v := (0 : Int32)) hx hb dX0_isWithin_17 (by decide) ?_
      subst hf
      exact ct_iret G (bI_nar false) hP hD hS dX0_isWithin_18
    · have hf := (if_neg (fun z => c2 ((lg_cmp_gt _ _).mpr z))).symm.trans hf
      refine lv_iconst (v := (1 : Int32)) hx hb dX0_isWithin_13 (by decide) ?_
      refine lv_goto (tgt := 18) hx hb dX0_isWithin_14 (by decide) ?_
      subst hf
      exact ct_iret G (bI_nar true) hP hD hS dX0_isWithin_18
set_option maxHeartbeats 4000000 in
set_option maxRecDepth 100000 in
theorem c_eX0_isWithin {l : Launch} {D : va_G} {aK aV : Nat → Nat} {cB cI cJ : ClassId}  (p0 : Int64) (p1 : Int32) : CT l D (gTy cB cI cJ) aK aV yX0_isWithin (wM yX0_isWithin cX0_isWithin 3 (some .boolean)) (rm_eX0_isWithin) 0 0 [.long p0, .int p1] [] (some (.int (bI (eX0_isWithin p0 p1)))) [] := by
  refine CT.of (by decide) rfl ?_
  intro p e s m below meth c A G hnm hP hD hS
  have hl := lv_entry [.long p0, .int p1] (n := 3) (Nat.le_of_ble_eq_true rfl)
  rw [lg_entry_eq]
  generalize (lg_sl [.long p0, .int p1] ++ List.replicate (3 - (lg_sl [.long p0, .int p1]).length) Slot.unset).toArray = ls at hl ⊢
  exact eX0_isWithin_t0e G hl hP hD hS rfl
def eX0_tenthOf (p0 : Int64) : Int64 := (((Int64.toUInt64 p0 >>> ((Int32.toInt64 (1 : Int32)).toUInt64 &&& Int64.toUInt64 63)).toInt64) / (5 : Int64))
abbrev rm_eX0_tenthOf : Room := { frames := 0, cells := 0, slots := 0, locals := 0 }
set_option maxHeartbeats 4000000 in
set_option maxRecDepth 100000 in
theorem eX0_tenthOf_t0e {p : Program} {l : Launch} {e : Env} {s : State} {m : MethodId} {args : Array Value} {below : List Frame} {meth : Method} {c : Code} {D : va_G} {aK aV : Nat → Nat} {A : Nat → Prop} {cB cI cJ : ClassId}  {H : Heap} {locs : List Loc} {ls : Array Slot} {ρ : Int64} {p0 : Int64} (G : CX p s m args meth c D (gTy cB cI cJ) aK aV A RX0 cX0_tenthOf 2 (some .long)) (hl : lv_has ls 2 [(0, .long p0)]) (hP : va_P D vwCl ([]) H) (hD : va_D A ([])) (hS : va_S A s.heap H locs) (hf : eX0_tenthOf p0 = ρ) : W p l e (rm_eX0_tenthOf) s m args below meth c H locs 0 0 (MQ below (cQ D (gTy cB cI cJ) A ([]) (some (.long ρ))) args s 0 0 A) (F0 m 0 ls []) := by
  unfold eX0_tenthOf at hf
  obtain ⟨hx, hb, hml, hown, hT, hrt, hlk, hK, hA, hG, hE⟩ := id G
  refine lv_lload_n hx hb dX0_tenthOf_0 rfl (lv_at hl 0 rfl) ?_
  refine lv_iconst (v := (1 : Int32)) hx hb dX0_tenthOf_1 (by decide) ?_
  refine lv_lushr (v := ((Int64.toUInt64 p0 >>> ((Int32.toInt64 (1 : Int32)).toUInt64 &&& Int64.toUInt64 63)).toInt64)) hx hb dX0_tenthOf_2 rfl ?_
  refine lv_ldc2 (v := (5 : Int64)) hx hb hown (hT _ wc_X0_139) dX0_tenthOf_3 ?_
  refine lv_ldiv hx hb dX0_tenthOf_6 (by decide) ?_
  subst hf
  exact ct_lret G hP hD hS dX0_tenthOf_7
set_option maxHeartbeats 4000000 in
set_option maxRecDepth 100000 in
theorem c_eX0_tenthOf {l : Launch} {D : va_G} {aK aV : Nat → Nat} {cB cI cJ : ClassId}  (p0 : Int64) : CT l D (gTy cB cI cJ) aK aV yX0_tenthOf (wM yX0_tenthOf cX0_tenthOf 2 (some .long)) (rm_eX0_tenthOf) 0 0 [.long p0] [] (some (.long (eX0_tenthOf p0))) [] := by
  refine CT.of (by decide) rfl ?_
  intro p e s m below meth c A G hnm hP hD hS
  have hl := lv_entry [.long p0] (n := 2) (Nat.le_of_ble_eq_true rfl)
  rw [lg_entry_eq]
  generalize (lg_sl [.long p0] ++ List.replicate (2 - (lg_sl [.long p0]).length) Slot.unset).toArray = ls at hl ⊢
  exact eX0_tenthOf_t0e G hl hP hD hS rfl
def eX1_signOf (p0 : Int32) : Int32 := (if p0 = (34 : Int32) then p0 else (if p0 = (47 : Int32) then p0 else (if p0 = (92 : Int32) then p0 else (if p0 = (98 : Int32) then (8 : Int32) else (if p0 = (102 : Int32) then (12 : Int32) else (if p0 = (110 : Int32) then (10 : Int32) else (if p0 = (114 : Int32) then (13 : Int32) else (if p0 = (116 : Int32) then (9 : Int32) else (-1 : Int32)))))))))
abbrev rm_eX1_signOf : Room := { frames := 0, cells := 0, slots := 0, locals := 0 }
set_option maxHeartbeats 4000000 in
set_option maxRecDepth 100000 in
theorem eX1_signOf_t0e {p : Program} {l : Launch} {e : Env} {s : State} {m : MethodId} {args : Array Value} {below : List Frame} {meth : Method} {c : Code} {D : va_G} {aK aV : Nat → Nat} {A : Nat → Prop} {cB cI cJ : ClassId}  {H : Heap} {locs : List Loc} {ls : Array Slot} {ρ : Int32} {p0 : Int32} (G : CX p s m args meth c D (gTy cB cI cJ) aK aV A RX1 cX1_signOf 1 (some .int)) (hl : lv_has ls 1 [(0, .int p0)]) (hP : va_P D vwCl ([]) H) (hD : va_D A ([])) (hS : va_S A s.heap H locs) (hf : eX1_signOf p0 = ρ) : W p l e (rm_eX1_signOf) s m args below meth c H locs 0 0 (MQ below (cQ D (gTy cB cI cJ) A ([]) (some (.int ρ))) args s 0 0 A) (F0 m 0 ls []) := by
  unfold eX1_signOf at hf
  obtain ⟨hx, hb, hml, hown, hT, hrt, hlk, hK, hA, hG, hE⟩ := id G
  refine lv_iload_n hx hb dX1_signOf_0 rfl (lv_at hl 0 rfl) ?_
  by_cases c1 : p0 = (34 : Int32)
  · have hf := (if_pos c1).symm.trans hf
    refine lv_lookup (off := 75) (tgt := 76) hx hb dX1_signOf_1 (by decide) (by rw [c1]; decide +kernel) (by decide) ?_
    refine lv_iload_n hx hb dX1_signOf_76 rfl (lv_at hl 0 rfl) ?_
    subst hf
    exact ct_iret G rfl hP hD hS dX1_signOf_77
  · have hf := (if_neg c1).symm.trans hf
    by_cases c2 : p0 = (47 : Int32)
    · have hf := (if_pos c2).symm.trans hf
      refine lv_lookup (off := 75) (tgt := 76) hx hb dX1_signOf_1 (by decide) (by rw [c2]; decide +kernel) (by decide) ?_
      refine lv_iload_n hx hb dX1_signOf_76 rfl (lv_at hl 0 rfl) ?_
      subst hf
      exact ct_iret G rfl hP hD hS dX1_signOf_77
    · have hf := (if_neg c2).symm.trans hf
      by_cases c3 : p0 = (92 : Int32)
      · have hf := (if_pos c3).symm.trans hf
        refine lv_lookup (off := 75) (tgt := 76) hx hb dX1_signOf_1 (by decide) (by rw [c3]; decide +kernel) (by decide) ?_
        refine lv_iload_n hx hb dX1_signOf_76 rfl (lv_at hl 0 rfl) ?_
        subst hf
        exact ct_iret G rfl hP hD hS dX1_signOf_77
      · have hf := (if_neg c3).symm.trans hf
        by_cases c4 : p0 = (98 : Int32)
        · have hf := (if_pos c4).symm.trans hf
          refine lv_lookup (off := 77) (tgt := 78) hx hb dX1_signOf_1 (by decide) (by rw [c4]; decide +kernel) (by decide) ?_
          refine lv_bipush (v := (8 : Int32)) hx hb dX1_signOf_78 (by decide) ?_
          subst hf
          exact ct_iret G rfl hP hD hS dX1_signOf_80
        · have hf := (if_neg c4).symm.trans hf
          by_cases c5 : p0 = (102 : Int32)
          · have hf := (if_pos c5).symm.trans hf
            refine lv_lookup (off := 80) (tgt := 81) hx hb dX1_signOf_1 (by decide) (by rw [c5]; decide +kernel) (by decide) ?_
            refine lv_bipush (v := (12 : Int32)) hx hb dX1_signOf_81 (by decide) ?_
            subst hf
            exact ct_iret G rfl hP hD hS dX1_signOf_83
          · have hf := (if_neg c5).symm.trans hf
            by_cases c6 : p0 = (110 : Int32)
            · have hf := (if_pos c6).symm.trans hf
              refine lv_lookup (off := 83) (tgt := 84) hx hb dX1_signOf_1 (by decide) (by rw [c6]; decide +kernel) (by decide) ?_
              refine lv_bipush (v := (10 : Int32)) hx hb dX1_signOf_84 (by decide) ?_
              subst hf
              exact ct_iret G rfl hP hD hS dX1_signOf_86
            · have hf := (if_neg c6).symm.trans hf
              by_cases c7 : p0 = (114 : Int32)
              · have hf := (if_pos c7).symm.trans hf
                refine lv_lookup (off := 86) (tgt := 87) hx hb dX1_signOf_1 (by decide) (by rw [c7]; decide +kernel) (by decide) ?_
                refine lv_bipush (v := (13 : Int32)) hx hb dX1_signOf_87 (by decide) ?_
                subst hf
                exact ct_iret G rfl hP hD hS dX1_signOf_89
              · have hf := (if_neg c7).symm.trans hf
                by_cases c8 : p0 = (116 : Int32)
                · have hf := (if_pos c8).symm.trans hf
                  refine lv_lookup (off := 89) (tgt := 90) hx hb dX1_signOf_1 (by decide) (by rw [c8]; decide +kernel) (by decide) ?_
                  refine lv_bipush (v := (9 : Int32)) hx hb dX1_signOf_90 (by decide) ?_
                  subst hf
                  exact ct_iret G rfl hP hD hS dX1_signOf_92
                · have hf := (if_neg c8).symm.trans hf
                  refine lv_lookup (off := 92) (tgt := 93) hx hb dX1_signOf_1 (by decide) (sw_X1_signOf c1 c2 c3 c4 c5 c6 c7 c8) (by decide) ?_
                  refine lv_iconst (v := (-1 : Int32)) hx hb dX1_signOf_93 (by decide) ?_
                  subst hf
                  exact ct_iret G rfl hP hD hS dX1_signOf_94
set_option maxHeartbeats 4000000 in
set_option maxRecDepth 100000 in
theorem c_eX1_signOf {l : Launch} {D : va_G} {aK aV : Nat → Nat} {cB cI cJ : ClassId}  (p0 : Int32) : CT l D (gTy cB cI cJ) aK aV yX1_signOf (wM yX1_signOf cX1_signOf 1 (some .int)) (rm_eX1_signOf) 0 0 [.int p0] [] (some (.int (eX1_signOf p0))) [] := by
  refine CT.of (by decide) rfl ?_
  intro p e s m below meth c A G hnm hP hD hS
  have hl := lv_entry [.int p0] (n := 1) (Nat.le_of_ble_eq_true rfl)
  rw [lg_entry_eq]
  generalize (lg_sl [.int p0] ++ List.replicate (1 - (lg_sl [.int p0]).length) Slot.unset).toArray = ls at hl ⊢
  exact eX1_signOf_t0e G hl hP hD hS rfl
def eX0_letterOf (p0 : Int32) : Int32 := (if p0 = (8 : Int32) then (98 : Int32) else (if p0 = (9 : Int32) then (116 : Int32) else (if p0 = (10 : Int32) then (110 : Int32) else (if p0 = (12 : Int32) then (102 : Int32) else (if p0 = (13 : Int32) then (114 : Int32) else (if p0 = (34 : Int32) then p0 else (if p0 = (92 : Int32) then p0 else (-1 : Int32))))))))
abbrev rm_eX0_letterOf : Room := { frames := 0, cells := 0, slots := 0, locals := 0 }
set_option maxHeartbeats 4000000 in
set_option maxRecDepth 100000 in
theorem eX0_letterOf_t0e {p : Program} {l : Launch} {e : Env} {s : State} {m : MethodId} {args : Array Value} {below : List Frame} {meth : Method} {c : Code} {D : va_G} {aK aV : Nat → Nat} {A : Nat → Prop} {cB cI cJ : ClassId}  {H : Heap} {locs : List Loc} {ls : Array Slot} {ρ : Int32} {p0 : Int32} (G : CX p s m args meth c D (gTy cB cI cJ) aK aV A RX0 cX0_letterOf 1 (some .int)) (hl : lv_has ls 1 [(0, .int p0)]) (hP : va_P D vwCl ([]) H) (hD : va_D A ([])) (hS : va_S A s.heap H locs) (hf : eX0_letterOf p0 = ρ) : W p l e (rm_eX0_letterOf) s m args below meth c H locs 0 0 (MQ below (cQ D (gTy cB cI cJ) A ([]) (some (.int ρ))) args s 0 0 A) (F0 m 0 ls []) := by
  unfold eX0_letterOf at hf
  obtain ⟨hx, hb, hml, hown, hT, hrt, hlk, hK, hA, hG, hE⟩ := id G
  refine lv_iload_n hx hb dX0_letterOf_0 rfl (lv_at hl 0 rfl) ?_
  by_cases c1 : p0 = (8 : Int32)
  · have hf := (if_pos c1).symm.trans hf
    refine lv_lookup (off := 69) (tgt := 70) hx hb dX0_letterOf_1 (by decide) (by rw [c1]; decide +kernel) (by decide) ?_
    refine lv_bipush (v := (98 : Int32)) hx hb dX0_letterOf_70 (by decide) ?_
    subst hf
    exact ct_iret G rfl hP hD hS dX0_letterOf_72
  · have hf := (if_neg c1).symm.trans hf
    by_cases c2 : p0 = (9 : Int32)
    · have hf := (if_pos c2).symm.trans hf
      refine lv_lookup (off := 72) (tgt := 73) hx hb dX0_letterOf_1 (by decide) (by rw [c2]; decide +kernel) (by decide) ?_
      refine lv_bipush (v := (116 : Int32)) hx hb dX0_letterOf_73 (by decide) ?_
      subst hf
      exact ct_iret G rfl hP hD hS dX0_letterOf_75
    · have hf := (if_neg c2).symm.trans hf
      by_cases c3 : p0 = (10 : Int32)
      · have hf := (if_pos c3).symm.trans hf
        refine lv_lookup (off := 75) (tgt := 76) hx hb dX0_letterOf_1 (by decide) (by rw [c3]; decide +kernel) (by decide) ?_
        refine lv_bipush (v := (110 : Int32)) hx hb dX0_letterOf_76 (by decide) ?_
        subst hf
        exact ct_iret G rfl hP hD hS dX0_letterOf_78
      · have hf := (if_neg c3).symm.trans hf
        by_cases c4 : p0 = (12 : Int32)
        · have hf := (if_pos c4).symm.trans hf
          refine lv_lookup (off := 78) (tgt := 79) hx hb dX0_letterOf_1 (by decide) (by rw [c4]; decide +kernel) (by decide) ?_
          refine lv_bipush (v := (102 : Int32)) hx hb dX0_letterOf_79 (by decide) ?_
          subst hf
          exact ct_iret G rfl hP hD hS dX0_letterOf_81
        · have hf := (if_neg c4).symm.trans hf
          by_cases c5 : p0 = (13 : Int32)
          · have hf := (if_pos c5).symm.trans hf
            refine lv_lookup (off := 81) (tgt := 82) hx hb dX0_letterOf_1 (by decide) (by rw [c5]; decide +kernel) (by decide) ?_
            refine lv_bipush (v := (114 : Int32)) hx hb dX0_letterOf_82 (by decide) ?_
            subst hf
            exact ct_iret G rfl hP hD hS dX0_letterOf_84
          · have hf := (if_neg c5).symm.trans hf
            by_cases c6 : p0 = (34 : Int32)
            · have hf := (if_pos c6).symm.trans hf
              refine lv_lookup (off := 67) (tgt := 68) hx hb dX0_letterOf_1 (by decide) (by rw [c6]; decide +kernel) (by decide) ?_
              refine lv_iload_n hx hb dX0_letterOf_68 rfl (lv_at hl 0 rfl) ?_
              subst hf
              exact ct_iret G rfl hP hD hS dX0_letterOf_69
            · have hf := (if_neg c6).symm.trans hf
              by_cases c7 : p0 = (92 : Int32)
              · have hf := (if_pos c7).symm.trans hf
                refine lv_lookup (off := 67) (tgt := 68) hx hb dX0_letterOf_1 (by decide) (by rw [c7]; decide +kernel) (by decide) ?_
                refine lv_iload_n hx hb dX0_letterOf_68 rfl (lv_at hl 0 rfl) ?_
                subst hf
                exact ct_iret G rfl hP hD hS dX0_letterOf_69
              · have hf := (if_neg c7).symm.trans hf
                refine lv_lookup (off := 84) (tgt := 85) hx hb dX0_letterOf_1 (by decide) (sw_X0_letterOf c1 c2 c3 c4 c5 c6 c7) (by decide) ?_
                refine lv_iconst (v := (-1 : Int32)) hx hb dX0_letterOf_85 (by decide) ?_
                subst hf
                exact ct_iret G rfl hP hD hS dX0_letterOf_86
set_option maxHeartbeats 4000000 in
set_option maxRecDepth 100000 in
theorem c_eX0_letterOf {l : Launch} {D : va_G} {aK aV : Nat → Nat} {cB cI cJ : ClassId}  (p0 : Int32) : CT l D (gTy cB cI cJ) aK aV yX0_letterOf (wM yX0_letterOf cX0_letterOf 1 (some .int)) (rm_eX0_letterOf) 0 0 [.int p0] [] (some (.int (eX0_letterOf p0))) [] := by
  refine CT.of (by decide) rfl ?_
  intro p e s m below meth c A G hnm hP hD hS
  have hl := lv_entry [.int p0] (n := 1) (Nat.le_of_ble_eq_true rfl)
  rw [lg_entry_eq]
  generalize (lg_sl [.int p0] ++ List.replicate (1 - (lg_sl [.int p0]).length) Slot.unset).toArray = ls at hl ⊢
  exact eX0_letterOf_t0e G hl hP hD hS rfl
