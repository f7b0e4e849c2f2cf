/-! THE REFERENCE: its leaves (printed by program wip/gen) -/
def mm_errorAt (σ : MSt) : Option (Int32 × MSt) := some ((mf_errorPlace σ), (ms_thrown σ (0 : Int32)))
abbrev rm_mm_errorAt : Room := { frames := 0, cells := 0, slots := 0, locals := 0 }
set_option maxHeartbeats 4000000 in
set_option maxRecDepth 100000 in
theorem mm_errorAt_t0e {p : Program} {l : Launch} {e : Env} {s : State} {m : MethodId} {args : Array Value} {below : List Frame} {meth : Method} {c : Code} {D : va_G} {aK aV : Nat → Nat} {A : Nat → Prop} {cB cI cJ : ClassId} {q : Nat → Nat} {H : Heap} {locs : List Loc} {ls : Array Slot} {ρ : Int32 × MSt} {σ : MSt} (G : CX p s m args meth c D (gTy cB cI cJ) aK aV A RX5 cX5_errorAt 1 (some .int)) (hl : lv_has ls 1 [(0, .ref (q 0))]) (hP : va_P D vwCl (mW cB cI cJ q σ) H) (hD : va_D A (mW cB cI cJ q σ)) (hS : va_S A s.heap H locs) (hf : mm_errorAt σ = some ρ) : W p l e (rm_mm_errorAt) s m args below meth c H locs 0 0 (MQ below (cQ D (gTy cB cI cJ) A (mW cB cI cJ q ρ.2) (some (.int ρ.1))) args s 0 0 A) (F0 m 0 ls []) := by
  unfold mm_errorAt at hf
  obtain ⟨hx, hb, hml, hown, hT, hrt, hlk, hK, hA, hG, hE⟩ := id G
  refine lv_aload_n hx hb dX5_errorAt_0 rfl (lv_at hl 0 rfl) ?_
  refine lv_iconst (v := (0 : Int32)) hx hb dX5_errorAt_1 (by decide) ?_
  refine pm_X5_thrown (v := (0 : Int32)) G hP hD hS dX5_errorAt_2 (fun H locs hP hD hS => ?_)
  refine lv_aload_n hx hb dX5_errorAt_5 rfl (lv_at hl 0 rfl) ?_
  refine gm_X5_errorPlace (v := (mf_errorPlace σ)) G hP dX5_errorAt_6 (mG_errorPlace_thrown _ _) ?_
  cases hf
  exact ct_iret G rfl hP hD hS dX5_errorAt_9
set_option maxHeartbeats 4000000 in
set_option maxRecDepth 100000 in
theorem c_mm_errorAt {l : Launch} {D : va_G} {aK aV : Nat → Nat} {cB cI cJ : ClassId} {q : Nat → Nat} {ρ : Int32 × MSt} {σ : MSt} (hf : mm_errorAt σ = some ρ) : CT l D (gTy cB cI cJ) aK aV yX5_errorAt (wM yX5_errorAt cX5_errorAt 1 (some .int)) (rm_mm_errorAt) 0 0 [.ref (q 0)] (mW cB cI cJ q σ) (some (.int ρ.1)) (mW cB cI cJ q ρ.2) := by
  refine CT.of (by decide) rfl ?_
  intro p e s m below meth c A G hnm hP hD hS
  have hl := lv_entry [.ref (q 0)] (n := 1) (Nat.le_of_ble_eq_true rfl)
  rw [lg_entry_eq]
  generalize (lg_sl [.ref (q 0)] ++ List.replicate (1 - (lg_sl [.ref (q 0)]).length) Slot.unset).toArray = ls at hl ⊢
  exact mm_errorAt_t0e G hl hP hD hS hf
def mm_outSize (σ : MSt) : Option (Int32 × MSt) := some ((mf_writtenMany σ), (ms_thrown σ (0 : Int32)))
abbrev rm_mm_outSize : Room := { frames := 0, cells := 0, slots := 0, locals := 0 }
set_option maxHeartbeats 4000000 in
set_option maxRecDepth 100000 in
theorem mm_outSize_t0e {p : Program} {l : Launch} {e : Env} {s : State} {m : MethodId} {args : Array Value} {below : List Frame} {meth : Method} {c : Code} {D : va_G} {aK aV : Nat → Nat} {A : Nat → Prop} {cB cI cJ : ClassId} {q : Nat → Nat} {H : Heap} {locs : List Loc} {ls : Array Slot} {ρ : Int32 × MSt} {σ : MSt} (G : CX p s m args meth c D (gTy cB cI cJ) aK aV A RX5 cX5_outSize 1 (some .int)) (hl : lv_has ls 1 [(0, .ref (q 0))]) (hP : va_P D vwCl (mW cB cI cJ q σ) H) (hD : va_D A (mW cB cI cJ q σ)) (hS : va_S A s.heap H locs) (hf : mm_outSize σ = some ρ) : W p l e (rm_mm_outSize) s m args below meth c H locs 0 0 (MQ below (cQ D (gTy cB cI cJ) A (mW cB cI cJ q ρ.2) (some (.int ρ.1))) args s 0 0 A) (F0 m 0 ls []) := by
  unfold mm_outSize at hf
  obtain ⟨hx, hb, hml, hown, hT, hrt, hlk, hK, hA, hG, hE⟩ := id G
  refine lv_aload_n hx hb dX5_outSize_0 rfl (lv_at hl 0 rfl) ?_
  refine lv_iconst (v := (0 : Int32)) hx hb dX5_outSize_1 (by decide) ?_
  refine pm_X5_thrown (v := (0 : Int32)) G hP hD hS dX5_outSize_2 (fun H locs hP hD hS => ?_)
  refine lv_aload_n hx hb dX5_outSize_5 rfl (lv_at hl 0 rfl) ?_
  refine gm_X5_writtenMany (v := (mf_writtenMany σ)) G hP dX5_outSize_6 (mG_writtenMany_thrown _ _) ?_
  cases hf
  exact ct_iret G rfl hP hD hS dX5_outSize_9
set_option maxHeartbeats 4000000 in
set_option maxRecDepth 100000 in
theorem c_mm_outSize {l : Launch} {D : va_G} {aK aV : Nat → Nat} {cB cI cJ : ClassId} {q : Nat → Nat} {ρ : Int32 × MSt} {σ : MSt} (hf : mm_outSize σ = some ρ) : CT l D (gTy cB cI cJ) aK aV yX5_outSize (wM yX5_outSize cX5_outSize 1 (some .int)) (rm_mm_outSize) 0 0 [.ref (q 0)] (mW cB cI cJ q σ) (some (.int ρ.1)) (mW cB cI cJ q ρ.2) := by
  refine CT.of (by decide) rfl ?_
  intro p e s m below meth c A G hnm hP hD hS
  have hl := lv_entry [.ref (q 0)] (n := 1) (Nat.le_of_ble_eq_true rfl)
  rw [lg_entry_eq]
  generalize (lg_sl [.ref (q 0)] ++ List.replicate (1 - (lg_sl [.ref (q 0)]).length) Slot.unset).toArray = ls at hl ⊢
  exact mm_outSize_t0e G hl hP hD hS hf
def mm_out (p0 : Int32) (σ : MSt) : Option (Int32 × MSt) := (if p0 < 0 then some ((-1 : Int32), (ms_thrown σ (0 : Int32))) else (if p0 < (mf_writtenMany σ) then ck p0 6000 (some ((((mf_written σ) (p0).toNatClampNeg) &&& (255 : Int32)), (ms_thrown σ (0 : Int32)))) else some ((-1 : Int32), (ms_thrown σ (0 : Int32)))))
abbrev rm_mm_out : Room := { frames := 0, cells := 0, slots := 0, locals := 0 }
set_option maxHeartbeats 4000000 in
set_option maxRecDepth 100000 in
theorem mm_out_t0e {p : Program} {l : Launch} {e : Env} {s : State} {m : MethodId} {args : Array Value} {below : List Frame} {meth : Method} {c : Code} {D : va_G} {aK aV : Nat → Nat} {A : Nat → Prop} {cB cI cJ : ClassId} {q : Nat → Nat} {H : Heap} {locs : List Loc} {ls : Array Slot} {ρ : Int32 × MSt} {p0 : Int32} {σ : MSt} (G : CX p s m args meth c D (gTy cB cI cJ) aK aV A RX5 cX5_out 2 (some .int)) (hl : lv_has ls 2 [(0, .ref (q 0)), (1, .int p0)]) (hP : va_P D vwCl (mW cB cI cJ q σ) H) (hD : va_D A (mW cB cI cJ q σ)) (hS : va_S A s.heap H locs) (hf : mm_out p0 σ = some ρ) : W p l e (rm_mm_out) s m args below meth c H locs 0 0 (MQ below (cQ D (gTy cB cI cJ) A (mW cB cI cJ q ρ.2) (some (.int ρ.1))) args s 0 0 A) (F0 m 0 ls []) := by
  unfold mm_out at hf
  obtain ⟨hx, hb, hml, hown, hT, hrt, hlk, hK, hA, hG, hE⟩ := id G
  refine lv_aload_n hx hb dX5_out_0 rfl (lv_at hl 0 rfl) ?_
  refine lv_iconst (v := (0 : Int32)) hx hb dX5_out_1 (by decide) ?_
  refine pm_X5_thrown (v := (0 : Int32)) G hP hD hS dX5_out_2 (fun H locs hP hD hS => ?_)
  refine lv_iload_n hx hb dX5_out_5 rfl (lv_at hl 1 rfl) ?_
  refine lv_if_lt (tgt := 17) hx hb dX5_out_6 (by decide) (fun c1 => ?_) (fun c1 => ?_)
  · have hf := (if_pos c1).symm.trans hf
    refine lv_iconst (v := (-1 : Int32)) hx hb dX5_out_17 (by decide) ?_
    refine lv_goto (tgt := 31) hx hb dX5_out_18 (by decide) ?_
    cases hf
    exact ct_iret G rfl hP hD hS dX5_out_31
  · have hf := (if_neg c1).symm.trans hf
    refine lv_iload_n hx hb dX5_out_9 rfl (lv_at hl 1 rfl) ?_
    refine lv_aload_n hx hb dX5_out_10 rfl (lv_at hl 0 rfl) ?_
    refine gm_X5_writtenMany (v := (mf_writtenMany σ)) G hP dX5_out_11 (mG_writtenMany_thrown _ _) ?_
    refine lv_icmp_lt (tgt := 21) hx hb dX5_out_14 (by decide) (fun c2 => ?_) (fun c2 => ?_)
    · have hf := (if_pos c2).symm.trans hf
      refine lv_aload_n hx hb dX5_out_21 rfl (lv_at hl 0 rfl) ?_
      refine gm_X5_written G hP dX5_out_22 ?_
      refine lv_iload_n hx hb dX5_out_25 rfl (lv_at hl 1 rfl) ?_
      obtain ⟨hi3, hf⟩ := ck_some hf
      refine lm_written (f := (mf_written σ)) G hP hi3 dX5_out_26 (mG_written_thrown _ _) ?_
      refine lv_sipush (v := (255 : Int32)) hx hb dX5_out_27 (by decide) ?_
      refine lv_iand hx hb dX5_out_30 ?_
      cases hf
      exact ct_iret G rfl hP hD hS dX5_out_31
    · have hf := (if_neg c2).symm.trans hf
      refine lv_iconst (v := (-1 : Int32)) hx hb dX5_out_17 (by decide) ?_
      refine lv_goto (tgt := 31) hx hb dX5_out_18 (by decide) ?_
      cases hf
      exact ct_iret G rfl hP hD hS dX5_out_31
set_option maxHeartbeats 4000000 in
set_option maxRecDepth 100000 in
theorem c_mm_out {l : Launch} {D : va_G} {aK aV : Nat → Nat} {cB cI cJ : ClassId} {q : Nat → Nat} {ρ : Int32 × MSt} {p0 : Int32} {σ : MSt} (hf : mm_out p0 σ = some ρ) : CT l D (gTy cB cI cJ) aK aV yX5_out (wM yX5_out cX5_out 2 (some .int)) (rm_mm_out) 0 0 [.ref (q 0), .int p0] (mW cB cI cJ q σ) (some (.int ρ.1)) (mW cB cI cJ q ρ.2) := by
  refine CT.of (by decide) rfl ?_
  intro p e s m below meth c A G hnm hP hD hS
  have hl := lv_entry [.ref (q 0), .int p0] (n := 2) (Nat.le_of_ble_eq_true rfl)
  rw [lg_entry_eq]
  generalize (lg_sl [.ref (q 0), .int p0] ++ List.replicate (2 - (lg_sl [.ref (q 0), .int p0]).length) Slot.unset).toArray = ls at hl ⊢
  exact mm_out_t0e G hl hP hD hS hf
def mm_end (p0 : Int32) (σ : MSt) : Option (Int32 × MSt) := (if p0 < 0 then some ((-1 : Int32), (ms_thrown σ (0 : Int32))) else (if p0 ≤ (mf_taped σ) then some (p0, (ms_taped (ms_thrown σ (0 : Int32)) p0)) else some ((-1 : Int32), (ms_thrown σ (0 : Int32)))))
abbrev rm_mm_end : Room := { frames := 0, cells := 0, slots := 0, locals := 0 }
set_option maxHeartbeats 4000000 in
set_option maxRecDepth 100000 in
theorem mm_end_t0e {p : Program} {l : Launch} {e : Env} {s : State} {m : MethodId} {args : Array Value} {below : List Frame} {meth : Method} {c : Code} {D : va_G} {aK aV : Nat → Nat} {A : Nat → Prop} {cB cI cJ : ClassId} {q : Nat → Nat} {H : Heap} {locs : List Loc} {ls : Array Slot} {ρ : Int32 × MSt} {p0 : Int32} {σ : MSt} (G : CX p s m args meth c D (gTy cB cI cJ) aK aV A RX5 cX5_end 2 (some .int)) (hl : lv_has ls 2 [(0, .ref (q 0)), (1, .int p0)]) (hP : va_P D vwCl (mW cB cI cJ q σ) H) (hD : va_D A (mW cB cI cJ q σ)) (hS : va_S A s.heap H locs) (hf : mm_end p0 σ = some ρ) : W p l e (rm_mm_end) s m args below meth c H locs 0 0 (MQ below (cQ D (gTy cB cI cJ) A (mW cB cI cJ q ρ.2) (some (.int ρ.1))) args s 0 0 A) (F0 m 0 ls []) := by
  unfold mm_end at hf
  obtain ⟨hx, hb, hml, hown, hT, hrt, hlk, hK, hA, hG, hE⟩ := id G
  refine lv_aload_n hx hb dX5_end_0 rfl (lv_at hl 0 rfl) ?_
  refine lv_iconst (v := (0 : Int32)) hx hb dX5_end_1 (by decide) ?_
  refine pm_X5_thrown (v := (0 : Int32)) G hP hD hS dX5_end_2 (fun H locs hP hD hS => ?_)
  refine lv_iload_n hx hb dX5_end_5 rfl (lv_at hl 1 rfl) ?_
  refine lv_if_lt (tgt := 17) hx hb dX5_end_6 (by decide) (fun c1 => ?_) (fun c1 => ?_)
  · have hf := (if_pos c1).symm.trans hf
    refine lv_iconst (v := (-1 : Int32)) hx hb dX5_end_17 (by decide) ?_
    cases hf
    exact ct_iret G rfl hP hD hS dX5_end_18
  · have hf := (if_neg c1).symm.trans hf
    refine lv_iload_n hx hb dX5_end_9 rfl (lv_at hl 1 rfl) ?_
    refine lv_aload_n hx hb dX5_end_10 rfl (lv_at hl 0 rfl) ?_
    refine gm_X5_taped (v := (mf_taped σ)) G hP dX5_end_11 (mG_taped_thrown _ _) ?_
    refine lv_icmp_le (tgt := 19) hx hb dX5_end_14 (by decide) (fun c2 => ?_) (fun c2 => ?_)
    · have hf := (if_pos c2).symm.trans hf
      refine lv_aload_n hx hb dX5_end_19 rfl (lv_at hl 0 rfl) ?_
      refine lv_iload_n hx hb dX5_end_20 rfl (lv_at hl 1 rfl) ?_
      refine pm_X5_taped (v := p0) G hP hD hS dX5_end_21 (fun H locs hP hD hS => ?_)
      refine lv_iload_n hx hb dX5_end_24 rfl (lv_at hl 1 rfl) ?_
      cases hf
      exact ct_iret G rfl hP hD hS dX5_end_25
    · have hf := (if_neg c2).symm.trans hf
      refine lv_iconst (v := (-1 : Int32)) hx hb dX5_end_17 (by decide) ?_
      cases hf
      exact ct_iret G rfl hP hD hS dX5_end_18
set_option maxHeartbeats 4000000 in
set_option maxRecDepth 100000 in
theorem c_mm_end {l : Launch} {D : va_G} {aK aV : Nat → Nat} {cB cI cJ : ClassId} {q : Nat → Nat} {ρ : Int32 × MSt} {p0 : Int32} {σ : MSt} (hf : mm_end p0 σ = some ρ) : CT l D (gTy cB cI cJ) aK aV yX5_end (wM yX5_end cX5_end 2 (some .int)) (rm_mm_end) 0 0 [.ref (q 0), .int p0] (mW cB cI cJ q σ) (some (.int ρ.1)) (mW cB cI cJ q ρ.2) := by
  refine CT.of (by decide) rfl ?_
  intro p e s m below meth c A G hnm hP hD hS
  have hl := lv_entry [.ref (q 0), .int p0] (n := 2) (Nat.le_of_ble_eq_true rfl)
  rw [lg_entry_eq]
  generalize (lg_sl [.ref (q 0), .int p0] ++ List.replicate (2 - (lg_sl [.ref (q 0), .int p0]).length) Slot.unset).toArray = ls at hl ⊢
  exact mm_end_t0e G hl hP hD hS hf
def mm_bounds (p0 : Int32) (p1 : Int32) (σ : MSt) : Option (Bool × MSt) := (if p0 < 0 then some (false, (ms_thrown σ (0 : Int32))) else (if (40 : Int32) < p0 then some (false, (ms_thrown σ (0 : Int32))) else (if p1 < 0 then some (false, (ms_thrown σ (0 : Int32))) else (if p1 ≤ (6000 : Int32) then some (true, (ms_room (ms_depth (ms_thrown σ (0 : Int32)) p0) p1)) else some (false, (ms_thrown σ (0 : Int32)))))))
abbrev rm_mm_bounds : Room := { frames := 0, cells := 0, slots := 0, locals := 0 }
set_option maxHeartbeats 4000000 in
set_option maxRecDepth 100000 in
theorem mm_bounds_t0e {p : Program} {l : Launch} {e : Env} {s : State} {m : MethodId} {args : Array Value} {below : List Frame} {meth : Method} {c : Code} {D : va_G} {aK aV : Nat → Nat} {A : Nat → Prop} {cB cI cJ : ClassId} {q : Nat → Nat} {H : Heap} {locs : List Loc} {ls : Array Slot} {ρ : Bool × MSt} {p0 : Int32} {p1 : Int32} {σ : MSt} (G : CX p s m args meth c D (gTy cB cI cJ) aK aV A RX5 cX5_bounds 3 (some .boolean)) (hl : lv_has ls 3 [(0, .ref (q 0)), (1, .int p0), (2, .int p1)]) (hP : va_P D vwCl (mW cB cI cJ q σ) H) (hD : va_D A (mW cB cI cJ q σ)) (hS : va_S A s.heap H locs) (hf : mm_bounds p0 p1 σ = some ρ) : W p l e (rm_mm_bounds) s m args below meth c H locs 0 0 (MQ below (cQ D (gTy cB cI cJ) A (mW cB cI cJ q ρ.2) (some (.int (bI ρ.1)))) args s 0 0 A) (F0 m 0 ls []) := by
  unfold mm_bounds at hf
  obtain ⟨hx, hb, hml, hown, hT, hrt, hlk, hK, hA, hG, hE⟩ := id G
  refine lv_aload_n hx hb dX5_bounds_0 rfl (lv_at hl 0 rfl) ?_
  refine lv_iconst (v := (0 : Int32)) hx hb dX5_bounds_1 (by decide) ?_
  refine pm_X5_thrown (v := (0 : Int32)) G hP hD hS dX5_bounds_2 (fun H locs hP hD hS => ?_)
  refine lv_iload_n hx hb dX5_bounds_5 rfl (lv_at hl 1 rfl) ?_
  refine lv_if_lt (tgt := 26) hx hb dX5_bounds_6 (by decide) (fun c1 => ?_) (fun c1 => ?_)
  · have hf := (if_pos c1).symm.trans hf
    refine lv_iconst (v := (0 : Int32)) hx hb dX5_bounds_26 (by decide) ?_
    cases hf
    exact ct_iret G (bI_nar false) hP hD hS dX5_bounds_27
  · have hf := (if_neg c1).symm.trans hf
    refine lv_iload_n hx hb dX5_bounds_9 rfl (lv_at hl 1 rfl) ?_
    refine lv_bipush (v := (40 : Int32)) hx hb dX5_bounds_10 (by decide) ?_
    refine lv_icmp_gt (tgt := 26) hx hb dX5_bounds_12 (by decide) (fun c2 => ?_) (fun c2 => ?_)
    · have hf := (if_pos c2).symm.trans hf
      refine lv_iconst (v := (0 : Int32)) hx hb dX5_bounds_26 (by decide) ?_
      cases hf
      exact ct_iret G (bI_nar false) hP hD hS dX5_bounds_27
    · have hf := (if_neg c2).symm.trans hf
      refine lv_iload_n hx hb dX5_bounds_15 rfl (lv_at hl 2 rfl) ?_
      refine lv_if_lt (tgt := 26) hx hb dX5_bounds_16 (by decide) (fun c3 => ?_) (fun c3 => ?_)
      · have hf := (if_pos c3).symm.trans hf
        refine lv_iconst (v := (0 : Int32)) hx hb dX5_bounds_26 (by decide) ?_
        cases hf
        exact ct_iret G (bI_nar false) hP hD hS dX5_bounds_27
      · have hf := (if_neg c3).symm.trans hf
        refine lv_iload_n hx hb dX5_bounds_19 rfl (lv_at hl 2 rfl) ?_
        refine lv_sipush (v := (6000 : Int32)) hx hb dX5_bounds_20 (by decide) ?_
        refine lv_icmp_le (tgt := 28) hx hb dX5_bounds_23 (by decide) (fun c4 => ?_) (fun c4 => ?_)
        · have hf := (if_pos c4).symm.trans hf
          refine lv_aload_n hx hb dX5_bounds_28 rfl (lv_at hl 0 rfl) ?_
          refine lv_iload_n hx hb dX5_bounds_29 rfl (lv_at hl 1 rfl) ?_
          refine pm_X5_depth (v := p0) G hP hD hS dX5_bounds_30 (fun H locs hP hD hS => ?_)
          refine lv_aload_n hx hb dX5_bounds_33 rfl (lv_at hl 0 rfl) ?_
          refine lv_iload_n hx hb dX5_bounds_34 rfl (lv_at hl 2 rfl) ?_
          refine pm_X5_room (v := p1) G hP hD hS dX5_bounds_35 (fun H locs hP hD hS => ?_)
          refine lv_iconst (v := (1 : Int32)) hx hb dX5_bounds_38 (by decide) ?_
          cases hf
          exact ct_iret G (bI_nar true) hP hD hS dX5_bounds_39
        · have hf := (if_neg c4).symm.trans hf
          refine lv_iconst (v := (0 : Int32)) hx hb dX5_bounds_26 (by decide) ?_
          cases hf
          exact ct_iret G (bI_nar false) hP hD hS dX5_bounds_27
set_option maxHeartbeats 4000000 in
set_option maxRecDepth 100000 in
theorem c_mm_bounds {l : Launch} {D : va_G} {aK aV : Nat → Nat} {cB cI cJ : ClassId} {q : Nat → Nat} {ρ : Bool × MSt} {p0 : Int32} {p1 : Int32} {σ : MSt} (hf : mm_bounds p0 p1 σ = some ρ) : CT l D (gTy cB cI cJ) aK aV yX5_bounds (wM yX5_bounds cX5_bounds 3 (some .boolean)) (rm_mm_bounds) 0 0 [.ref (q 0), .int p0, .int p1] (mW cB cI cJ q σ) (some (.int (bI ρ.1))) (mW cB cI cJ q ρ.2) := by
  refine CT.of (by decide) rfl ?_
  intro p e s m below meth c A G hnm hP hD hS
  have hl := lv_entry [.ref (q 0), .int p0, .int p1] (n := 3) (Nat.le_of_ble_eq_true rfl)
  rw [lg_entry_eq]
  generalize (lg_sl [.ref (q 0), .int p0, .int p1] ++ List.replicate (3 - (lg_sl [.ref (q 0), .int p0, .int p1]).length) Slot.unset).toArray = ls at hl ⊢
  exact mm_bounds_t0e G hl hP hD hS hf
def mm_begin (σ : MSt) : Option (MSt) := some (ms_open (ms_lettersMany (ms_things (ms_at (ms_errorPlace (ms_fault (ms_thrown σ (0 : Int32)) (0 : Int32)) (-1 : Int32)) (0 : Int32)) (0 : Int32)) (0 : Int32)) (0 : Int32))
abbrev rm_mm_begin : Room := { frames := 0, cells := 0, slots := 0, locals := 0 }
set_option maxHeartbeats 4000000 in
set_option maxRecDepth 100000 in
theorem mm_begin_t0e {p : Program} {l : Launch} {e : Env} {s : State} {m : MethodId} {args : Array Value} {below : List Frame} {meth : Method} {c : Code} {D : va_G} {aK aV : Nat → Nat} {A : Nat → Prop} {cB cI cJ : ClassId} {q : Nat → Nat} {H : Heap} {locs : List Loc} {ls : Array Slot} {ρ : MSt} {σ : MSt} (G : CX p s m args meth c D (gTy cB cI cJ) aK aV A RX5 cX5_begin 1 none) (hl : lv_has ls 1 [(0, .ref (q 0))]) (hP : va_P D vwCl (mW cB cI cJ q σ) H) (hD : va_D A (mW cB cI cJ q σ)) (hS : va_S A s.heap H locs) (hf : mm_begin σ = some ρ) : W p l e (rm_mm_begin) s m args below meth c H locs 0 0 (MQ below (cQ D (gTy cB cI cJ) A (mW cB cI cJ q ρ) none) args s 0 0 A) (F0 m 0 ls []) := by
  unfold mm_begin at hf
  obtain ⟨hx, hb, hml, hown, hT, hrt, hlk, hK, hA, hG, hE⟩ := id G
  refine lv_aload_n hx hb dX5_begin_0 rfl (lv_at hl 0 rfl) ?_
  refine lv_iconst (v := (0 : Int32)) hx hb dX5_begin_1 (by decide) ?_
  refine pm_X5_thrown (v := (0 : Int32)) G hP hD hS dX5_begin_2 (fun H locs hP hD hS => ?_)
  refine lv_aload_n hx hb dX5_begin_5 rfl (lv_at hl 0 rfl) ?_
  refine lv_iconst (v := (0 : Int32)) hx hb dX5_begin_6 (by decide) ?_
  refine pm_X5_fault (v := (0 : Int32)) G hP hD hS dX5_begin_7 (fun H locs hP hD hS => ?_)
  refine lv_aload_n hx hb dX5_begin_10 rfl (lv_at hl 0 rfl) ?_
  refine lv_iconst (v := (-1 : Int32)) hx hb dX5_begin_11 (by decide) ?_
  refine pm_X5_errorPlace (v := (-1 : Int32)) G hP hD hS dX5_begin_12 (fun H locs hP hD hS => ?_)
  refine lv_aload_n hx hb dX5_begin_15 rfl (lv_at hl 0 rfl) ?_
  refine lv_iconst (v := (0 : Int32)) hx hb dX5_begin_16 (by decide) ?_
  refine pm_X5_at (v := (0 : Int32)) G hP hD hS dX5_begin_17 (fun H locs hP hD hS => ?_)
  refine lv_aload_n hx hb dX5_begin_20 rfl (lv_at hl 0 rfl) ?_
  refine lv_iconst (v := (0 : Int32)) hx hb dX5_begin_21 (by decide) ?_
  refine pm_X5_things (v := (0 : Int32)) G hP hD hS dX5_begin_22 (fun H locs hP hD hS => ?_)
  refine lv_aload_n hx hb dX5_begin_25 rfl (lv_at hl 0 rfl) ?_
  refine lv_iconst (v := (0 : Int32)) hx hb dX5_begin_26 (by decide) ?_
  refine pm_X5_lettersMany (v := (0 : Int32)) G hP hD hS dX5_begin_27 (fun H locs hP hD hS => ?_)
  refine lv_aload_n hx hb dX5_begin_30 rfl (lv_at hl 0 rfl) ?_
  refine lv_iconst (v := (0 : Int32)) hx hb dX5_begin_31 (by decide) ?_
  refine pm_X5_open (v := (0 : Int32)) G hP hD hS dX5_begin_32 (fun H locs hP hD hS => ?_)
  cases hf
  exact ct_vret G hP hD hS dX5_begin_35
set_option maxHeartbeats 4000000 in
set_option maxRecDepth 100000 in
theorem c_mm_begin {l : Launch} {D : va_G} {aK aV : Nat → Nat} {cB cI cJ : ClassId} {q : Nat → Nat} {ρ : MSt} {σ : MSt} (hf : mm_begin σ = some ρ) : CT l D (gTy cB cI cJ) aK aV yX5_begin (wM yX5_begin cX5_begin 1 none) (rm_mm_begin) 0 0 [.ref (q 0)] (mW cB cI cJ q σ) none (mW cB cI cJ q ρ) := by
  refine CT.of (by decide) rfl ?_
  intro p e s m below meth c A G hnm hP hD hS
  have hl := lv_entry [.ref (q 0)] (n := 1) (Nat.le_of_ble_eq_true rfl)
  rw [lg_entry_eq]
  generalize (lg_sl [.ref (q 0)] ++ List.replicate (1 - (lg_sl [.ref (q 0)]).length) Slot.unset).toArray = ls at hl ⊢
  exact mm_begin_t0e G hl hP hD hS hf
def mm_feed_b73 (k20 : Int32 → Int32 → Int32 → Int32 → Int32 → Int32 → MSt → Option (Int32 × MSt)) (a1 : Int32) (a2 : Int32) (a3 : Int32) (a4 : Int32) (a5 : Int32) (a6 : Int32) (s0 : Int32) (σ : MSt) : Option (Int32 × MSt) := ck ((mf_taped σ) + a6) 4000 (lt (a6 + (1 : Int32)) (fun (v8 : Int32) => k20 a1 a2 a3 a4 a5 v8 (ms_tape σ (upd (mf_tape σ) (((mf_taped σ) + a6)).toNatClampNeg ((s0 >>> (((24 : Int32) - ((8 : Int32) * (a6 - a6 / (4 : Int32) * (4 : Int32)))) &&& 31)) &&& (255 : Int32))))))
def mm_feed_b20 (k20 : Int32 → Int32 → Int32 → Int32 → Int32 → Int32 → MSt → Option (Int32 × MSt)) (a1 : Int32) (a2 : Int32) (a3 : Int32) (a4 : Int32) (a5 : Int32) (a6 : Int32) (σ : MSt) : Option (Int32 × MSt) := (if (20 : Int32) ≤ a6 then some (((mf_taped σ) + (20 : Int32)), (ms_taped σ ((mf_taped σ) + (20 : Int32)))) else (if (4 : Int32) ≤ a6 then (if (8 : Int32) ≤ a6 then (if (12 : Int32) ≤ a6 then (if (16 : Int32) ≤ a6 then mm_feed_b73 k20 a1 a2 a3 a4 a5 a6 a5 σ else mm_feed_b73 k20 a1 a2 a3 a4 a5 a6 a4 σ) else mm_feed_b73 k20 a1 a2 a3 a4 a5 a6 a3 σ) else mm_feed_b73 k20 a1 a2 a3 a4 a5 a6 a2 σ) else mm_feed_b73 k20 a1 a2 a3 a4 a5 a6 a1 σ))
def mm_feed_L20 : Nat → Int32 → Int32 → Int32 → Int32 → Int32 → Int32 → MSt → Option (Int32 × MSt)
  | 0, _, _, _, _, _, _, _ => none
  | n + 1, a1, a2, a3, a4, a5, a6, σ => mm_feed_b20 (mm_feed_L20 n) a1 a2 a3 a4 a5 a6 σ
def mm_feed (p0 : Int32) (p1 : Int32) (p2 : Int32) (p3 : Int32) (p4 : Int32) (σ : MSt) : Option (Int32 × MSt) := (if (mf_taped σ) ≤ (3980 : Int32) then mm_feed_L20 FU p0 p1 p2 p3 p4 (0 : Int32) (ms_thrown σ (0 : Int32)) else some ((-1 : Int32), (ms_thrown σ (0 : Int32))))
abbrev rm_mm_feed : Room := { frames := 0, cells := 0, slots := 0, locals := 0 }
set_option maxHeartbeats 4000000 in
set_option maxRecDepth 100000 in
theorem mm_feed_t73 {p : Program} {l : Launch} {e : Env} {s : State} {m : MethodId} {args : Array Value} {below : List Frame} {meth : Method} {c : Code} {D : va_G} {aK aV : Nat → Nat} {A : Nat → Prop} {cB cI cJ : ClassId} {q : Nat → Nat} {H : Heap} {locs : List Loc} {ls : Array Slot} {ρ : Int32 × MSt} {k20 : Int32 → Int32 → Int32 → Int32 → Int32 → Int32 → MSt → Option (Int32 × MSt)} {a1 : Int32} {a2 : Int32} {a3 : Int32} {a4 : Int32} {a5 : Int32} {a6 : Int32} {s0 : Int32} {σ : MSt} (G : CX p s m args meth c D (gTy cB cI cJ) aK aV A RX5 cX5_feed 8 (some .int)) (hk20 : ∀ (a1 : Int32) (a2 : Int32) (a3 : Int32) (a4 : Int32) (a5 : Int32) (a6 : Int32) (σ : MSt) (H : Heap) (locs : List Loc) (ls : Array Slot), lv_has ls 8 [(0, .ref (q 0)), (1, .int a1), (2, .int a2), (3, .int a3), (4, .int a4), (5, .int a5), (6, .int a6)] → va_P D vwCl (mW cB cI cJ q σ) H → va_D A (mW cB cI cJ q σ) → va_S A s.heap H locs → k20 a1 a2 a3 a4 a5 a6 σ = some ρ → W p l e (rm_mm_feed) s m args below meth c H locs 0 0 (MQ below (cQ D (gTy cB cI cJ) A (mW cB cI cJ q ρ.2) (some (.int ρ.1))) args s 0 0 A) (F0 m 20 ls [])) (hl : lv_has ls 8 [(0, .ref (q 0)), (1, .int a1), (2, .int a2), (3, .int a3), (4, .int a4), (5, .int a5), (6, .int a6)]) (hP : va_P D vwCl (mW cB cI cJ q σ) H) (hD : va_D A (mW cB cI cJ q σ)) (hS : va_S A s.heap H locs) (hf : mm_feed_b73 k20 a1 a2 a3 a4 a5 a6 s0 σ = some ρ) : W p l e (rm_mm_feed) s m args below meth c H locs 0 0 (MQ below (cQ D (gTy cB cI cJ) A (mW cB cI cJ q ρ.2) (some (.int ρ.1))) args s 0 0 A) (F0 m 73 ls [.int s0]) := by
  unfold mm_feed_b73 at hf
  obtain ⟨hx, hb, hml, hown, hT, hrt, hlk, hK, hA, hG, hE⟩ := id G
  refine lv_istore (lv' := [(7, .int s0), (0, .ref (q 0)), (1, .int a1), (2, .int a2), (3, .int a3), (4, .int a4), (5, .int a5), (6, .int a6)]) hx hb dX5_feed_73 hl (by decide) rfl (fun ls hl => ?_)
  refine lv_aload_n hx hb dX5_feed_75 rfl (lv_at hl 1 rfl) ?_
  refine gm_X5_tape G hP dX5_feed_76 ?_
  refine lv_aload_n hx hb dX5_feed_79 rfl (lv_at hl 1 rfl) ?_
  refine gm_X5_taped (v := (mf_taped σ)) G hP dX5_feed_80 rfl ?_
  refine lv_iload hx hb dX5_feed_83 (lv_at hl 7 rfl) ?_
  refine lv_iadd hx hb dX5_feed_85 ?_
  refine lv_iload hx hb dX5_feed_86 (lv_at hl 0 rfl) ?_
  refine lv_bipush (v := (24 : Int32)) hx hb dX5_feed_88 (by decide) ?_
  refine lv_bipush (v := (8 : Int32)) hx hb dX5_feed_90 (by decide) ?_
  refine lv_iload hx hb dX5_feed_92 (lv_at hl 7 rfl) ?_
  refine lv_iconst (v := (4 : Int32)) hx hb dX5_feed_94 (by decide) ?_
  refine lv_irem hx hb dX5_feed_95 (by decide) ?_
  refine lv_imul hx hb dX5_feed_96 ?_
  refine lv_isub hx hb dX5_feed_97 ?_
  refine lv_ishr hx hb dX5_feed_98 ?_
  refine lv_sipush (v := (255 : Int32)) hx hb dX5_feed_99 (by decide) ?_
  refine lv_iand hx hb dX5_feed_102 ?_
  obtain ⟨hi7, hf⟩ := ck_some hf
  refine sm_tape (f := (mf_tape σ)) G hP hD hS hi7 dX5_feed_103 rfl (fun H locs hP hD hS => ?_)
  obtain ⟨v8, ev8⟩ : ∃ y : Int32, y = (a6 + (1 : Int32)) := ⟨_, rfl⟩
  have hf := lt_eq hf ev8
  refine lv_iinc (v := v8) (lv' := [(6, .int v8), (7, .int s0), (0, .ref (q 0)), (1, .int a1), (2, .int a2), (3, .int a3), (4, .int a4), (5, .int a5)]) hx hb dX5_feed_104 hl (k := 7) rfl (by rw [ev8]; rfl) (by decide) rfl (fun ls hl => ?_)
  refine lv_goto (tgt := 20) hx hb dX5_feed_107 (by decide) ?_
  exact W.eq (g2 := F0 m 20 ls []) rfl (hk20 _ _ _ _ _ _ _ _ _ _ (lv_sub hl [2, 3, 4, 5, 6, 7, 0] rfl) hP hD hS hf)
set_option maxHeartbeats 4000000 in
set_option maxRecDepth 100000 in
theorem mm_feed_t20 {p : Program} {l : Launch} {e : Env} {s : State} {m : MethodId} {args : Array Value} {below : List Frame} {meth : Method} {c : Code} {D : va_G} {aK aV : Nat → Nat} {A : Nat → Prop} {cB cI cJ : ClassId} {q : Nat → Nat} {H : Heap} {locs : List Loc} {ls : Array Slot} {ρ : Int32 × MSt} {k20 : Int32 → Int32 → Int32 → Int32 → Int32 → Int32 → MSt → Option (Int32 × MSt)} {a1 : Int32} {a2 : Int32} {a3 : Int32} {a4 : Int32} {a5 : Int32} {a6 : Int32} {σ : MSt} (G : CX p s m args meth c D (gTy cB cI cJ) aK aV A RX5 cX5_feed 8 (some .int)) (hk20 : ∀ (a1 : Int32) (a2 : Int32) (a3 : Int32) (a4 : Int32) (a5 : Int32) (a6 : Int32) (σ : MSt) (H : Heap) (locs : List Loc) (ls : Array Slot), lv_has ls 8 [(0, .ref (q 0)), (1, .int a1), (2, .int a2), (3, .int a3), (4, .int a4), (5, .int a5), (6, .int a6)] → va_P D vwCl (mW cB cI cJ q σ) H → va_D A (mW cB cI cJ q σ) → va_S A s.heap H locs → k20 a1 a2 a3 a4 a5 a6 σ = some ρ → W p l e (rm_mm_feed) s m args below meth c H locs 0 0 (MQ below (cQ D (gTy cB cI cJ) A (mW cB cI cJ q ρ.2) (some (.int ρ.1))) args s 0 0 A) (F0 m 20 ls [])) (hl : lv_has ls 8 [(0, .ref (q 0)), (1, .int a1), (2, .int a2), (3, .int a3), (4, .int a4), (5, .int a5), (6, .int a6)]) (hP : va_P D vwCl (mW cB cI cJ q σ) H) (hD : va_D A (mW cB cI cJ q σ)) (hS : va_S A s.heap H locs) (hf : mm_feed_b20 k20 a1 a2 a3 a4 a5 a6 σ = some ρ) : W p l e (rm_mm_feed) s m args below meth c H locs 0 0 (MQ below (cQ D (gTy cB cI cJ) A (mW cB cI cJ q ρ.2) (some (.int ρ.1))) args s 0 0 A) (F0 m 20 ls []) := by
  unfold mm_feed_b20 at hf
  obtain ⟨hx, hb, hml, hown, hT, hrt, hlk, hK, hA, hG, hE⟩ := id G
  refine lv_iload hx hb dX5_feed_20 (lv_at hl 6 rfl) ?_
  refine lv_bipush (v := (20 : Int32)) hx hb dX5_feed_22 (by decide) ?_
  refine lv_icmp_ge (tgt := 110) hx hb dX5_feed_24 (by decide) (fun c2 => ?_) (fun c2 => ?_)
  · have hf := (if_pos c2).symm.trans hf
    refine lv_aload_n hx hb dX5_feed_110 rfl (lv_at hl 0 rfl) ?_
    refine lv_dup hx hb dX5_feed_111 rfl ?_
    refine gm_X5_taped (v := (mf_taped σ)) G hP dX5_feed_112 rfl ?_
    refine lv_bipush (v := (20 : Int32)) hx hb dX5_feed_115 (by decide) ?_
    refine lv_iadd hx hb dX5_feed_117 ?_
    refine pm_X5_taped (v := ((mf_taped σ) + (20 : Int32))) G hP hD hS dX5_feed_118 (fun H locs hP hD hS => ?_)
    refine lv_aload_n hx hb dX5_feed_121 rfl (lv_at hl 0 rfl) ?_
    refine gm_X5_taped (v := ((mf_taped σ) + (20 : Int32))) G hP dX5_feed_122 (mG_taped_taped _ _) ?_
    cases hf
    exact ct_iret G rfl hP hD hS dX5_feed_125
  · have hf := (if_neg c2).symm.trans hf
    refine lv_iload hx hb dX5_feed_27 (lv_at hl 6 rfl) ?_
    refine lv_iconst (v := (4 : Int32)) hx hb dX5_feed_29 (by decide) ?_
    refine lv_icmp_ge (tgt := 37) hx hb dX5_feed_30 (by decide) (fun c3 => ?_) (fun c3 => ?_)
    · have hf := (if_pos c3).symm.trans hf
      refine lv_iload hx hb dX5_feed_37 (lv_at hl 6 rfl) ?_
      refine lv_bipush (v := (8 : Int32)) hx hb dX5_feed_39 (by decide) ?_
      refine lv_icmp_ge (tgt := 48) hx hb dX5_feed_41 (by decide) (fun c4 => ?_) (fun c4 => ?_)
      · have hf := (if_pos c4).symm.trans hf
        refine lv_iload hx hb dX5_feed_48 (lv_at hl 6 rfl) ?_
        refine lv_bipush (v := (12 : Int32)) hx hb dX5_feed_50 (by decide) ?_
        refine lv_icmp_ge (tgt := 59) hx hb dX5_feed_52 (by decide) (fun c5 => ?_) (fun c5 => ?_)
        · have hf := (if_pos c5).symm.trans hf
          refine lv_iload hx hb dX5_feed_59 (lv_at hl 6 rfl) ?_
          refine lv_bipush (v := (16 : Int32)) hx hb dX5_feed_61 (by decide) ?_
          refine lv_icmp_ge (tgt := 71) hx hb dX5_feed_63 (by decide) (fun c6 => ?_) (fun c6 => ?_)
          · have hf := (if_pos c6).symm.trans hf
            refine lv_iload hx hb dX5_feed_71 (lv_at hl 5 rfl) ?_
            exact W.eq (g2 := F0 m 73 ls [.int a5]) rfl (mm_feed_t73 G hk20 (lv_sub hl [0, 1, 2, 3, 4, 5, 6] rfl) hP hD hS hf)
          · have hf := (if_neg c6).symm.trans hf
            refine lv_iload hx hb dX5_feed_66 (lv_at hl 4 rfl) ?_
            refine lv_goto (tgt := 73) hx hb dX5_feed_68 (by decide) ?_
            exact W.eq (g2 := F0 m 73 ls [.int a4]) rfl (mm_feed_t73 G hk20 (lv_sub hl [0, 1, 2, 3, 4, 5, 6] rfl) hP hD hS hf)
        · have hf := (if_neg c5).symm.trans hf
          refine lv_iload_n hx hb dX5_feed_55 rfl (lv_at hl 3 rfl) ?_
          refine lv_goto (tgt := 73) hx hb dX5_feed_56 (by decide) ?_
          exact W.eq (g2 := F0 m 73 ls [.int a3]) rfl (mm_feed_t73 G hk20 (lv_sub hl [0, 1, 2, 3, 4, 5, 6] rfl) hP hD hS hf)
      · have hf := (if_neg c4).symm.trans hf
        refine lv_iload_n hx hb dX5_feed_44 rfl (lv_at hl 2 rfl) ?_
        refine lv_goto (tgt := 73) hx hb dX5_feed_45 (by decide) ?_
        exact W.eq (g2 := F0 m 73 ls [.int a2]) rfl (mm_feed_t73 G hk20 (lv_sub hl [0, 1, 2, 3, 4, 5, 6] rfl) hP hD hS hf)
    · have hf := (if_neg c3).symm.trans hf
      refine lv_iload_n hx hb dX5_feed_33 rfl (lv_at hl 1 rfl) ?_
      refine lv_goto (tgt := 73) hx hb dX5_feed_34 (by decide) ?_
      exact W.eq (g2 := F0 m 73 ls [.int a1]) rfl (mm_feed_t73 G hk20 (lv_sub hl [0, 1, 2, 3, 4, 5, 6] rfl) hP hD hS hf)
set_option maxHeartbeats 4000000 in
set_option maxRecDepth 100000 in
theorem mm_feed_u20 {p : Program} {l : Launch} {e : Env} {s : State} {m : MethodId} {args : Array Value} {below : List Frame} {meth : Method} {c : Code} {D : va_G} {aK aV : Nat → Nat} {A : Nat → Prop} {cB cI cJ : ClassId} {q : Nat → Nat} {ρ : Int32 × MSt} (G : CX p s m args meth c D (gTy cB cI cJ) aK aV A RX5 cX5_feed 8 (some .int)) : ∀ (n : Nat) {a1 : Int32} {a2 : Int32} {a3 : Int32} {a4 : Int32} {a5 : Int32} {a6 : Int32} {σ : MSt} {H : Heap} {locs : List Loc} {ls : Array Slot} (hl : lv_has ls 8 [(0, .ref (q 0)), (1, .int a1), (2, .int a2), (3, .int a3), (4, .int a4), (5, .int a5), (6, .int a6)]) (hP : va_P D vwCl (mW cB cI cJ q σ) H) (hD : va_D A (mW cB cI cJ q σ)) (hS : va_S A s.heap H locs) (hf : mm_feed_L20 n a1 a2 a3 a4 a5 a6 σ = some ρ), W p l e (rm_mm_feed) s m args below meth c H locs 0 0 (MQ below (cQ D (gTy cB cI cJ) A (mW cB cI cJ q ρ.2) (some (.int ρ.1))) args s 0 0 A) (F0 m 20 ls []) := by
  intro n
  induction n with
  | zero =>
    intros
    rename_i hf
    cases hf
  | succ n ih =>
    intro a1 a2 a3 a4 a5 a6 σ H locs ls hl hP hD hS hf
    exact mm_feed_t20 G (fun _ _ _ _ _ _ _ H locs ls hl hP hD hS hf => ih hl hP hD hS hf) hl hP hD hS hf
set_option maxHeartbeats 4000000 in
set_option maxRecDepth 100000 in
theorem mm_feed_t0e {p : Program} {l : Launch} {e : Env} {s : State} {m : MethodId} {args : Array Value} {below : List Frame} {meth : Method} {c : Code} {D : va_G} {aK aV : Nat → Nat} {A : Nat → Prop} {cB cI cJ : ClassId} {q : Nat → Nat} {H : Heap} {locs : List Loc} {ls : Array Slot} {ρ : Int32 × MSt} {p0 : Int32} {p1 : Int32} {p2 : Int32} {p3 : Int32} {p4 : Int32} {σ : MSt} (G : CX p s m args meth c D (gTy cB cI cJ) aK aV A RX5 cX5_feed 8 (some .int)) (hl : lv_has ls 8 [(0, .ref (q 0)), (1, .int p0), (2, .int p1), (3, .int p2), (4, .int p3), (5, .int p4)]) (hP : va_P D vwCl (mW cB cI cJ q σ) H) (hD : va_D A (mW cB cI cJ q σ)) (hS : va_S A s.heap H locs) (hf : mm_feed p0 p1 p2 p3 p4 σ = some ρ) : W p l e (rm_mm_feed) s m args below meth c H locs 0 0 (MQ below (cQ D (gTy cB cI cJ) A (mW cB cI cJ q ρ.2) (some (.int ρ.1))) args s 0 0 A) (F0 m 0 ls []) := by
  unfold mm_feed at hf
  obtain ⟨hx, hb, hml, hown, hT, hrt, hlk, hK, hA, hG, hE⟩ := id G
  refine lv_aload_n hx hb dX5_feed_0 rfl (lv_at hl 0 rfl) ?_
  refine lv_iconst (v := (0 : Int32)) hx hb dX5_feed_1 (by decide) ?_
  refine pm_X5_thrown (v := (0 : Int32)) G hP hD hS dX5_feed_2 (fun H locs hP hD hS => ?_)
  refine lv_aload_n hx hb dX5_feed_5 rfl (lv_at hl 0 rfl) ?_
  refine gm_X5_taped (v := (mf_taped σ)) G hP dX5_feed_6 (mG_taped_thrown _ _) ?_
  refine lv_sipush (v := (3980 : Int32)) hx hb dX5_feed_9 (by decide) ?_
  refine lv_icmp_le (tgt := 17) hx hb dX5_feed_12 (by decide) (fun c1 => ?_) (fun c1 => ?_)
  · have hf := (if_pos c1).symm.trans hf
    refine lv_iconst (v := (0 : Int32)) hx hb dX5_feed_17 (by decide) ?_
    refine lv_istore (lv' := [(6, .int (0 : Int32)), (0, .ref (q 0)), (1, .int p0), (2, .int p1), (3, .int p2), (4, .int p3), (5, .int p4)]) hx hb dX5_feed_18 hl (by decide) rfl (fun ls hl => ?_)
    exact W.eq (g2 := F0 m 20 ls []) rfl (mm_feed_u20 G FU (lv_sub hl [1, 2, 3, 4, 5, 6, 0] rfl) hP hD hS hf)
  · have hf := (if_neg c1).symm.trans hf
    refine lv_iconst (v := (-1 : Int32)) hx hb dX5_feed_15 (by decide) ?_
    cases hf
    exact ct_iret G rfl hP hD hS dX5_feed_16
set_option maxHeartbeats 4000000 in
set_option maxRecDepth 100000 in
theorem c_mm_feed {l : Launch} {D : va_G} {aK aV : Nat → Nat} {cB cI cJ : ClassId} {q : Nat → Nat} {ρ : Int32 × MSt} {p0 : Int32} {p1 : Int32} {p2 : Int32} {p3 : Int32} {p4 : Int32} {σ : MSt} (hf : mm_feed p0 p1 p2 p3 p4 σ = some ρ) : CT l D (gTy cB cI cJ) aK aV yX5_feed (wM yX5_feed cX5_feed 8 (some .int)) (rm_mm_feed) 0 0 [.ref (q 0), .int p0, .int p1, .int p2, .int p3, .int p4] (mW cB cI cJ q σ) (some (.int ρ.1)) (mW cB cI cJ q ρ.2) := by
  refine CT.of (by decide) rfl ?_
  intro p e s m below meth c A G hnm hP hD hS
  have hl := lv_entry [.ref (q 0), .int p0, .int p1, .int p2, .int p3, .int p4] (n := 8) (Nat.le_of_ble_eq_true rfl)
  rw [lg_entry_eq]
  generalize (lg_sl [.ref (q 0), .int p0, .int p1, .int p2, .int p3, .int p4] ++ List.replicate (8 - (lg_sl [.ref (q 0), .int p0, .int p1, .int p2, .int p3, .int p4]).length) Slot.unset).toArray = ls at hl ⊢
  exact mm_feed_t0e G hl hP hD hS hf
def mm_wrong (p0 : Int32) (p1 : Int32) (σ : MSt) : Option (Bool × MSt) := (if (mf_fault σ) = 0 then some (false, (ms_errorPlace (ms_fault σ p0) p1)) else some (false, σ))
abbrev rm_mm_wrong : Room := { frames := 0, cells := 0, slots := 0, locals := 0 }
set_option maxHeartbeats 4000000 in
set_option maxRecDepth 100000 in
theorem mm_wrong_t0e {p : Program} {l : Launch} {e : Env} {s : State} {m : MethodId} {args : Array Value} {below : List Frame} {meth : Method} {c : Code} {D : va_G} {aK aV : Nat → Nat} {A : Nat → Prop} {cB cI cJ : ClassId} {q : Nat → Nat} {H : Heap} {locs : List Loc} {ls : Array Slot} {ρ : Bool × MSt} {p0 : Int32} {p1 : Int32} {σ : MSt} (G : CX p s m args meth c D (gTy cB cI cJ) aK aV A RX5 cX5_wrong 3 (some .boolean)) (hl : lv_has ls 3 [(0, .ref (q 0)), (1, .int p0), (2, .int p1)]) (hP : va_P D vwCl (mW cB cI cJ q σ) H) (hD : va_D A (mW cB cI cJ q σ)) (hS : va_S A s.heap H locs) (hf : mm_wrong p0 p1 σ = some ρ) : W p l e (rm_mm_wrong) s m args below meth c H locs 0 0 (MQ below (cQ D (gTy cB cI cJ) A (mW cB cI cJ q ρ.2) (some (.int (bI ρ.1)))) args s 0 0 A) (F0 m 0 ls []) := by
  unfold mm_wrong at hf
  obtain ⟨hx, hb, hml, hown, hT, hrt, hlk, hK, hA, hG, hE⟩ := id G
  refine lv_aload_n hx hb dX5_wrong_0 rfl (lv_at hl 0 rfl) ?_
  refine gm_X5_fault (v := (mf_fault σ)) G hP dX5_wrong_1 rfl ?_
  refine lv_if_ne (tgt := 17) hx hb dX5_wrong_4 (by decide) (fun c1 => ?_) (fun c1 => ?_)
  · have hf := (if_neg c1).symm.trans hf
    refine lv_iconst (v := (0 : Int32)) hx hb dX5_wrong_17 (by decide) ?_
    cases hf
    exact ct_iret G (bI_nar false) hP hD hS dX5_wrong_18
  · have hf := (if_pos c1).symm.trans hf
    refine lv_aload_n hx hb dX5_wrong_7 rfl (lv_at hl 0 rfl) ?_
    refine lv_iload_n hx hb dX5_wrong_8 rfl (lv_at hl 1 rfl) ?_
    refine pm_X5_fault (v := p0) G hP hD hS dX5_wrong_9 (fun H locs hP hD hS => ?_)
    refine lv_aload_n hx hb dX5_wrong_12 rfl (lv_at hl 0 rfl) ?_
    refine lv_iload_n hx hb dX5_wrong_13 rfl (lv_at hl 2 rfl) ?_
    refine pm_X5_errorPlace (v := p1) G hP hD hS dX5_wrong_14 (fun H locs hP hD hS => ?_)
    refine lv_iconst (v := (0 : Int32)) hx hb dX5_wrong_17 (by decide) ?_
    cases hf
    exact ct_iret G (bI_nar false) hP hD hS dX5_wrong_18
set_option maxHeartbeats 4000000 in
set_option maxRecDepth 100000 in
theorem c_mm_wrong {l : Launch} {D : va_G} {aK aV : Nat → Nat} {cB cI cJ : ClassId} {q : Nat → Nat} {ρ : Bool × MSt} {p0 : Int32} {p1 : Int32} {σ : MSt} (hf : mm_wrong p0 p1 σ = some ρ) : CT l D (gTy cB cI cJ) aK aV yX5_wrong (wM yX5_wrong cX5_wrong 3 (some .boolean)) (rm_mm_wrong) 0 0 [.ref (q 0), .int p0, .int p1] (mW cB cI cJ q σ) (some (.int (bI ρ.1))) (mW cB cI cJ q ρ.2) := by
  refine CT.of (by decide) rfl ?_
  intro p e s m below meth c A G hnm hP hD hS
  have hl := lv_entry [.ref (q 0), .int p0, .int p1] (n := 3) (Nat.le_of_ble_eq_true rfl)
  rw [lg_entry_eq]
  generalize (lg_sl [.ref (q 0), .int p0, .int p1] ++ List.replicate (3 - (lg_sl [.ref (q 0), .int p0, .int p1]).length) Slot.unset).toArray = ls at hl ⊢
  exact mm_wrong_t0e G hl hP hD hS hf
