/-! THE REFERENCE: signs, numbers (printed by program wip/gen) -/
def mm_take_b19 (k19 : Int32 → MSt → Option (Int32 × MSt)) (a1 : Int32) (σ : MSt) : Option (Int32 × MSt) := (if (mf_writtenMany σ) ≤ a1 then some ((mf_writtenMany σ), (ms_taped σ (mf_writtenMany σ))) else ck a1 6000 (ck a1 4000 (lt (a1 + (1 : Int32)) (fun (v5 : Int32) => k19 v5 (ms_tape σ (upd (mf_tape σ) (a1).toNatClampNeg (((mf_written σ) (a1).toNatClampNeg) &&& (255 : Int32))))))))
def mm_take_L19 : Nat → Int32 → MSt → Option (Int32 × MSt)
  | 0, _, _ => none
  | n + 1, a1, σ => mm_take_b19 (mm_take_L19 n) a1 σ
def mm_take (σ : MSt) : Option (Int32 × MSt) := (if (mf_writtenMany σ) ≤ (4000 : Int32) then mm_take_L19 FU (0 : Int32) (ms_thrown σ (0 : Int32)) else some ((-1 : Int32), (ms_thrown σ (0 : Int32))))
abbrev rm_mm_take : Room := { frames := 0, cells := 0, slots := 0, locals := 0 }
set_option maxHeartbeats 4000000 in
set_option maxRecDepth 100000 in
theorem mm_take_t19 {p : Program} {l : Launch} {e : Env} {s : State} {m : MethodId} {args : Array Value} {below : List Frame} {meth : Method} {c : Code} {D : va_G} {aK aV : Nat → Nat} {A : Nat → Prop} {cB cI cJ : ClassId} {q : Nat → Nat} {H : Heap} {locs : List Loc} {ls : Array Slot} {ρ : Int32 × MSt} {k19 : Int32 → MSt → Option (Int32 × MSt)} {a1 : Int32} {σ : MSt} (G : CX p s m args meth c D (gTy cB cI cJ) aK aV A RX5 cX5_take 2 (some .int)) (hk19 : ∀ (a1 : Int32) (σ : MSt) (H : Heap) (locs : List Loc) (ls : Array Slot), lv_has ls 2 [(0, .ref (q 0)), (1, .int a1)] → va_P D vwCl (mW cB cI cJ q σ) H → va_D A (mW cB cI cJ q σ) → va_S A s.heap H locs → k19 a1 σ = some ρ → W p l e (rm_mm_take) s m args below meth c H locs 0 0 (MQ below (cQ D (gTy cB cI cJ) A (mW cB cI cJ q ρ.2) (some (.int ρ.1))) args s 0 0 A) (F0 m 19 ls [])) (hl : lv_has ls 2 [(0, .ref (q 0)), (1, .int a1)]) (hP : va_P D vwCl (mW cB cI cJ q σ) H) (hD : va_D A (mW cB cI cJ q σ)) (hS : va_S A s.heap H locs) (hf : mm_take_b19 k19 a1 σ = some ρ) : W p l e (rm_mm_take) s m args below meth c H locs 0 0 (MQ below (cQ D (gTy cB cI cJ) A (mW cB cI cJ q ρ.2) (some (.int ρ.1))) args s 0 0 A) (F0 m 19 ls []) := by
  unfold mm_take_b19 at hf
  obtain ⟨hx, hb, hml, hown, hT, hrt, hlk, hK, hA, hG, hE⟩ := id G
  refine lv_iload_n hx hb dX5_take_19 rfl (lv_at hl 1 rfl) ?_
  refine lv_aload_n hx hb dX5_take_20 rfl (lv_at hl 0 rfl) ?_
  refine gm_X5_writtenMany (v := (mf_writtenMany σ)) G hP dX5_take_21 rfl ?_
  refine lv_icmp_ge (tgt := 49) hx hb dX5_take_24 (by decide) (fun c2 => ?_) (fun c2 => ?_)
  · have hf := (if_pos c2).symm.trans hf
    refine lv_aload_n hx hb dX5_take_49 rfl (lv_at hl 0 rfl) ?_
    refine lv_aload_n hx hb dX5_take_50 rfl (lv_at hl 0 rfl) ?_
    refine gm_X5_writtenMany (v := (mf_writtenMany σ)) G hP dX5_take_51 rfl ?_
    refine pm_X5_taped (v := (mf_writtenMany σ)) G hP hD hS dX5_take_54 (fun H locs hP hD hS => ?_)
    refine lv_aload_n hx hb dX5_take_57 rfl (lv_at hl 0 rfl) ?_
    refine gm_X5_taped (v := (mf_writtenMany σ)) G hP dX5_take_58 (mG_taped_taped _ _) ?_
    cases hf
    exact ct_iret G rfl hP hD hS dX5_take_61
  · have hf := (if_neg c2).symm.trans hf
    refine lv_aload_n hx hb dX5_take_27 rfl (lv_at hl 0 rfl) ?_
    refine gm_X5_tape G hP dX5_take_28 ?_
    refine lv_iload_n hx hb dX5_take_31 rfl (lv_at hl 1 rfl) ?_
    refine lv_aload_n hx hb dX5_take_32 rfl (lv_at hl 0 rfl) ?_
    refine gm_X5_written G hP dX5_take_33 ?_
    refine lv_iload_n hx hb dX5_take_36 rfl (lv_at hl 1 rfl) ?_
    obtain ⟨hi3, hf⟩ := ck_some hf
    refine lm_written (f := (mf_written σ)) G hP hi3 dX5_take_37 rfl ?_
    refine lv_sipush (v := (255 : Int32)) hx hb dX5_take_38 (by decide) ?_
    refine lv_iand hx hb dX5_take_41 ?_
    obtain ⟨hi4, hf⟩ := ck_some hf
    refine sm_tape (f := (mf_tape σ)) G hP hD hS hi4 dX5_take_42 rfl (fun H locs hP hD hS => ?_)
    obtain ⟨v5, ev5⟩ : ∃ y : Int32, y = (a1 + (1 : Int32)) := ⟨_, rfl⟩
    have hf := lt_eq hf ev5
    refine lv_iinc (v := v5) (lv' := [(1, .int v5), (0, .ref (q 0))]) hx hb dX5_take_43 hl (k := 1) rfl (by rw [ev5]; rfl) (by decide) rfl (fun ls hl => ?_)
    refine lv_goto (tgt := 19) hx hb dX5_take_46 (by decide) ?_
    exact W.eq (g2 := F0 m 19 ls []) rfl (hk19 _ _ _ _ _ (lv_sub hl [1, 0] rfl) hP hD hS hf)
set_option maxHeartbeats 4000000 in
set_option maxRecDepth 100000 in
theorem mm_take_u19 {p : Program} {l : Launch} {e : Env} {s : State} {m : MethodId} {args : Array Value} {below : List Frame} {meth : Method} {c : Code} {D : va_G} {aK aV : Nat → Nat} {A : Nat → Prop} {cB cI cJ : ClassId} {q : Nat → Nat} {ρ : Int32 × MSt} (G : CX p s m args meth c D (gTy cB cI cJ) aK aV A RX5 cX5_take 2 (some .int)) : ∀ (n : Nat) {a1 : Int32} {σ : MSt} {H : Heap} {locs : List Loc} {ls : Array Slot} (hl : lv_has ls 2 [(0, .ref (q 0)), (1, .int a1)]) (hP : va_P D vwCl (mW cB cI cJ q σ) H) (hD : va_D A (mW cB cI cJ q σ)) (hS : va_S A s.heap H locs) (hf : mm_take_L19 n a1 σ = some ρ), W p l e (rm_mm_take) s m args below meth c H locs 0 0 (MQ below (cQ D (gTy cB cI cJ) A (mW cB cI cJ q ρ.2) (some (.int ρ.1))) args s 0 0 A) (F0 m 19 ls []) := by
  intro n
  induction n with
  | zero =>
    intros
    rename_i hf
    cases hf
  | succ n ih =>
    intro a1 σ H locs ls hl hP hD hS hf
    exact mm_take_t19 G (fun _ _ H locs ls hl hP hD hS hf => ih hl hP hD hS hf) hl hP hD hS hf
set_option maxHeartbeats 4000000 in
set_option maxRecDepth 100000 in
theorem mm_take_t0e {p : Program} {l : Launch} {e : Env} {s : State} {m : MethodId} {args : Array Value} {below : List Frame} {meth : Method} {c : Code} {D : va_G} {aK aV : Nat → Nat} {A : Nat → Prop} {cB cI cJ : ClassId} {q : Nat → Nat} {H : Heap} {locs : List Loc} {ls : Array Slot} {ρ : Int32 × MSt} {σ : MSt} (G : CX p s m args meth c D (gTy cB cI cJ) aK aV A RX5 cX5_take 2 (some .int)) (hl : lv_has ls 2 [(0, .ref (q 0))]) (hP : va_P D vwCl (mW cB cI cJ q σ) H) (hD : va_D A (mW cB cI cJ q σ)) (hS : va_S A s.heap H locs) (hf : mm_take σ = some ρ) : W p l e (rm_mm_take) s m args below meth c H locs 0 0 (MQ below (cQ D (gTy cB cI cJ) A (mW cB cI cJ q ρ.2) (some (.int ρ.1))) args s 0 0 A) (F0 m 0 ls []) := by
  unfold mm_take at hf
  obtain ⟨hx, hb, hml, hown, hT, hrt, hlk, hK, hA, hG, hE⟩ := id G
  refine lv_aload_n hx hb dX5_take_0 rfl (lv_at hl 0 rfl) ?_
  refine lv_iconst (v := (0 : Int32)) hx hb dX5_take_1 (by decide) ?_
  refine pm_X5_thrown (v := (0 : Int32)) G hP hD hS dX5_take_2 (fun H locs hP hD hS => ?_)
  refine lv_aload_n hx hb dX5_take_5 rfl (lv_at hl 0 rfl) ?_
  refine gm_X5_writtenMany (v := (mf_writtenMany σ)) G hP dX5_take_6 (mG_writtenMany_thrown _ _) ?_
  refine lv_sipush (v := (4000 : Int32)) hx hb dX5_take_9 (by decide) ?_
  refine lv_icmp_le (tgt := 17) hx hb dX5_take_12 (by decide) (fun c1 => ?_) (fun c1 => ?_)
  · have hf := (if_pos c1).symm.trans hf
    refine lv_iconst (v := (0 : Int32)) hx hb dX5_take_17 (by decide) ?_
    refine lv_istore_n (lv' := [(1, .int (0 : Int32)), (0, .ref (q 0))]) hx hb dX5_take_18 rfl hl (by decide) rfl (fun ls hl => ?_)
    exact W.eq (g2 := F0 m 19 ls []) rfl (mm_take_u19 G FU (lv_sub hl [1, 0] rfl) hP hD hS hf)
  · have hf := (if_neg c1).symm.trans hf
    refine lv_iconst (v := (-1 : Int32)) hx hb dX5_take_15 (by decide) ?_
    cases hf
    exact ct_iret G rfl hP hD hS dX5_take_16
set_option maxHeartbeats 4000000 in
set_option maxRecDepth 100000 in
theorem c_mm_take {l : Launch} {D : va_G} {aK aV : Nat → Nat} {cB cI cJ : ClassId} {q : Nat → Nat} {ρ : Int32 × MSt} {σ : MSt} (hf : mm_take σ = some ρ) : CT l D (gTy cB cI cJ) aK aV yX5_take (wM yX5_take cX5_take 2 (some .int)) (rm_mm_take) 0 0 [.ref (q 0)] (mW cB cI cJ q σ) (some (.int ρ.1)) (mW cB cI cJ q ρ.2) := by
  refine CT.of (by decide) rfl ?_
  intro p e s m below meth c A G hnm hP hD hS
  have hl := lv_entry [.ref (q 0)] (n := 2) (Nat.le_of_ble_eq_true rfl)
  rw [lg_entry_eq]
  generalize (lg_sl [.ref (q 0)] ++ List.replicate (2 - (lg_sl [.ref (q 0)]).length) Slot.unset).toArray = ls at hl ⊢
  exact mm_take_t0e G hl hP hD hS hf
def mm_thing (p0 : Int32) (p1 : Int64) (σ : MSt) : Option (Int32 × MSt) := ck (mf_things σ) 4200 (ck (mf_things σ) 4200 (ck (mf_things σ) 4200 (some ((((mf_things σ) + (1 : Int32)) - (1 : Int32)), (ms_things (ms_places (ms_numbers (ms_sorts σ (upd (mf_sorts σ) ((mf_things σ)).toNatClampNeg p0)) (vp_updL (mf_numbers σ) ((mf_things σ)).toNatClampNeg p1)) (upd (mf_places σ) ((mf_things σ)).toNatClampNeg (mf_lettersMany σ))) ((mf_things σ) + (1 : Int32)))))))
abbrev rm_mm_thing : Room := { frames := 0, cells := 0, slots := 0, locals := 0 }
set_option maxHeartbeats 4000000 in
set_option maxRecDepth 100000 in
theorem mm_thing_t0e {p : Program} {l : Launch} {e : Env} {s : State} {m : MethodId} {args : Array Value} {below : List Frame} {meth : Method} {c : Code} {D : va_G} {aK aV : Nat → Nat} {A : Nat → Prop} {cB cI cJ : ClassId} {q : Nat → Nat} {H : Heap} {locs : List Loc} {ls : Array Slot} {ρ : Int32 × MSt} {p0 : Int32} {p1 : Int64} {σ : MSt} (G : CX p s m args meth c D (gTy cB cI cJ) aK aV A RX5 cX5_thing 4 (some .int)) (hl : lv_has ls 4 [(0, .ref (q 0)), (1, .int p0), (2, .long p1)]) (hP : va_P D vwCl (mW cB cI cJ q σ) H) (hD : va_D A (mW cB cI cJ q σ)) (hS : va_S A s.heap H locs) (hf : mm_thing p0 p1 σ = some ρ) : W p l e (rm_mm_thing) s m args below meth c H locs 0 0 (MQ below (cQ D (gTy cB cI cJ) A (mW cB cI cJ q ρ.2) (some (.int ρ.1))) args s 0 0 A) (F0 m 0 ls []) := by
  unfold mm_thing at hf
  obtain ⟨hx, hb, hml, hown, hT, hrt, hlk, hK, hA, hG, hE⟩ := id G
  refine lv_aload_n hx hb dX5_thing_0 rfl (lv_at hl 0 rfl) ?_
  refine gm_X5_sorts G hP dX5_thing_1 ?_
  refine lv_aload_n hx hb dX5_thing_4 rfl (lv_at hl 0 rfl) ?_
  refine gm_X5_things (v := (mf_things σ)) G hP dX5_thing_5 rfl ?_
  refine lv_iload_n hx hb dX5_thing_8 rfl (lv_at hl 1 rfl) ?_
  obtain ⟨hi1, hf⟩ := ck_some hf
  refine sm_sorts (f := (mf_sorts σ)) G hP hD hS hi1 dX5_thing_9 rfl (fun H locs hP hD hS => ?_)
  refine lv_aload_n hx hb dX5_thing_10 rfl (lv_at hl 0 rfl) ?_
  refine gm_X5_numbers G hP dX5_thing_11 ?_
  refine lv_aload_n hx hb dX5_thing_14 rfl (lv_at hl 0 rfl) ?_
  refine gm_X5_things (v := (mf_things σ)) G hP dX5_thing_15 (mG_things_sorts _ _) ?_
  refine lv_lload_n hx hb dX5_thing_18 rfl (lv_at hl 2 rfl) ?_
  obtain ⟨hi2, hf⟩ := ck_some hf
  refine sm_numbers (f := (mf_numbers σ)) G hP hD hS hi2 dX5_thing_19 (mG_numbers_sorts _ _) (fun H locs hP hD hS => ?_)
  refine lv_aload_n hx hb dX5_thing_20 rfl (lv_at hl 0 rfl) ?_
  refine gm_X5_places G hP dX5_thing_21 ?_
  refine lv_aload_n hx hb dX5_thing_24 rfl (lv_at hl 0 rfl) ?_
  refine gm_X5_things (v := (mf_things σ)) G hP dX5_thing_25 (Eq.trans (mG_things_numbers _ _) (mG_things_sorts _ _)) ?_
  refine lv_aload_n hx hb dX5_thing_28 rfl (lv_at hl 0 rfl) ?_
  refine gm_X5_lettersMany (v := (mf_lettersMany σ)) G hP dX5_thing_29 (Eq.trans (mG_lettersMany_numbers _ _) (mG_lettersMany_sorts _ _)) ?_
  obtain ⟨hi3, hf⟩ := ck_some hf
  refine sm_places (f := (mf_places σ)) G hP hD hS hi3 dX5_thing_32 (Eq.trans (mG_places_numbers _ _) (mG_places_sorts _ _)) (fun H locs hP hD hS => ?_)
  refine lv_aload_n hx hb dX5_thing_33 rfl (lv_at hl 0 rfl) ?_
  refine lv_dup hx hb dX5_thing_34 rfl ?_
  refine gm_X5_things (v := (mf_things σ)) G hP dX5_thing_35 (Eq.trans (mG_things_places _ _) (Eq.trans (mG_things_numbers _ _) (mG_things_sorts _ _))) ?_
  refine lv_iconst (v := (1 : Int32)) hx hb dX5_thing_38 (by decide) ?_
  refine lv_iadd hx hb dX5_thing_39 ?_
  refine pm_X5_things (v := ((mf_things σ) + (1 : Int32))) G hP hD hS dX5_thing_40 (fun H locs hP hD hS => ?_)
  refine lv_aload_n hx hb dX5_thing_43 rfl (lv_at hl 0 rfl) ?_
  refine gm_X5_things (v := ((mf_things σ) + (1 : Int32))) G hP dX5_thing_44 (mG_things_things _ _) ?_
  refine lv_iconst (v := (1 : Int32)) hx hb dX5_thing_47 (by decide) ?_
  refine lv_isub hx hb dX5_thing_48 ?_
  cases hf
  exact ct_iret G rfl hP hD hS dX5_thing_49
set_option maxHeartbeats 4000000 in
set_option maxRecDepth 100000 in
theorem c_mm_thing {l : Launch} {D : va_G} {aK aV : Nat → Nat} {cB cI cJ : ClassId} {q : Nat → Nat} {ρ : Int32 × MSt} {p0 : Int32} {p1 : Int64} {σ : MSt} (hf : mm_thing p0 p1 σ = some ρ) : CT l D (gTy cB cI cJ) aK aV yX5_thing (wM yX5_thing cX5_thing 4 (some .int)) (rm_mm_thing) 0 0 [.ref (q 0), .int p0, .long p1] (mW cB cI cJ q σ) (some (.int ρ.1)) (mW cB cI cJ q ρ.2) := by
  refine CT.of (by decide) rfl ?_
  intro p e s m below meth c A G hnm hP hD hS
  have hl := lv_entry [.ref (q 0), .int p0, .long p1] (n := 4) (Nat.le_of_ble_eq_true rfl)
  rw [lg_entry_eq]
  generalize (lg_sl [.ref (q 0), .int p0, .long p1] ++ List.replicate (4 - (lg_sl [.ref (q 0), .int p0, .long p1]).length) Slot.unset).toArray = ls at hl ⊢
  exact mm_thing_t0e G hl hP hD hS hf
def mm_here (σ : MSt) : Option (Int32 × MSt) := (if (mf_taped σ) ≤ (mf_at σ) then some ((-1 : Int32), σ) else ck (mf_at σ) 4000 (some (((mf_tape σ) ((mf_at σ)).toNatClampNeg), σ)))
abbrev rm_mm_here : Room := { frames := 0, cells := 0, slots := 0, locals := 0 }
set_option maxHeartbeats 4000000 in
set_option maxRecDepth 100000 in
theorem mm_here_t0e {p : Program} {l : Launch} {e : Env} {s : State} {m : MethodId} {args : Array Value} {below : List Frame} {meth : Method} {c : Code} {D : va_G} {aK aV : Nat → Nat} {A : Nat → Prop} {cB cI cJ : ClassId} {q : Nat → Nat} {H : Heap} {locs : List Loc} {ls : Array Slot} {ρ : Int32 × MSt} {σ : MSt} (G : CX p s m args meth c D (gTy cB cI cJ) aK aV A RX5 cX5_here 1 (some .int)) (hl : lv_has ls 1 [(0, .ref (q 0))]) (hP : va_P D vwCl (mW cB cI cJ q σ) H) (hD : va_D A (mW cB cI cJ q σ)) (hS : va_S A s.heap H locs) (hf : mm_here σ = some ρ) : W p l e (rm_mm_here) s m args below meth c H locs 0 0 (MQ below (cQ D (gTy cB cI cJ) A (mW cB cI cJ q ρ.2) (some (.int ρ.1))) args s 0 0 A) (F0 m 0 ls []) := by
  unfold mm_here at hf
  obtain ⟨hx, hb, hml, hown, hT, hrt, hlk, hK, hA, hG, hE⟩ := id G
  refine lv_aload_n hx hb dX5_here_0 rfl (lv_at hl 0 rfl) ?_
  refine gm_X5_at (v := (mf_at σ)) G hP dX5_here_1 rfl ?_
  refine lv_aload_n hx hb dX5_here_4 rfl (lv_at hl 0 rfl) ?_
  refine gm_X5_taped (v := (mf_taped σ)) G hP dX5_here_5 rfl ?_
  refine lv_icmp_ge (tgt := 23) hx hb dX5_here_8 (by decide) (fun c1 => ?_) (fun c1 => ?_)
  · have hf := (if_pos c1).symm.trans hf
    refine lv_iconst (v := (-1 : Int32)) hx hb dX5_here_23 (by decide) ?_
    cases hf
    exact ct_iret G rfl hP hD hS dX5_here_24
  · have hf := (if_neg c1).symm.trans hf
    refine lv_aload_n hx hb dX5_here_11 rfl (lv_at hl 0 rfl) ?_
    refine gm_X5_tape G hP dX5_here_12 ?_
    refine lv_aload_n hx hb dX5_here_15 rfl (lv_at hl 0 rfl) ?_
    refine gm_X5_at (v := (mf_at σ)) G hP dX5_here_16 rfl ?_
    obtain ⟨hi2, hf⟩ := ck_some hf
    refine lm_tape (f := (mf_tape σ)) G hP hi2 dX5_here_19 rfl ?_
    refine lv_goto (tgt := 24) hx hb dX5_here_20 (by decide) ?_
    cases hf
    exact ct_iret G rfl hP hD hS dX5_here_24
set_option maxHeartbeats 4000000 in
set_option maxRecDepth 100000 in
theorem c_mm_here {l : Launch} {D : va_G} {aK aV : Nat → Nat} {cB cI cJ : ClassId} {q : Nat → Nat} {ρ : Int32 × MSt} {σ : MSt} (hf : mm_here σ = some ρ) : CT l D (gTy cB cI cJ) aK aV yX5_here (wM yX5_here cX5_here 1 (some .int)) (rm_mm_here) 0 0 [.ref (q 0)] (mW cB cI cJ q σ) (some (.int ρ.1)) (mW cB cI cJ q ρ.2) := by
  refine CT.of (by decide) rfl ?_
  intro p e s m below meth c A G hnm hP hD hS
  have hl := lv_entry [.ref (q 0)] (n := 1) (Nat.le_of_ble_eq_true rfl)
  rw [lg_entry_eq]
  generalize (lg_sl [.ref (q 0)] ++ List.replicate (1 - (lg_sl [.ref (q 0)]).length) Slot.unset).toArray = ls at hl ⊢
  exact mm_here_t0e G hl hP hD hS hf
def mm_follows (p0 : Int32) (p1 : Int32) (p2 : Int32) (p3 : Int32) (σ : MSt) : Option (Bool × MSt) := (if p1 ≤ p0 then some (false, σ) else ck p0 4000 ((if ((mf_tape σ) (p0).toNatClampNeg) < p2 then some (false, σ) else ck p0 4000 ((if p3 < ((mf_tape σ) (p0).toNatClampNeg) then some (false, σ) else some (true, σ))))))
abbrev rm_mm_follows : Room := { frames := 0, cells := 0, slots := 0, locals := 0 }
set_option maxHeartbeats 4000000 in
set_option maxRecDepth 100000 in
theorem mm_follows_t0e {p : Program} {l : Launch} {e : Env} {s : State} {m : MethodId} {args : Array Value} {below : List Frame} {meth : Method} {c : Code} {D : va_G} {aK aV : Nat → Nat} {A : Nat → Prop} {cB cI cJ : ClassId} {q : Nat → Nat} {H : Heap} {locs : List Loc} {ls : Array Slot} {ρ : Bool × MSt} {p0 : Int32} {p1 : Int32} {p2 : Int32} {p3 : Int32} {σ : MSt} (G : CX p s m args meth c D (gTy cB cI cJ) aK aV A RX5 cX5_follows 5 (some .boolean)) (hl : lv_has ls 5 [(0, .ref (q 0)), (1, .int p0), (2, .int p1), (3, .int p2), (4, .int p3)]) (hP : va_P D vwCl (mW cB cI cJ q σ) H) (hD : va_D A (mW cB cI cJ q σ)) (hS : va_S A s.heap H locs) (hf : mm_follows p0 p1 p2 p3 σ = some ρ) : W p l e (rm_mm_follows) s m args below meth c H locs 0 0 (MQ below (cQ D (gTy cB cI cJ) A (mW cB cI cJ q ρ.2) (some (.int (bI ρ.1)))) args s 0 0 A) (F0 m 0 ls []) := by
  unfold mm_follows at hf
  obtain ⟨hx, hb, hml, hown, hT, hrt, hlk, hK, hA, hG, hE⟩ := id G
  refine lv_iload_n hx hb dX5_follows_0 rfl (lv_at hl 1 rfl) ?_
  refine lv_iload_n hx hb dX5_follows_1 rfl (lv_at hl 2 rfl) ?_
  refine lv_icmp_ge (tgt := 30) hx hb dX5_follows_2 (by decide) (fun c1 => ?_) (fun c1 => ?_)
  · have hf := (if_pos c1).symm.trans hf
    refine lv_iconst (v := (0 : Int32)) hx hb dX5_follows_30 (by decide) ?_
    cases hf
    exact ct_iret G (bI_nar false) hP hD hS dX5_follows_31
  · have hf := (if_neg c1).symm.trans hf
    refine lv_aload_n hx hb dX5_follows_5 rfl (lv_at hl 0 rfl) ?_
    refine gm_X5_tape G hP dX5_follows_6 ?_
    refine lv_iload_n hx hb dX5_follows_9 rfl (lv_at hl 1 rfl) ?_
    obtain ⟨hi2, hf⟩ := ck_some hf
    refine lm_tape (f := (mf_tape σ)) G hP hi2 dX5_follows_10 rfl ?_
    refine lv_iload_n hx hb dX5_follows_11 rfl (lv_at hl 3 rfl) ?_
    refine lv_icmp_lt (tgt := 30) hx hb dX5_follows_12 (by decide) (fun c3 => ?_) (fun c3 => ?_)
    · have hf := (if_pos c3).symm.trans hf
      refine lv_iconst (v := (0 : Int32)) hx hb dX5_follows_30 (by decide) ?_
      cases hf
      exact ct_iret G (bI_nar false) hP hD hS dX5_follows_31
    · have hf := (if_neg c3).symm.trans hf
      refine lv_aload_n hx hb dX5_follows_15 rfl (lv_at hl 0 rfl) ?_
      refine gm_X5_tape G hP dX5_follows_16 ?_
      refine lv_iload_n hx hb dX5_follows_19 rfl (lv_at hl 1 rfl) ?_
      obtain ⟨hi4, hf⟩ := ck_some hf
      refine lm_tape (f := (mf_tape σ)) G hP hi4 dX5_follows_20 rfl ?_
      refine lv_iload hx hb dX5_follows_21 (lv_at hl 4 rfl) ?_
      refine lv_icmp_gt (tgt := 30) hx hb dX5_follows_23 (by decide) (fun c5 => ?_) (fun c5 => ?_)
      · have hf := (if_pos c5).symm.trans hf
        refine lv_iconst (v := (0 : Int32)) hx hb dX5_follows_30 (by decide) ?_
        cases hf
        exact ct_iret G (bI_nar false) hP hD hS dX5_follows_31
      · have hf := (if_neg c5).symm.trans hf
        refine lv_iconst (v := (1 : Int32)) hx hb dX5_follows_26 (by decide) ?_
        refine lv_goto (tgt := 31) hx hb dX5_follows_27 (by decide) ?_
        cases hf
        exact ct_iret G (bI_nar true) hP hD hS dX5_follows_31
set_option maxHeartbeats 4000000 in
set_option maxRecDepth 100000 in
theorem c_mm_follows {l : Launch} {D : va_G} {aK aV : Nat → Nat} {cB cI cJ : ClassId} {q : Nat → Nat} {ρ : Bool × MSt} {p0 : Int32} {p1 : Int32} {p2 : Int32} {p3 : Int32} {σ : MSt} (hf : mm_follows p0 p1 p2 p3 σ = some ρ) : CT l D (gTy cB cI cJ) aK aV yX5_follows (wM yX5_follows cX5_follows 5 (some .boolean)) (rm_mm_follows) 0 0 [.ref (q 0), .int p0, .int p1, .int p2, .int p3] (mW cB cI cJ q σ) (some (.int (bI ρ.1))) (mW cB cI cJ q ρ.2) := by
  refine CT.of (by decide) rfl ?_
  intro p e s m below meth c A G hnm hP hD hS
  have hl := lv_entry [.ref (q 0), .int p0, .int p1, .int p2, .int p3] (n := 5) (Nat.le_of_ble_eq_true rfl)
  rw [lg_entry_eq]
  generalize (lg_sl [.ref (q 0), .int p0, .int p1, .int p2, .int p3] ++ List.replicate (5 - (lg_sl [.ref (q 0), .int p0, .int p1, .int p2, .int p3]).length) Slot.unset).toArray = ls at hl ⊢
  exact mm_follows_t0e G hl hP hD hS hf
def mm_signSize_b139 (k139 : Int32 → Int32 → Int32 → Int32 → MSt → Option (Int32 × MSt)) (a1 : Int32) (a2 : Int32) (a6 : Int32) (a7 : Int32) (σ : MSt) : Option (Int32 × MSt) := (if a6 ≤ a7 then some (a6, σ) else bd (mm_follows (a1 + a7) a2 (128 : Int32) (191 : Int32) σ) (fun (x15 : Bool × MSt) => (if x15.1 = true then lt (a7 + (1 : Int32)) (fun (v17 : Int32) => k139 a1 a2 a6 v17 x15.2) else some ((0 : Int32), x15.2))))
def mm_signSize_L139 : Nat → Int32 → Int32 → Int32 → Int32 → MSt → Option (Int32 × MSt)
  | 0, _, _, _, _, _ => none
  | n + 1, a1, a2, a6, a7, σ => mm_signSize_b139 (mm_signSize_L139 n) a1 a2 a6 a7 σ
def mm_signSize_b117 (a1 : Int32) (a2 : Int32) (a4 : Int32) (a5 : Int32) (s0 : Int32) (σ : MSt) : Option (Int32 × MSt) := bd (mm_follows (a1 + (1 : Int32)) a2 a4 a5 σ) (fun (x12 : Bool × MSt) => (if x12.1 = true then mm_signSize_L139 FU a1 a2 s0 (2 : Int32) x12.2 else some ((0 : Int32), x12.2)))
def mm_signSize_b92 (a1 : Int32) (a2 : Int32) (a3 : Int32) (a4 : Int32) (s0 : Int32) (σ : MSt) : Option (Int32 × MSt) := (if (224 : Int32) ≤ a3 then (if (240 : Int32) ≤ a3 then mm_signSize_b117 a1 a2 a4 s0 (4 : Int32) σ else mm_signSize_b117 a1 a2 a4 s0 (3 : Int32) σ) else mm_signSize_b117 a1 a2 a4 s0 (2 : Int32) σ)
def mm_signSize_b61 (a1 : Int32) (a2 : Int32) (a3 : Int32) (s0 : Int32) (σ : MSt) : Option (Int32 × MSt) := (if a3 = (237 : Int32) then mm_signSize_b92 a1 a2 a3 s0 (159 : Int32) σ else (if a3 = (244 : Int32) then mm_signSize_b92 a1 a2 a3 s0 (143 : Int32) σ else mm_signSize_b92 a1 a2 a3 s0 (191 : Int32) σ))
def mm_signSize (p0 : Int32) (p1 : Int32) (σ : MSt) : Option (Int32 × MSt) := ck p0 4000 (lt ((mf_tape σ) (p0).toNatClampNeg) (fun (v2 : Int32) => (if (128 : Int32) ≤ v2 then (if v2 < (194 : Int32) then some ((0 : Int32), σ) else (if v2 ≤ (244 : Int32) then (if v2 = (224 : Int32) then mm_signSize_b61 p0 p1 v2 (160 : Int32) σ else (if v2 = (240 : Int32) then mm_signSize_b61 p0 p1 v2 (144 : Int32) σ else mm_signSize_b61 p0 p1 v2 (128 : Int32) σ)) else some ((0 : Int32), σ))) else some ((1 : Int32), σ))))
abbrev rm_mm_signSize : Room := { frames := 1, cells := 0, slots := 0, locals := 24 }
set_option maxHeartbeats 4000000 in
set_option maxRecDepth 100000 in
theorem mm_signSize_t139 {p : Program} {l : Launch} {e : Env} {s : State} {m : MethodId} {args : Array Value} {below : List Frame} {meth : Method} {c : Code} {D : va_G} {aK aV : Nat → Nat} {A : Nat → Prop} {cB cI cJ : ClassId} {q : Nat → Nat} {H : Heap} {locs : List Loc} {ls : Array Slot} {ρ : Int32 × MSt} {k139 : Int32 → Int32 → Int32 → Int32 → MSt → Option (Int32 × MSt)} {a1 : Int32} {a2 : Int32} {a6 : Int32} {a7 : Int32} {σ : MSt} (G : CX p s m args meth c D (gTy cB cI cJ) aK aV A RX5 cX5_signSize 8 (some .int)) (hk139 : ∀ (a1 : Int32) (a2 : Int32) (a6 : Int32) (a7 : Int32) (σ : MSt) (H : Heap) (locs : List Loc) (ls : Array Slot), lv_has ls 8 [(0, .ref (q 0)), (1, .int a1), (2, .int a2), (6, .int a6), (7, .int a7)] → va_P D vwCl (mW cB cI cJ q σ) H → va_D A (mW cB cI cJ q σ) → va_S A s.heap H locs → k139 a1 a2 a6 a7 σ = some ρ → W p l e (rm_mm_signSize) s m args below meth c H locs 0 0 (MQ below (cQ D (gTy cB cI cJ) A (mW cB cI cJ q ρ.2) (some (.int ρ.1))) args s 0 0 A) (F0 m 139 ls [])) (hl : lv_has ls 8 [(0, .ref (q 0)), (1, .int a1), (2, .int a2), (6, .int a6), (7, .int a7)]) (hP : va_P D vwCl (mW cB cI cJ q σ) H) (hD : va_D A (mW cB cI cJ q σ)) (hS : va_S A s.heap H locs) (hf : mm_signSize_b139 k139 a1 a2 a6 a7 σ = some ρ) : W p l e (rm_mm_signSize) s m args below meth c H locs 0 0 (MQ below (cQ D (gTy cB cI cJ) A (mW cB cI cJ q ρ.2) (some (.int ρ.1))) args s 0 0 A) (F0 m 139 ls []) := by
  unfold mm_signSize_b139 at hf
  obtain ⟨hx, hb, hml, hown, hT, hrt, hlk, hK, hA, hG, hE⟩ := id G
  refine lv_iload hx hb dX5_signSize_139 (lv_at hl 4 rfl) ?_
  refine lv_iload hx hb dX5_signSize_141 (lv_at hl 3 rfl) ?_
  refine lv_icmp_ge (tgt := 172) hx hb dX5_signSize_143 (by decide) (fun c14 => ?_) (fun c14 => ?_)
  · have hf := (if_pos c14).symm.trans hf
    refine lv_iload hx hb dX5_signSize_172 (lv_at hl 3 rfl) ?_
    cases hf
    exact ct_iret G rfl hP hD hS dX5_signSize_174
  · have hf := (if_neg c14).symm.trans hf
    refine lv_aload_n hx hb dX5_signSize_146 rfl (lv_at hl 0 rfl) ?_
    refine lv_iload_n hx hb dX5_signSize_147 rfl (lv_at hl 1 rfl) ?_
    refine lv_iload hx hb dX5_signSize_148 (lv_at hl 4 rfl) ?_
    refine lv_iadd hx hb dX5_signSize_150 ?_
    refine lv_iload_n hx hb dX5_signSize_151 rfl (lv_at hl 2 rfl) ?_
    refine lv_sipush (v := (128 : Int32)) hx hb dX5_signSize_152 (by decide) ?_
    refine lv_sipush (v := (191 : Int32)) hx hb dX5_signSize_155 (by decide) ?_
    obtain ⟨x15, hx15, hf⟩ := bd_some hf
    refine vM (As := [.int (a1 + a7), .int a2, .int (128 : Int32), .int (191 : Int32)]) (rest := []) G kX5_76 (c_mm_follows hx15) hP hD hS ⟨rfl, rfl, Nat.le_of_ble_eq_true rfl, Nat.le_of_ble_eq_true rfl⟩ ⟨Nat.zero_le _, Nat.zero_le _⟩ rfl hl.1 (Nat.le_of_ble_eq_true rfl) dX5_signSize_158 (fun H locs hP hD hS => ?_)
    refine W.eq (g2 := F0 m 161 ls [.int (bI x15.1)]) rfl ?_
    refine lv_if_ne (tgt := 166) hx hb dX5_signSize_161 (by decide) (fun c16 => ?_) (fun c16 => ?_)
    · have hf := (if_pos (bI_n c16)).symm.trans hf
      obtain ⟨v17, ev17⟩ : ∃ y : Int32, y = (a7 + (1 : Int32)) := ⟨_, rfl⟩
      have hf := lt_eq hf ev17
      refine lv_iinc (v := v17) (lv' := [(7, .int v17), (0, .ref (q 0)), (1, .int a1), (2, .int a2), (6, .int a6)]) hx hb dX5_signSize_166 hl (k := 4) rfl (by rw [ev17]; rfl) (by decide) rfl (fun ls hl => ?_)
      refine lv_goto (tgt := 139) hx hb dX5_signSize_169 (by decide) ?_
      exact W.eq (g2 := F0 m 139 ls []) rfl (hk139 _ _ _ _ _ _ _ _ (lv_sub hl [1, 2, 3, 4, 0] rfl) hP hD hS hf)
    · have hf := (if_neg (bI_0 c16)).symm.trans hf
      refine lv_iconst (v := (0 : Int32)) hx hb dX5_signSize_164 (by decide) ?_
      cases hf
      exact ct_iret G rfl hP hD hS dX5_signSize_165
set_option maxHeartbeats 4000000 in
set_option maxRecDepth 100000 in
theorem mm_signSize_u139 {p : Program} {l : Launch} {e : Env} {s : State} {m : MethodId} {args : Array Value} {below : List Frame} {meth : Method} {c : Code} {D : va_G} {aK aV : Nat → Nat} {A : Nat → Prop} {cB cI cJ : ClassId} {q : Nat → Nat} {ρ : Int32 × MSt} (G : CX p s m args meth c D (gTy cB cI cJ) aK aV A RX5 cX5_signSize 8 (some .int)) : ∀ (n : Nat) {a1 : Int32} {a2 : Int32} {a6 : Int32} {a7 : Int32} {σ : MSt} {H : Heap} {locs : List Loc} {ls : Array Slot} (hl : lv_has ls 8 [(0, .ref (q 0)), (1, .int a1), (2, .int a2), (6, .int a6), (7, .int a7)]) (hP : va_P D vwCl (mW cB cI cJ q σ) H) (hD : va_D A (mW cB cI cJ q σ)) (hS : va_S A s.heap H locs) (hf : mm_signSize_L139 n a1 a2 a6 a7 σ = some ρ), W p l e (rm_mm_signSize) s m args below meth c H locs 0 0 (MQ below (cQ D (gTy cB cI cJ) A (mW cB cI cJ q ρ.2) (some (.int ρ.1))) args s 0 0 A) (F0 m 139 ls []) := by
  intro n
  induction n with
  | zero =>
    intros
    rename_i hf
    cases hf
  | succ n ih =>
    intro a1 a2 a6 a7 σ H locs ls hl hP hD hS hf
    exact mm_signSize_t139 G (fun _ _ _ _ _ H locs ls hl hP hD hS hf => ih hl hP hD hS hf) hl hP hD hS hf
set_option maxHeartbeats 4000000 in
set_option maxRecDepth 100000 in
theorem mm_signSize_t117 {p : Program} {l : Launch} {e : Env} {s : State} {m : MethodId} {args : Array Value} {below : List Frame} {meth : Method} {c : Code} {D : va_G} {aK aV : Nat → Nat} {A : Nat → Prop} {cB cI cJ : ClassId} {q : Nat → Nat} {H : Heap} {locs : List Loc} {ls : Array Slot} {ρ : Int32 × MSt} {a1 : Int32} {a2 : Int32} {a4 : Int32} {a5 : Int32} {s0 : Int32} {σ : MSt} (G : CX p s m args meth c D (gTy cB cI cJ) aK aV A RX5 cX5_signSize 8 (some .int)) (hl : lv_has ls 8 [(0, .ref (q 0)), (1, .int a1), (2, .int a2), (4, .int a4), (5, .int a5)]) (hP : va_P D vwCl (mW cB cI cJ q σ) H) (hD : va_D A (mW cB cI cJ q σ)) (hS : va_S A s.heap H locs) (hf : mm_signSize_b117 a1 a2 a4 a5 s0 σ = some ρ) : W p l e (rm_mm_signSize) s m args below meth c H locs 0 0 (MQ below (cQ D (gTy cB cI cJ) A (mW cB cI cJ q ρ.2) (some (.int ρ.1))) args s 0 0 A) (F0 m 117 ls [.int s0]) := by
  unfold mm_signSize_b117 at hf
  obtain ⟨hx, hb, hml, hown, hT, hrt, hlk, hK, hA, hG, hE⟩ := id G
  refine lv_istore (lv' := [(6, .int s0), (0, .ref (q 0)), (1, .int a1), (2, .int a2), (4, .int a4), (5, .int a5)]) hx hb dX5_signSize_117 hl (by decide) rfl (fun ls hl => ?_)
  refine lv_aload_n hx hb dX5_signSize_119 rfl (lv_at hl 1 rfl) ?_
  refine lv_iload_n hx hb dX5_signSize_120 rfl (lv_at hl 2 rfl) ?_
  refine lv_iconst (v := (1 : Int32)) hx hb dX5_signSize_121 (by decide) ?_
  refine lv_iadd hx hb dX5_signSize_122 ?_
  refine lv_iload_n hx hb dX5_signSize_123 rfl (lv_at hl 3 rfl) ?_
  refine lv_iload hx hb dX5_signSize_124 (lv_at hl 4 rfl) ?_
  refine lv_iload hx hb dX5_signSize_126 (lv_at hl 5 rfl) ?_
  obtain ⟨x12, hx12, hf⟩ := bd_some hf
  refine vM (As := [.int (a1 + (1 : Int32)), .int a2, .int a4, .int a5]) (rest := []) G kX5_76 (c_mm_follows hx12) hP hD hS ⟨rfl, rfl, Nat.le_of_ble_eq_true rfl, Nat.le_of_ble_eq_true rfl⟩ ⟨Nat.zero_le _, Nat.zero_le _⟩ rfl hl.1 (Nat.le_of_ble_eq_true rfl) dX5_signSize_128 (fun H locs hP hD hS => ?_)
  refine W.eq (g2 := F0 m 131 ls [.int (bI x12.1)]) rfl ?_
  refine lv_if_ne (tgt := 136) hx hb dX5_signSize_131 (by decide) (fun c13 => ?_) (fun c13 => ?_)
  · have hf := (if_pos (bI_n c13)).symm.trans hf
    refine lv_iconst (v := (2 : Int32)) hx hb dX5_signSize_136 (by decide) ?_
    refine lv_istore (lv' := [(7, .int (2 : Int32)), (6, .int s0), (0, .ref (q 0)), (1, .int a1), (2, .int a2), (4, .int a4), (5, .int a5)]) hx hb dX5_signSize_137 hl (by decide) rfl (fun ls hl => ?_)
    exact W.eq (g2 := F0 m 139 ls []) rfl (mm_signSize_u139 G FU (lv_sub hl [2, 3, 4, 1, 0] rfl) hP hD hS hf)
  · have hf := (if_neg (bI_0 c13)).symm.trans hf
    refine lv_iconst (v := (0 : Int32)) hx hb dX5_signSize_134 (by decide) ?_
    cases hf
    exact ct_iret G rfl hP hD hS dX5_signSize_135
set_option maxHeartbeats 4000000 in
set_option maxRecDepth 100000 in
theorem mm_signSize_t92 {p : Program} {l : Launch} {e : Env} {s : State} {m : MethodId} {args : Array Value} {below : List Frame} {meth : Method} {c : Code} {D : va_G} {aK aV : Nat → Nat} {A : Nat → Prop} {cB cI cJ : ClassId} {q : Nat → Nat} {H : Heap} {locs : List Loc} {ls : Array Slot} {ρ : Int32 × MSt} {a1 : Int32} {a2 : Int32} {a3 : Int32} {a4 : Int32} {s0 : Int32} {σ : MSt} (G : CX p s m args meth c D (gTy cB cI cJ) aK aV A RX5 cX5_signSize 8 (some .int)) (hl : lv_has ls 8 [(0, .ref (q 0)), (1, .int a1), (2, .int a2), (3, .int a3), (4, .int a4)]) (hP : va_P D vwCl (mW cB cI cJ q σ) H) (hD : va_D A (mW cB cI cJ q σ)) (hS : va_S A s.heap H locs) (hf : mm_signSize_b92 a1 a2 a3 a4 s0 σ = some ρ) : W p l e (rm_mm_signSize) s m args below meth c H locs 0 0 (MQ below (cQ D (gTy cB cI cJ) A (mW cB cI cJ q ρ.2) (some (.int ρ.1))) args s 0 0 A) (F0 m 92 ls [.int s0]) := by
  unfold mm_signSize_b92 at hf
  obtain ⟨hx, hb, hml, hown, hT, hrt, hlk, hK, hA, hG, hE⟩ := id G
  refine lv_istore (lv' := [(5, .int s0), (0, .ref (q 0)), (1, .int a1), (2, .int a2), (3, .int a3), (4, .int a4)]) hx hb dX5_signSize_92 hl (by decide) rfl (fun ls hl => ?_)
  refine lv_iload_n hx hb dX5_signSize_94 rfl (lv_at hl 4 rfl) ?_
  refine lv_sipush (v := (224 : Int32)) hx hb dX5_signSize_95 (by decide) ?_
  refine lv_icmp_ge (tgt := 105) hx hb dX5_signSize_98 (by decide) (fun c10 => ?_) (fun c10 => ?_)
  · have hf := (if_pos c10).symm.trans hf
    refine lv_iload_n hx hb dX5_signSize_105 rfl (lv_at hl 4 rfl) ?_
    refine lv_sipush (v := (240 : Int32)) hx hb dX5_signSize_106 (by decide) ?_
    refine lv_icmp_ge (tgt := 116) hx hb dX5_signSize_109 (by decide) (fun c11 => ?_) (fun c11 => ?_)
    · have hf := (if_pos c11).symm.trans hf
      refine lv_iconst (v := (4 : Int32)) hx hb dX5_signSize_116 (by decide) ?_
      exact W.eq (g2 := F0 m 117 ls [.int (4 : Int32)]) rfl (mm_signSize_t117 G (lv_sub hl [1, 2, 3, 5, 0] rfl) hP hD hS hf)
    · have hf := (if_neg c11).symm.trans hf
      refine lv_iconst (v := (3 : Int32)) hx hb dX5_signSize_112 (by decide) ?_
      refine lv_goto (tgt := 117) hx hb dX5_signSize_113 (by decide) ?_
      exact W.eq (g2 := F0 m 117 ls [.int (3 : Int32)]) rfl (mm_signSize_t117 G (lv_sub hl [1, 2, 3, 5, 0] rfl) hP hD hS hf)
  · have hf := (if_neg c10).symm.trans hf
    refine lv_iconst (v := (2 : Int32)) hx hb dX5_signSize_101 (by decide) ?_
    refine lv_goto (tgt := 117) hx hb dX5_signSize_102 (by decide) ?_
    exact W.eq (g2 := F0 m 117 ls [.int (2 : Int32)]) rfl (mm_signSize_t117 G (lv_sub hl [1, 2, 3, 5, 0] rfl) hP hD hS hf)
set_option maxHeartbeats 4000000 in
set_option maxRecDepth 100000 in
theorem mm_signSize_t61 {p : Program} {l : Launch} {e : Env} {s : State} {m : MethodId} {args : Array Value} {below : List Frame} {meth : Method} {c : Code} {D : va_G} {aK aV : Nat → Nat} {A : Nat → Prop} {cB cI cJ : ClassId} {q : Nat → Nat} {H : Heap} {locs : List Loc} {ls : Array Slot} {ρ : Int32 × MSt} {a1 : Int32} {a2 : Int32} {a3 : Int32} {s0 : Int32} {σ : MSt} (G : CX p s m args meth c D (gTy cB cI cJ) aK aV A RX5 cX5_signSize 8 (some .int)) (hl : lv_has ls 8 [(0, .ref (q 0)), (1, .int a1), (2, .int a2), (3, .int a3)]) (hP : va_P D vwCl (mW cB cI cJ q σ) H) (hD : va_D A (mW cB cI cJ q σ)) (hS : va_S A s.heap H locs) (hf : mm_signSize_b61 a1 a2 a3 s0 σ = some ρ) : W p l e (rm_mm_signSize) s m args below meth c H locs 0 0 (MQ below (cQ D (gTy cB cI cJ) A (mW cB cI cJ q ρ.2) (some (.int ρ.1))) args s 0 0 A) (F0 m 61 ls [.int s0]) := by
  unfold mm_signSize_b61 at hf
  obtain ⟨hx, hb, hml, hown, hT, hrt, hlk, hK, hA, hG, hE⟩ := id G
  refine lv_istore (lv' := [(4, .int s0), (0, .ref (q 0)), (1, .int a1), (2, .int a2), (3, .int a3)]) hx hb dX5_signSize_61 hl (by decide) rfl (fun ls hl => ?_)
  refine lv_iload_n hx hb dX5_signSize_63 rfl (lv_at hl 4 rfl) ?_
  refine lv_sipush (v := (237 : Int32)) hx hb dX5_signSize_64 (by decide) ?_
  refine lv_icmp_ne (tgt := 76) hx hb dX5_signSize_67 (by decide) (fun c8 => ?_) (fun c8 => ?_)
  · have hf := (if_neg c8).symm.trans hf
    refine lv_iload_n hx hb dX5_signSize_76 rfl (lv_at hl 4 rfl) ?_
    refine lv_sipush (v := (244 : Int32)) hx hb dX5_signSize_77 (by decide) ?_
    refine lv_icmp_ne (tgt := 89) hx hb dX5_signSize_80 (by decide) (fun c9 => ?_) (fun c9 => ?_)
    · have hf := (if_neg c9).symm.trans hf
      refine lv_sipush (v := (191 : Int32)) hx hb dX5_signSize_89 (by decide) ?_
      exact W.eq (g2 := F0 m 92 ls [.int (191 : Int32)]) rfl (mm_signSize_t92 G (lv_sub hl [1, 2, 3, 4, 0] rfl) hP hD hS hf)
    · have hf := (if_pos c9).symm.trans hf
      refine lv_sipush (v := (143 : Int32)) hx hb dX5_signSize_83 (by decide) ?_
      refine lv_goto (tgt := 92) hx hb dX5_signSize_86 (by decide) ?_
      exact W.eq (g2 := F0 m 92 ls [.int (143 : Int32)]) rfl (mm_signSize_t92 G (lv_sub hl [1, 2, 3, 4, 0] rfl) hP hD hS hf)
  · have hf := (if_pos c8).symm.trans hf
    refine lv_sipush (v := (159 : Int32)) hx hb dX5_signSize_70 (by decide) ?_
    refine lv_goto (tgt := 92) hx hb dX5_signSize_73 (by decide) ?_
    exact W.eq (g2 := F0 m 92 ls [.int (159 : Int32)]) rfl (mm_signSize_t92 G (lv_sub hl [1, 2, 3, 4, 0] rfl) hP hD hS hf)
set_option maxHeartbeats 4000000 in
set_option maxRecDepth 100000 in
theorem mm_signSize_t0e {p : Program} {l : Launch} {e : Env} {s : State} {m : MethodId} {args : Array Value} {below : List Frame} {meth : Method} {c : Code} {D : va_G} {aK aV : Nat → Nat} {A : Nat → Prop} {cB cI cJ : ClassId} {q : Nat → Nat} {H : Heap} {locs : List Loc} {ls : Array Slot} {ρ : Int32 × MSt} {p0 : Int32} {p1 : Int32} {σ : MSt} (G : CX p s m args meth c D (gTy cB cI cJ) aK aV A RX5 cX5_signSize 8 (some .int)) (hl : lv_has ls 8 [(0, .ref (q 0)), (1, .int p0), (2, .int p1)]) (hP : va_P D vwCl (mW cB cI cJ q σ) H) (hD : va_D A (mW cB cI cJ q σ)) (hS : va_S A s.heap H locs) (hf : mm_signSize p0 p1 σ = some ρ) : W p l e (rm_mm_signSize) s m args below meth c H locs 0 0 (MQ below (cQ D (gTy cB cI cJ) A (mW cB cI cJ q ρ.2) (some (.int ρ.1))) args s 0 0 A) (F0 m 0 ls []) := by
  unfold mm_signSize at hf
  obtain ⟨hx, hb, hml, hown, hT, hrt, hlk, hK, hA, hG, hE⟩ := id G
  refine lv_aload_n hx hb dX5_signSize_0 rfl (lv_at hl 0 rfl) ?_
  refine gm_X5_tape G hP dX5_signSize_1 ?_
  refine lv_iload_n hx hb dX5_signSize_4 rfl (lv_at hl 1 rfl) ?_
  obtain ⟨hi1, hf⟩ := ck_some hf
  refine lm_tape (f := (mf_tape σ)) G hP hi1 dX5_signSize_5 rfl ?_
  refine lv_topi (fun v2 ev2 => ?_)
  have hf := lt_eq hf ev2
  refine lv_istore_n (lv' := [(3, .int v2), (0, .ref (q 0)), (1, .int p0), (2, .int p1)]) hx hb dX5_signSize_6 rfl hl (by decide) rfl (fun ls hl => ?_)
  refine lv_iload_n hx hb dX5_signSize_7 rfl (lv_at hl 0 rfl) ?_
  refine lv_sipush (v := (128 : Int32)) hx hb dX5_signSize_8 (by decide) ?_
  refine lv_icmp_ge (tgt := 16) hx hb dX5_signSize_11 (by decide) (fun c3 => ?_) (fun c3 => ?_)
  · have hf := (if_pos c3).symm.trans hf
    refine lv_iload_n hx hb dX5_signSize_16 rfl (lv_at hl 0 rfl) ?_
    refine lv_sipush (v := (194 : Int32)) hx hb dX5_signSize_17 (by decide) ?_
    refine lv_icmp_lt (tgt := 30) hx hb dX5_signSize_20 (by decide) (fun c4 => ?_) (fun c4 => ?_)
    · have hf := (if_pos c4).symm.trans hf
      refine lv_iconst (v := (0 : Int32)) hx hb dX5_signSize_30 (by decide) ?_
      cases hf
      exact ct_iret G rfl hP hD hS dX5_signSize_31
    · have hf := (if_neg c4).symm.trans hf
      refine lv_iload_n hx hb dX5_signSize_23 rfl (lv_at hl 0 rfl) ?_
      refine lv_sipush (v := (244 : Int32)) hx hb dX5_signSize_24 (by decide) ?_
      refine lv_icmp_le (tgt := 32) hx hb dX5_signSize_27 (by decide) (fun c5 => ?_) (fun c5 => ?_)
      · have hf := (if_pos c5).symm.trans hf
        refine lv_iload_n hx hb dX5_signSize_32 rfl (lv_at hl 0 rfl) ?_
        refine lv_sipush (v := (224 : Int32)) hx hb dX5_signSize_33 (by decide) ?_
        refine lv_icmp_ne (tgt := 45) hx hb dX5_signSize_36 (by decide) (fun c6 => ?_) (fun c6 => ?_)
        · have hf := (if_neg c6).symm.trans hf
          refine lv_iload_n hx hb dX5_signSize_45 rfl (lv_at hl 0 rfl) ?_
          refine lv_sipush (v := (240 : Int32)) hx hb dX5_signSize_46 (by decide) ?_
          refine lv_icmp_ne (tgt := 58) hx hb dX5_signSize_49 (by decide) (fun c7 => ?_) (fun c7 => ?_)
          · have hf := (if_neg c7).symm.trans hf
            refine lv_sipush (v := (128 : Int32)) hx hb dX5_signSize_58 (by decide) ?_
            exact W.eq (g2 := F0 m 61 ls [.int (128 : Int32)]) rfl (mm_signSize_t61 G (lv_sub hl [1, 2, 3, 0] rfl) hP hD hS hf)
          · have hf := (if_pos c7).symm.trans hf
            refine lv_sipush (v := (144 : Int32)) hx hb dX5_signSize_52 (by decide) ?_
            refine lv_goto (tgt := 61) hx hb dX5_signSize_55 (by decide) ?_
            exact W.eq (g2 := F0 m 61 ls [.int (144 : Int32)]) rfl (mm_signSize_t61 G (lv_sub hl [1, 2, 3, 0] rfl) hP hD hS hf)
        · have hf := (if_pos c6).symm.trans hf
          refine lv_sipush (v := (160 : Int32)) hx hb dX5_signSize_39 (by decide) ?_
          refine lv_goto (tgt := 61) hx hb dX5_signSize_42 (by decide) ?_
          exact W.eq (g2 := F0 m 61 ls [.int (160 : Int32)]) rfl (mm_signSize_t61 G (lv_sub hl [1, 2, 3, 0] rfl) hP hD hS hf)
      · have hf := (if_neg c5).symm.trans hf
        refine lv_iconst (v := (0 : Int32)) hx hb dX5_signSize_30 (by decide) ?_
        cases hf
        exact ct_iret G rfl hP hD hS dX5_signSize_31
  · have hf := (if_neg c3).symm.trans hf
    refine lv_iconst (v := (1 : Int32)) hx hb dX5_signSize_14 (by decide) ?_
    cases hf
    exact ct_iret G rfl hP hD hS dX5_signSize_15
set_option maxHeartbeats 4000000 in
set_option maxRecDepth 100000 in
theorem c_mm_signSize {l : Launch} {D : va_G} {aK aV : Nat → Nat} {cB cI cJ : ClassId} {q : Nat → Nat} {ρ : Int32 × MSt} {p0 : Int32} {p1 : Int32} {σ : MSt} (hf : mm_signSize p0 p1 σ = some ρ) : CT l D (gTy cB cI cJ) aK aV yX5_signSize (wM yX5_signSize cX5_signSize 8 (some .int)) (rm_mm_signSize) 0 0 [.ref (q 0), .int p0, .int p1] (mW cB cI cJ q σ) (some (.int ρ.1)) (mW cB cI cJ q ρ.2) := by
  refine CT.of (by decide) rfl ?_
  intro p e s m below meth c A G hnm hP hD hS
  have hl := lv_entry [.ref (q 0), .int p0, .int p1] (n := 8) (Nat.le_of_ble_eq_true rfl)
  rw [lg_entry_eq]
  generalize (lg_sl [.ref (q 0), .int p0, .int p1] ++ List.replicate (8 - (lg_sl [.ref (q 0), .int p0, .int p1]).length) Slot.unset).toArray = ls at hl ⊢
  exact mm_signSize_t0e G hl hP hD hS hf
def mm_letter (p0 : Int32) (σ : MSt) : Option (MSt) := ck (mf_lettersMany σ) 8200 (some (ms_lettersMany (ms_letters σ (upd (mf_letters σ) ((mf_lettersMany σ)).toNatClampNeg (vp_nar .byte ((Int32.toInt8 p0).toInt32)))) ((mf_lettersMany σ) + (1 : Int32))))
abbrev rm_mm_letter : Room := { frames := 0, cells := 0, slots := 0, locals := 0 }
set_option maxHeartbeats 4000000 in
set_option maxRecDepth 100000 in
theorem mm_letter_t0e {p : Program} {l : Launch} {e : Env} {s : State} {m : MethodId} {args : Array Value} {below : List Frame} {meth : Method} {c : Code} {D : va_G} {aK aV : Nat → Nat} {A : Nat → Prop} {cB cI cJ : ClassId} {q : Nat → Nat} {H : Heap} {locs : List Loc} {ls : Array Slot} {ρ : MSt} {p0 : Int32} {σ : MSt} (G : CX p s m args meth c D (gTy cB cI cJ) aK aV A RX5 cX5_letter 2 none) (hl : lv_has ls 2 [(0, .ref (q 0)), (1, .int p0)]) (hP : va_P D vwCl (mW cB cI cJ q σ) H) (hD : va_D A (mW cB cI cJ q σ)) (hS : va_S A s.heap H locs) (hf : mm_letter p0 σ = some ρ) : W p l e (rm_mm_letter) s m args below meth c H locs 0 0 (MQ below (cQ D (gTy cB cI cJ) A (mW cB cI cJ q ρ) none) args s 0 0 A) (F0 m 0 ls []) := by
  unfold mm_letter at hf
  obtain ⟨hx, hb, hml, hown, hT, hrt, hlk, hK, hA, hG, hE⟩ := id G
  refine lv_aload_n hx hb dX5_letter_0 rfl (lv_at hl 0 rfl) ?_
  refine gm_X5_letters G hP dX5_letter_1 ?_
  refine lv_aload_n hx hb dX5_letter_4 rfl (lv_at hl 0 rfl) ?_
  refine gm_X5_lettersMany (v := (mf_lettersMany σ)) G hP dX5_letter_5 rfl ?_
  refine lv_iload_n hx hb dX5_letter_8 rfl (lv_at hl 1 rfl) ?_
  refine lv_i2b (v := ((Int32.toInt8 p0).toInt32)) hx hb dX5_letter_9 rfl ?_
  obtain ⟨hi1, hf⟩ := ck_some hf
  refine sm_letters (f := (mf_letters σ)) G hP hD hS hi1 dX5_letter_10 rfl (fun H locs hP hD hS => ?_)
  refine lv_aload_n hx hb dX5_letter_11 rfl (lv_at hl 0 rfl) ?_
  refine lv_dup hx hb dX5_letter_12 rfl ?_
  refine gm_X5_lettersMany (v := (mf_lettersMany σ)) G hP dX5_letter_13 (mG_lettersMany_letters _ _) ?_
  refine lv_iconst (v := (1 : Int32)) hx hb dX5_letter_16 (by decide) ?_
  refine lv_iadd hx hb dX5_letter_17 ?_
  refine pm_X5_lettersMany (v := ((mf_lettersMany σ) + (1 : Int32))) G hP hD hS dX5_letter_18 (fun H locs hP hD hS => ?_)
  cases hf
  exact ct_vret G hP hD hS dX5_letter_21
set_option maxHeartbeats 4000000 in
set_option maxRecDepth 100000 in
theorem c_mm_letter {l : Launch} {D : va_G} {aK aV : Nat → Nat} {cB cI cJ : ClassId} {q : Nat → Nat} {ρ : MSt} {p0 : Int32} {σ : MSt} (hf : mm_letter p0 σ = some ρ) : CT l D (gTy cB cI cJ) aK aV yX5_letter (wM yX5_letter cX5_letter 2 none) (rm_mm_letter) 0 0 [.ref (q 0), .int p0] (mW cB cI cJ q σ) none (mW cB cI cJ q ρ) := by
  refine CT.of (by decide) rfl ?_
  intro p e s m below meth c A G hnm hP hD hS
  have hl := lv_entry [.ref (q 0), .int p0] (n := 2) (Nat.le_of_ble_eq_true rfl)
  rw [lg_entry_eq]
  generalize (lg_sl [.ref (q 0), .int p0] ++ List.replicate (2 - (lg_sl [.ref (q 0), .int p0]).length) Slot.unset).toArray = ls at hl ⊢
  exact mm_letter_t0e G hl hP hD hS hf
def mm_sign (p0 : Int32) (σ : MSt) : Option (MSt) := (if (128 : Int32) ≤ p0 then (if (2048 : Int32) ≤ p0 then (if (65536 : Int32) ≤ p0 then bd (mm_letter ((240 : Int32) + (p0 / (262144 : Int32))) σ) (fun (x4 : MSt) => bd (mm_letter ((128 : Int32) + ((p0 / (4096 : Int32)) - (p0 / (4096 : Int32)) / (64 : Int32) * (64 : Int32))) x4) (fun (x5 : MSt) => bd (mm_letter ((128 : Int32) + ((p0 / (64 : Int32)) - (p0 / (64 : Int32)) / (64 : Int32) * (64 : Int32))) x5) (fun (x6 : MSt) => bd (mm_letter ((128 : Int32) + (p0 - p0 / (64 : Int32) * (64 : Int32))) x6) (fun (x7 : MSt) => some x7)))) else bd (mm_letter ((224 : Int32) + (p0 / (4096 : Int32))) σ) (fun (x8 : MSt) => bd (mm_letter ((128 : Int32) + ((p0 / (64 : Int32)) - (p0 / (64 : Int32)) / (64 : Int32) * (64 : Int32))) x8) (fun (x9 : MSt) => bd (mm_letter ((128 : Int32) + (p0 - p0 / (64 : Int32) * (64 : Int32))) x9) (fun (x10 : MSt) => some x10)))) else bd (mm_letter ((192 : Int32) + (p0 / (64 : Int32))) σ) (fun (x11 : MSt) => bd (mm_letter ((128 : Int32) + (p0 - p0 / (64 : Int32) * (64 : Int32))) x11) (fun (x12 : MSt) => some x12))) else bd (mm_letter p0 σ) (fun (x13 : MSt) => some x13))
abbrev rm_mm_sign : Room := { frames := 1, cells := 0, slots := 0, locals := 21 }
set_option maxHeartbeats 4000000 in
set_option maxRecDepth 100000 in
theorem mm_sign_t0e {p : Program} {l : Launch} {e : Env} {s : State} {m : MethodId} {args : Array Value} {below : List Frame} {meth : Method} {c : Code} {D : va_G} {aK aV : Nat → Nat} {A : Nat → Prop} {cB cI cJ : ClassId} {q : Nat → Nat} {H : Heap} {locs : List Loc} {ls : Array Slot} {ρ : MSt} {p0 : Int32} {σ : MSt} (G : CX p s m args meth c D (gTy cB cI cJ) aK aV A RX5 cX5_sign 2 none) (hl : lv_has ls 2 [(0, .ref (q 0)), (1, .int p0)]) (hP : va_P D vwCl (mW cB cI cJ q σ) H) (hD : va_D A (mW cB cI cJ q σ)) (hS : va_S A s.heap H locs) (hf : mm_sign p0 σ = some ρ) : W p l e (rm_mm_sign) s m args below meth c H locs 0 0 (MQ below (cQ D (gTy cB cI cJ) A (mW cB cI cJ q ρ) none) args s 0 0 A) (F0 m 0 ls []) := by
  unfold mm_sign at hf
  obtain ⟨hx, hb, hml, hown, hT, hrt, hlk, hK, hA, hG, hE⟩ := id G
  refine lv_iload_n hx hb dX5_sign_0 rfl (lv_at hl 1 rfl) ?_
  refine lv_sipush (v := (128 : Int32)) hx hb dX5_sign_1 (by decide) ?_
  refine lv_icmp_ge (tgt := 15) hx hb dX5_sign_4 (by decide) (fun c1 => ?_) (fun c1 => ?_)
  · have hf := (if_pos c1).symm.trans hf
    refine lv_iload_n hx hb dX5_sign_15 rfl (lv_at hl 1 rfl) ?_
    refine lv_sipush (v := (2048 : Int32)) hx hb dX5_sign_16 (by decide) ?_
    refine lv_icmp_ge (tgt := 49) hx hb dX5_sign_19 (by decide) (fun c2 => ?_) (fun c2 => ?_)
    · have hf := (if_pos c2).symm.trans hf
      refine lv_iload_n hx hb dX5_sign_49 rfl (lv_at hl 1 rfl) ?_
      refine lv_ldc (v := (65536 : Int32)) hx hb hown (hT _ wc_X5_84) dX5_sign_50 ?_
      refine lv_icmp_ge (tgt := 98) hx hb dX5_sign_52 (by decide) (fun c3 => ?_) (fun c3 => ?_)
      · have hf := (if_pos c3).symm.trans hf
        refine lv_aload_n hx hb dX5_sign_98 rfl (lv_at hl 0 rfl) ?_
        refine lv_sipush (v := (240 : Int32)) hx hb dX5_sign_99 (by decide) ?_
        refine lv_iload_n hx hb dX5_sign_102 rfl (lv_at hl 1 rfl) ?_
        refine lv_ldc (v := (262144 : Int32)) hx hb hown (hT _ wc_X5_85) dX5_sign_103 ?_
        refine lv_idiv hx hb dX5_sign_105 (by decide) ?_
        refine lv_iadd hx hb dX5_sign_106 ?_
        obtain ⟨x4, hx4, hf⟩ := bd_some hf
        refine vM (As := [.int ((240 : Int32) + (p0 / (262144 : Int32)))]) (rest := []) G kX5_80 (c_mm_letter hx4) hP hD hS ⟨rfl, rfl, Nat.le_of_ble_eq_true rfl, Nat.le_of_ble_eq_true rfl⟩ ⟨Nat.zero_le _, Nat.zero_le _⟩ rfl hl.1 (Nat.le_of_ble_eq_true rfl) dX5_sign_107 (fun H locs hP hD hS => ?_)
        refine W.eq (g2 := F0 m 110 ls []) rfl ?_
        refine lv_aload_n hx hb dX5_sign_110 rfl (lv_at hl 0 rfl) ?_
        refine lv_sipush (v := (128 : Int32)) hx hb dX5_sign_111 (by decide) ?_
        refine lv_iload_n hx hb dX5_sign_114 rfl (lv_at hl 1 rfl) ?_
        refine lv_sipush (v := (4096 : Int32)) hx hb dX5_sign_115 (by decide) ?_
        refine lv_idiv hx hb dX5_sign_118 (by decide) ?_
        refine lv_bipush (v := (64 : Int32)) hx hb dX5_sign_119 (by decide) ?_
        refine lv_irem hx hb dX5_sign_121 (by decide) ?_
        refine lv_iadd hx hb dX5_sign_122 ?_
        obtain ⟨x5, hx5, hf⟩ := bd_some hf
        refine vM (As := [.int ((128 : Int32) + ((p0 / (4096 : Int32)) - (p0 / (4096 : Int32)) / (64 : Int32) * (64 : Int32)))]) (rest := []) G kX5_80 (c_mm_letter hx5) hP hD hS ⟨rfl, rfl, Nat.le_of_ble_eq_true rfl, Nat.le_of_ble_eq_true rfl⟩ ⟨Nat.zero_le _, Nat.zero_le _⟩ rfl hl.1 (Nat.le_of_ble_eq_true rfl) dX5_sign_123 (fun H locs hP hD hS => ?_)
        refine W.eq (g2 := F0 m 126 ls []) rfl ?_
        refine lv_aload_n hx hb dX5_sign_126 rfl (lv_at hl 0 rfl) ?_
        refine lv_sipush (v := (128 : Int32)) hx hb dX5_sign_127 (by decide) ?_
        refine lv_iload_n hx hb dX5_sign_130 rfl (lv_at hl 1 rfl) ?_
        refine lv_bipush (v := (64 : Int32)) hx hb dX5_sign_131 (by decide) ?_
        refine lv_idiv hx hb dX5_sign_133 (by decide) ?_
        refine lv_bipush (v := (64 : Int32)) hx hb dX5_sign_134 (by decide) ?_
        refine lv_irem hx hb dX5_sign_136 (by decide) ?_
        refine lv_iadd hx hb dX5_sign_137 ?_
        obtain ⟨x6, hx6, hf⟩ := bd_some hf
        refine vM (As := [.int ((128 : Int32) + ((p0 / (64 : Int32)) - (p0 / (64 : Int32)) / (64 : Int32) * (64 : Int32)))]) (rest := []) G kX5_80 (c_mm_letter hx6) hP hD hS ⟨rfl, rfl, Nat.le_of_ble_eq_true rfl, Nat.le_of_ble_eq_true rfl⟩ ⟨Nat.zero_le _, Nat.zero_le _⟩ rfl hl.1 (Nat.le_of_ble_eq_true rfl) dX5_sign_138 (fun H locs hP hD hS => ?_)
        refine W.eq (g2 := F0 m 141 ls []) rfl ?_
        refine lv_aload_n hx hb dX5_sign_141 rfl (lv_at hl 0 rfl) ?_
        refine lv_sipush (v := (128 : Int32)) hx hb dX5_sign_142 (by decide) ?_
        refine lv_iload_n hx hb dX5_sign_145 rfl (lv_at hl 1 rfl) ?_
        refine lv_bipush (v := (64 : Int32)) hx hb dX5_sign_146 (by decide) ?_
        refine lv_irem hx hb dX5_sign_148 (by decide) ?_
        refine lv_iadd hx hb dX5_sign_149 ?_
        obtain ⟨x7, hx7, hf⟩ := bd_some hf
        refine vM (As := [.int ((128 : Int32) + (p0 - p0 / (64 : Int32) * (64 : Int32)))]) (rest := []) G kX5_80 (c_mm_letter hx7) hP hD hS ⟨rfl, rfl, Nat.le_of_ble_eq_true rfl, Nat.le_of_ble_eq_true rfl⟩ ⟨Nat.zero_le _, Nat.zero_le _⟩ rfl hl.1 (Nat.le_of_ble_eq_true rfl) dX5_sign_150 (fun H locs hP hD hS => ?_)
        refine W.eq (g2 := F0 m 153 ls []) rfl ?_
        cases hf
        exact ct_vret G hP hD hS dX5_sign_153
      · have hf := (if_neg c3).symm.trans hf
        refine lv_aload_n hx hb dX5_sign_55 rfl (lv_at hl 0 rfl) ?_
        refine lv_sipush (v := (224 : Int32)) hx hb dX5_sign_56 (by decide) ?_
        refine lv_iload_n hx hb dX5_sign_59 rfl (lv_at hl 1 rfl) ?_
        refine lv_sipush (v := (4096 : Int32)) hx hb dX5_sign_60 (by decide) ?_
        refine lv_idiv hx hb dX5_sign_63 (by decide) ?_
        refine lv_iadd hx hb dX5_sign_64 ?_
        obtain ⟨x8, hx8, hf⟩ := bd_some hf
        refine vM (As := [.int ((224 : Int32) + (p0 / (4096 : Int32)))]) (rest := []) G kX5_80 (c_mm_letter hx8) hP hD hS ⟨rfl, rfl, Nat.le_of_ble_eq_true rfl, Nat.le_of_ble_eq_true rfl⟩ ⟨Nat.zero_le _, Nat.zero_le _⟩ rfl hl.1 (Nat.le_of_ble_eq_true rfl) dX5_sign_65 (fun H locs hP hD hS => ?_)
        refine W.eq (g2 := F0 m 68 ls []) rfl ?_
        refine lv_aload_n hx hb dX5_sign_68 rfl (lv_at hl 0 rfl) ?_
        refine lv_sipush (v := (128 : Int32)) hx hb dX5_sign_69 (by decide) ?_
        refine lv_iload_n hx hb dX5_sign_72 rfl (lv_at hl 1 rfl) ?_
        refine lv_bipush (v := (64 : Int32)) hx hb dX5_sign_73 (by decide) ?_
        refine lv_idiv hx hb dX5_sign_75 (by decide) ?_
        refine lv_bipush (v := (64 : Int32)) hx hb dX5_sign_76 (by decide) ?_
        refine lv_irem hx hb dX5_sign_78 (by decide) ?_
        refine lv_iadd hx hb dX5_sign_79 ?_
        obtain ⟨x9, hx9, hf⟩ := bd_some hf
        refine vM (As := [.int ((128 : Int32) + ((p0 / (64 : Int32)) - (p0 / (64 : Int32)) / (64 : Int32) * (64 : Int32)))]) (rest := []) G kX5_80 (c_mm_letter hx9) hP hD hS ⟨rfl, rfl, Nat.le_of_ble_eq_true rfl, Nat.le_of_ble_eq_true rfl⟩ ⟨Nat.zero_le _, Nat.zero_le _⟩ rfl hl.1 (Nat.le_of_ble_eq_true rfl) dX5_sign_80 (fun H locs hP hD hS => ?_)
        refine W.eq (g2 := F0 m 83 ls []) rfl ?_
        refine lv_aload_n hx hb dX5_sign_83 rfl (lv_at hl 0 rfl) ?_
        refine lv_sipush (v := (128 : Int32)) hx hb dX5_sign_84 (by decide) ?_
        refine lv_iload_n hx hb dX5_sign_87 rfl (lv_at hl 1 rfl) ?_
        refine lv_bipush (v := (64 : Int32)) hx hb dX5_sign_88 (by decide) ?_
        refine lv_irem hx hb dX5_sign_90 (by decide) ?_
        refine lv_iadd hx hb dX5_sign_91 ?_
        obtain ⟨x10, hx10, hf⟩ := bd_some hf
        refine vM (As := [.int ((128 : Int32) + (p0 - p0 / (64 : Int32) * (64 : Int32)))]) (rest := []) G kX5_80 (c_mm_letter hx10) hP hD hS ⟨rfl, rfl, Nat.le_of_ble_eq_true rfl, Nat.le_of_ble_eq_true rfl⟩ ⟨Nat.zero_le _, Nat.zero_le _⟩ rfl hl.1 (Nat.le_of_ble_eq_true rfl) dX5_sign_92 (fun H locs hP hD hS => ?_)
        refine W.eq (g2 := F0 m 95 ls []) rfl ?_
        refine lv_goto (tgt := 153) hx hb dX5_sign_95 (by decide) ?_
        cases hf
        exact ct_vret G hP hD hS dX5_sign_153
    · have hf := (if_neg c2).symm.trans hf
      refine lv_aload_n hx hb dX5_sign_22 rfl (lv_at hl 0 rfl) ?_
      refine lv_sipush (v := (192 : Int32)) hx hb dX5_sign_23 (by decide) ?_
      refine lv_iload_n hx hb dX5_sign_26 rfl (lv_at hl 1 rfl) ?_
      refine lv_bipush (v := (64 : Int32)) hx hb dX5_sign_27 (by decide) ?_
      refine lv_idiv hx hb dX5_sign_29 (by decide) ?_
      refine lv_iadd hx hb dX5_sign_30 ?_
      obtain ⟨x11, hx11, hf⟩ := bd_some hf
      refine vM (As := [.int ((192 : Int32) + (p0 / (64 : Int32)))]) (rest := []) G kX5_80 (c_mm_letter hx11) hP hD hS ⟨rfl, rfl, Nat.le_of_ble_eq_true rfl, Nat.le_of_ble_eq_true rfl⟩ ⟨Nat.zero_le _, Nat.zero_le _⟩ rfl hl.1 (Nat.le_of_ble_eq_true rfl) dX5_sign_31 (fun H locs hP hD hS => ?_)
      refine W.eq (g2 := F0 m 34 ls []) rfl ?_
      refine lv_aload_n hx hb dX5_sign_34 rfl (lv_at hl 0 rfl) ?_
      refine lv_sipush (v := (128 : Int32)) hx hb dX5_sign_35 (by decide) ?_
      refine lv_iload_n hx hb dX5_sign_38 rfl (lv_at hl 1 rfl) ?_
      refine lv_bipush (v := (64 : Int32)) hx hb dX5_sign_39 (by decide) ?_
      refine lv_irem hx hb dX5_sign_41 (by decide) ?_
      refine lv_iadd hx hb dX5_sign_42 ?_
      obtain ⟨x12, hx12, hf⟩ := bd_some hf
      refine vM (As := [.int ((128 : Int32) + (p0 - p0 / (64 : Int32) * (64 : Int32)))]) (rest := []) G kX5_80 (c_mm_letter hx12) hP hD hS ⟨rfl, rfl, Nat.le_of_ble_eq_true rfl, Nat.le_of_ble_eq_true rfl⟩ ⟨Nat.zero_le _, Nat.zero_le _⟩ rfl hl.1 (Nat.le_of_ble_eq_true rfl) dX5_sign_43 (fun H locs hP hD hS => ?_)
      refine W.eq (g2 := F0 m 46 ls []) rfl ?_
      refine lv_goto (tgt := 153) hx hb dX5_sign_46 (by decide) ?_
      cases hf
      exact ct_vret G hP hD hS dX5_sign_153
  · have hf := (if_neg c1).symm.trans hf
    refine lv_aload_n hx hb dX5_sign_7 rfl (lv_at hl 0 rfl) ?_
    refine lv_iload_n hx hb dX5_sign_8 rfl (lv_at hl 1 rfl) ?_
    obtain ⟨x13, hx13, hf⟩ := bd_some hf
    refine vM (As := [.int p0]) (rest := []) G kX5_80 (c_mm_letter hx13) hP hD hS ⟨rfl, rfl, Nat.le_of_ble_eq_true rfl, Nat.le_of_ble_eq_true rfl⟩ ⟨Nat.zero_le _, Nat.zero_le _⟩ rfl hl.1 (Nat.le_of_ble_eq_true rfl) dX5_sign_9 (fun H locs hP hD hS => ?_)
    refine W.eq (g2 := F0 m 12 ls []) rfl ?_
    refine lv_goto (tgt := 153) hx hb dX5_sign_12 (by decide) ?_
    cases hf
    exact ct_vret G hP hD hS dX5_sign_153
set_option maxHeartbeats 4000000 in
set_option maxRecDepth 100000 in
theorem c_mm_sign {l : Launch} {D : va_G} {aK aV : Nat → Nat} {cB cI cJ : ClassId} {q : Nat → Nat} {ρ : MSt} {p0 : Int32} {σ : MSt} (hf : mm_sign p0 σ = some ρ) : CT l D (gTy cB cI cJ) aK aV yX5_sign (wM yX5_sign cX5_sign 2 none) (rm_mm_sign) 0 0 [.ref (q 0), .int p0] (mW cB cI cJ q σ) none (mW cB cI cJ q ρ) := by
  refine CT.of (by decide) rfl ?_
  intro p e s m below meth c A G hnm hP hD hS
  have hl := lv_entry [.ref (q 0), .int p0] (n := 2) (Nat.le_of_ble_eq_true rfl)
  rw [lg_entry_eq]
  generalize (lg_sl [.ref (q 0), .int p0] ++ List.replicate (2 - (lg_sl [.ref (q 0), .int p0]).length) Slot.unset).toArray = ls at hl ⊢
  exact mm_sign_t0e G hl hP hD hS hf
def mm_blanks_b36 (k0 : MSt → Option (MSt)) (σ : MSt) : Option (MSt) := k0  (ms_at σ ((mf_at σ) + (1 : Int32)))
def mm_blanks_b0 (k0 : MSt → Option (MSt)) (σ : MSt) : Option (MSt) := bd (mm_here  σ) (fun (x1 : Int32 × MSt) => (if x1.1 = (9 : Int32) then mm_blanks_b36 k0  x1.2 else bd (mm_here  x1.2) (fun (x3 : Int32 × MSt) => (if x3.1 = (10 : Int32) then mm_blanks_b36 k0  x3.2 else bd (mm_here  x3.2) (fun (x5 : Int32 × MSt) => (if x5.1 = (13 : Int32) then mm_blanks_b36 k0  x5.2 else bd (mm_here  x5.2) (fun (x7 : Int32 × MSt) => (if x7.1 = (32 : Int32) then mm_blanks_b36 k0  x7.2 else some x7.2))))))))
def mm_blanks_L0 : Nat → MSt → Option (MSt)
  | 0, _ => none
  | n + 1, σ => mm_blanks_b0 (mm_blanks_L0 n) σ
def mm_blanks (σ : MSt) : Option (MSt) := mm_blanks_L0 FU  σ
abbrev rm_mm_blanks : Room := { frames := 1, cells := 0, slots := 0, locals := 20 }
set_option maxHeartbeats 4000000 in
set_option maxRecDepth 100000 in
theorem mm_blanks_t36 {p : Program} {l : Launch} {e : Env} {s : State} {m : MethodId} {args : Array Value} {below : List Frame} {meth : Method} {c : Code} {D : va_G} {aK aV : Nat → Nat} {A : Nat → Prop} {cB cI cJ : ClassId} {q : Nat → Nat} {H : Heap} {locs : List Loc} {ls : Array Slot} {ρ : MSt} {k0 : MSt → Option (MSt)} {σ : MSt} (G : CX p s m args meth c D (gTy cB cI cJ) aK aV A RX5 cX5_blanks 1 none) (hk0 : ∀  (σ : MSt) (H : Heap) (locs : List Loc) (ls : Array Slot), lv_has ls 1 [(0, .ref (q 0))] → va_P D vwCl (mW cB cI cJ q σ) H → va_D A (mW cB cI cJ q σ) → va_S A s.heap H locs → k0  σ = some ρ → W p l e (rm_mm_blanks) s m args below meth c H locs 0 0 (MQ below (cQ D (gTy cB cI cJ) A (mW cB cI cJ q ρ) none) args s 0 0 A) (F0 m 0 ls [])) (hl : lv_has ls 1 [(0, .ref (q 0))]) (hP : va_P D vwCl (mW cB cI cJ q σ) H) (hD : va_D A (mW cB cI cJ q σ)) (hS : va_S A s.heap H locs) (hf : mm_blanks_b36 k0 σ = some ρ) : W p l e (rm_mm_blanks) s m args below meth c H locs 0 0 (MQ below (cQ D (gTy cB cI cJ) A (mW cB cI cJ q ρ) none) args s 0 0 A) (F0 m 36 ls []) := by
  unfold mm_blanks_b36 at hf
  obtain ⟨hx, hb, hml, hown, hT, hrt, hlk, hK, hA, hG, hE⟩ := id G
  refine lv_aload_n hx hb dX5_blanks_36 rfl (lv_at hl 0 rfl) ?_
  refine lv_dup hx hb dX5_blanks_37 rfl ?_
  refine gm_X5_at (v := (mf_at σ)) G hP dX5_blanks_38 rfl ?_
  refine lv_iconst (v := (1 : Int32)) hx hb dX5_blanks_41 (by decide) ?_
  refine lv_iadd hx hb dX5_blanks_42 ?_
  refine pm_X5_at (v := ((mf_at σ) + (1 : Int32))) G hP hD hS dX5_blanks_43 (fun H locs hP hD hS => ?_)
  refine lv_goto (tgt := 0) hx hb dX5_blanks_46 (by decide) ?_
  exact W.eq (g2 := F0 m 0 ls []) rfl (hk0  _ _ _ _ (lv_sub hl [0] rfl) hP hD hS hf)
set_option maxHeartbeats 4000000 in
set_option maxRecDepth 100000 in
theorem mm_blanks_t0 {p : Program} {l : Launch} {e : Env} {s : State} {m : MethodId} {args : Array Value} {below : List Frame} {meth : Method} {c : Code} {D : va_G} {aK aV : Nat → Nat} {A : Nat → Prop} {cB cI cJ : ClassId} {q : Nat → Nat} {H : Heap} {locs : List Loc} {ls : Array Slot} {ρ : MSt} {k0 : MSt → Option (MSt)} {σ : MSt} (G : CX p s m args meth c D (gTy cB cI cJ) aK aV A RX5 cX5_blanks 1 none) (hk0 : ∀  (σ : MSt) (H : Heap) (locs : List Loc) (ls : Array Slot), lv_has ls 1 [(0, .ref (q 0))] → va_P D vwCl (mW cB cI cJ q σ) H → va_D A (mW cB cI cJ q σ) → va_S A s.heap H locs → k0  σ = some ρ → W p l e (rm_mm_blanks) s m args below meth c H locs 0 0 (MQ below (cQ D (gTy cB cI cJ) A (mW cB cI cJ q ρ) none) args s 0 0 A) (F0 m 0 ls [])) (hl : lv_has ls 1 [(0, .ref (q 0))]) (hP : va_P D vwCl (mW cB cI cJ q σ) H) (hD : va_D A (mW cB cI cJ q σ)) (hS : va_S A s.heap H locs) (hf : mm_blanks_b0 k0 σ = some ρ) : W p l e (rm_mm_blanks) s m args below meth c H locs 0 0 (MQ below (cQ D (gTy cB cI cJ) A (mW cB cI cJ q ρ) none) args s 0 0 A) (F0 m 0 ls []) := by
  unfold mm_blanks_b0 at hf
  obtain ⟨hx, hb, hml, hown, hT, hrt, hlk, hK, hA, hG, hE⟩ := id G
  refine lv_aload_n hx hb dX5_blanks_0 rfl (lv_at hl 0 rfl) ?_
  obtain ⟨x1, hx1, hf⟩ := bd_some hf
  refine vM (As := []) (rest := []) G kX5_86 (c_mm_here hx1) hP hD hS ⟨rfl, rfl, Nat.le_of_ble_eq_true rfl, Nat.le_of_ble_eq_true rfl⟩ ⟨Nat.zero_le _, Nat.zero_le _⟩ rfl hl.1 (Nat.le_of_ble_eq_true rfl) dX5_blanks_1 (fun H locs hP hD hS => ?_)
  refine W.eq (g2 := F0 m 4 ls [.int x1.1]) rfl ?_
  refine lv_bipush (v := (9 : Int32)) hx hb dX5_blanks_4 (by decide) ?_
  refine lv_icmp_eq (tgt := 36) hx hb dX5_blanks_6 (by decide) (fun c2 => ?_) (fun c2 => ?_)
  · have hf := (if_pos c2).symm.trans hf
    exact W.eq (g2 := F0 m 36 ls []) rfl (mm_blanks_t36 G hk0 (lv_sub hl [0] rfl) hP hD hS hf)
  · have hf := (if_neg c2).symm.trans hf
    refine lv_aload_n hx hb dX5_blanks_9 rfl (lv_at hl 0 rfl) ?_
    obtain ⟨x3, hx3, hf⟩ := bd_some hf
    refine vM (As := []) (rest := []) G kX5_86 (c_mm_here hx3) hP hD hS ⟨rfl, rfl, Nat.le_of_ble_eq_true rfl, Nat.le_of_ble_eq_true rfl⟩ ⟨Nat.zero_le _, Nat.zero_le _⟩ rfl hl.1 (Nat.le_of_ble_eq_true rfl) dX5_blanks_10 (fun H locs hP hD hS => ?_)
    refine W.eq (g2 := F0 m 13 ls [.int x3.1]) rfl ?_
    refine lv_bipush (v := (10 : Int32)) hx hb dX5_blanks_13 (by decide) ?_
    refine lv_icmp_eq (tgt := 36) hx hb dX5_blanks_15 (by decide) (fun c4 => ?_) (fun c4 => ?_)
    · have hf := (if_pos c4).symm.trans hf
      exact W.eq (g2 := F0 m 36 ls []) rfl (mm_blanks_t36 G hk0 (lv_sub hl [0] rfl) hP hD hS hf)
    · have hf := (if_neg c4).symm.trans hf
      refine lv_aload_n hx hb dX5_blanks_18 rfl (lv_at hl 0 rfl) ?_
      obtain ⟨x5, hx5, hf⟩ := bd_some hf
      refine vM (As := []) (rest := []) G kX5_86 (c_mm_here hx5) hP hD hS ⟨rfl, rfl, Nat.le_of_ble_eq_true rfl, Nat.le_of_ble_eq_true rfl⟩ ⟨Nat.zero_le _, Nat.zero_le _⟩ rfl hl.1 (Nat.le_of_ble_eq_true rfl) dX5_blanks_19 (fun H locs hP hD hS => ?_)
      refine W.eq (g2 := F0 m 22 ls [.int x5.1]) rfl ?_
      refine lv_bipush (v := (13 : Int32)) hx hb dX5_blanks_22 (by decide) ?_
      refine lv_icmp_eq (tgt := 36) hx hb dX5_blanks_24 (by decide) (fun c6 => ?_) (fun c6 => ?_)
      · have hf := (if_pos c6).symm.trans hf
        exact W.eq (g2 := F0 m 36 ls []) rfl (mm_blanks_t36 G hk0 (lv_sub hl [0] rfl) hP hD hS hf)
      · have hf := (if_neg c6).symm.trans hf
        refine lv_aload_n hx hb dX5_blanks_27 rfl (lv_at hl 0 rfl) ?_
        obtain ⟨x7, hx7, hf⟩ := bd_some hf
        refine vM (As := []) (rest := []) G kX5_86 (c_mm_here hx7) hP hD hS ⟨rfl, rfl, Nat.le_of_ble_eq_true rfl, Nat.le_of_ble_eq_true rfl⟩ ⟨Nat.zero_le _, Nat.zero_le _⟩ rfl hl.1 (Nat.le_of_ble_eq_true rfl) dX5_blanks_28 (fun H locs hP hD hS => ?_)
        refine W.eq (g2 := F0 m 31 ls [.int x7.1]) rfl ?_
        refine lv_bipush (v := (32 : Int32)) hx hb dX5_blanks_31 (by decide) ?_
        refine lv_icmp_ne (tgt := 49) hx hb dX5_blanks_33 (by decide) (fun c8 => ?_) (fun c8 => ?_)
        · have hf := (if_neg c8).symm.trans hf
          cases hf
          exact ct_vret G hP hD hS dX5_blanks_49
        · have hf := (if_pos c8).symm.trans hf
          exact W.eq (g2 := F0 m 36 ls []) rfl (mm_blanks_t36 G hk0 (lv_sub hl [0] rfl) hP hD hS hf)
set_option maxHeartbeats 4000000 in
set_option maxRecDepth 100000 in
theorem mm_blanks_u0 {p : Program} {l : Launch} {e : Env} {s : State} {m : MethodId} {args : Array Value} {below : List Frame} {meth : Method} {c : Code} {D : va_G} {aK aV : Nat → Nat} {A : Nat → Prop} {cB cI cJ : ClassId} {q : Nat → Nat} {ρ : MSt} (G : CX p s m args meth c D (gTy cB cI cJ) aK aV A RX5 cX5_blanks 1 none) : ∀ (n : Nat) {σ : MSt} {H : Heap} {locs : List Loc} {ls : Array Slot} (hl : lv_has ls 1 [(0, .ref (q 0))]) (hP : va_P D vwCl (mW cB cI cJ q σ) H) (hD : va_D A (mW cB cI cJ q σ)) (hS : va_S A s.heap H locs) (hf : mm_blanks_L0 n σ = some ρ), W p l e (rm_mm_blanks) s m args below meth c H locs 0 0 (MQ below (cQ D (gTy cB cI cJ) A (mW cB cI cJ q ρ) none) args s 0 0 A) (F0 m 0 ls []) := by
  intro n
  induction n with
  | zero =>
    intros
    rename_i hf
    cases hf
  | succ n ih =>
    intro σ H locs ls hl hP hD hS hf
    exact mm_blanks_t0 G (fun _ H locs ls hl hP hD hS hf => ih hl hP hD hS hf) hl hP hD hS hf
set_option maxHeartbeats 4000000 in
set_option maxRecDepth 100000 in
theorem mm_blanks_t0e {p : Program} {l : Launch} {e : Env} {s : State} {m : MethodId} {args : Array Value} {below : List Frame} {meth : Method} {c : Code} {D : va_G} {aK aV : Nat → Nat} {A : Nat → Prop} {cB cI cJ : ClassId} {q : Nat → Nat} {H : Heap} {locs : List Loc} {ls : Array Slot} {ρ : MSt} {σ : MSt} (G : CX p s m args meth c D (gTy cB cI cJ) aK aV A RX5 cX5_blanks 1 none) (hl : lv_has ls 1 [(0, .ref (q 0))]) (hP : va_P D vwCl (mW cB cI cJ q σ) H) (hD : va_D A (mW cB cI cJ q σ)) (hS : va_S A s.heap H locs) (hf : mm_blanks σ = some ρ) : W p l e (rm_mm_blanks) s m args below meth c H locs 0 0 (MQ below (cQ D (gTy cB cI cJ) A (mW cB cI cJ q ρ) none) args s 0 0 A) (F0 m 0 ls []) := by
  unfold mm_blanks at hf
  obtain ⟨hx, hb, hml, hown, hT, hrt, hlk, hK, hA, hG, hE⟩ := id G
  exact W.eq (g2 := F0 m 0 ls []) rfl (mm_blanks_u0 G FU (lv_sub hl [0] rfl) hP hD hS hf)
set_option maxHeartbeats 4000000 in
set_option maxRecDepth 100000 in
theorem c_mm_blanks {l : Launch} {D : va_G} {aK aV : Nat → Nat} {cB cI cJ : ClassId} {q : Nat → Nat} {ρ : MSt} {σ : MSt} (hf : mm_blanks σ = some ρ) : CT l D (gTy cB cI cJ) aK aV yX5_blanks (wM yX5_blanks cX5_blanks 1 none) (rm_mm_blanks) 0 0 [.ref (q 0)] (mW cB cI cJ q σ) none (mW cB cI cJ q ρ) := by
  refine CT.of (by decide) rfl ?_
  intro p e s m below meth c A G hnm hP hD hS
  have hl := lv_entry [.ref (q 0)] (n := 1) (Nat.le_of_ble_eq_true rfl)
  rw [lg_entry_eq]
  generalize (lg_sl [.ref (q 0)] ++ List.replicate (1 - (lg_sl [.ref (q 0)]).length) Slot.unset).toArray = ls at hl ⊢
  exact mm_blanks_t0e G hl hP hD hS hf
def mm_stuck (σ : MSt) : Option (Bool × MSt) := bd (mm_wrong (1 : Int32) (mf_at σ) σ) (fun (x1 : Bool × MSt) => some (x1.1, x1.2))
abbrev rm_mm_stuck : Room := { frames := 1, cells := 0, slots := 0, locals := 22 }
set_option maxHeartbeats 4000000 in
set_option maxRecDepth 100000 in
theorem mm_stuck_t0e {p : Program} {l : Launch} {e : Env} {s : State} {m : MethodId} {args : Array Value} {below : List Frame} {meth : Method} {c : Code} {D : va_G} {aK aV : Nat → Nat} {A : Nat → Prop} {cB cI cJ : ClassId} {q : Nat → Nat} {H : Heap} {locs : List Loc} {ls : Array Slot} {ρ : Bool × MSt} {σ : MSt} (G : CX p s m args meth c D (gTy cB cI cJ) aK aV A RX5 cX5_stuck 1 (some .boolean)) (hl : lv_has ls 1 [(0, .ref (q 0))]) (hP : va_P D vwCl (mW cB cI cJ q σ) H) (hD : va_D A (mW cB cI cJ q σ)) (hS : va_S A s.heap H locs) (hf : mm_stuck σ = some ρ) : W p l e (rm_mm_stuck) s m args below meth c H locs 0 0 (MQ below (cQ D (gTy cB cI cJ) A (mW cB cI cJ q ρ.2) (some (.int (bI ρ.1)))) args s 0 0 A) (F0 m 0 ls []) := by
  unfold mm_stuck at hf
  obtain ⟨hx, hb, hml, hown, hT, hrt, hlk, hK, hA, hG, hE⟩ := id G
  refine lv_aload_n hx hb dX5_stuck_0 rfl (lv_at hl 0 rfl) ?_
  refine lv_iconst (v := (1 : Int32)) hx hb dX5_stuck_1 (by decide) ?_
  refine lv_aload_n hx hb dX5_stuck_2 rfl (lv_at hl 0 rfl) ?_
  refine gm_X5_at (v := (mf_at σ)) G hP dX5_stuck_3 rfl ?_
  obtain ⟨x1, hx1, hf⟩ := bd_some hf
  refine vM (As := [.int (1 : Int32), .int (mf_at σ)]) (rest := []) G kX5_90 (c_mm_wrong hx1) hP hD hS ⟨rfl, rfl, Nat.le_of_ble_eq_true rfl, Nat.le_of_ble_eq_true rfl⟩ ⟨Nat.zero_le _, Nat.zero_le _⟩ rfl hl.1 (Nat.le_of_ble_eq_true rfl) dX5_stuck_6 (fun H locs hP hD hS => ?_)
  refine W.eq (g2 := F0 m 9 ls [.int (bI x1.1)]) rfl ?_
  cases hf
  exact ct_iret G (bI_nar x1.1) hP hD hS dX5_stuck_9
set_option maxHeartbeats 4000000 in
set_option maxRecDepth 100000 in
theorem c_mm_stuck {l : Launch} {D : va_G} {aK aV : Nat → Nat} {cB cI cJ : ClassId} {q : Nat → Nat} {ρ : Bool × MSt} {σ : MSt} (hf : mm_stuck σ = some ρ) : CT l D (gTy cB cI cJ) aK aV yX5_stuck (wM yX5_stuck cX5_stuck 1 (some .boolean)) (rm_mm_stuck) 0 0 [.ref (q 0)] (mW cB cI cJ q σ) (some (.int (bI ρ.1))) (mW cB cI cJ q ρ.2) := by
  refine CT.of (by decide) rfl ?_
  intro p e s m below meth c A G hnm hP hD hS
  have hl := lv_entry [.ref (q 0)] (n := 1) (Nat.le_of_ble_eq_true rfl)
  rw [lg_entry_eq]
  generalize (lg_sl [.ref (q 0)] ++ List.replicate (1 - (lg_sl [.ref (q 0)]).length) Slot.unset).toArray = ls at hl ⊢
  exact mm_stuck_t0e G hl hP hD hS hf
def mm_isDigit (p0 : Int32) (σ : MSt) : Option (Bool × MSt) := (if p0 < (48 : Int32) then some (false, σ) else (if (57 : Int32) < p0 then some (false, σ) else some (true, σ)))
abbrev rm_mm_isDigit : Room := { frames := 0, cells := 0, slots := 0, locals := 0 }
set_option maxHeartbeats 4000000 in
set_option maxRecDepth 100000 in
theorem mm_isDigit_t0e {p : Program} {l : Launch} {e : Env} {s : State} {m : MethodId} {args : Array Value} {below : List Frame} {meth : Method} {c : Code} {D : va_G} {aK aV : Nat → Nat} {A : Nat → Prop} {cB cI cJ : ClassId} {q : Nat → Nat} {H : Heap} {locs : List Loc} {ls : Array Slot} {ρ : Bool × MSt} {p0 : Int32} {σ : MSt} (G : CX p s m args meth c D (gTy cB cI cJ) aK aV A RX5 cX5_isDigit 2 (some .boolean)) (hl : lv_has ls 2 [(0, .ref (q 0)), (1, .int p0)]) (hP : va_P D vwCl (mW cB cI cJ q σ) H) (hD : va_D A (mW cB cI cJ q σ)) (hS : va_S A s.heap H locs) (hf : mm_isDigit p0 σ = some ρ) : W p l e (rm_mm_isDigit) s m args below meth c H locs 0 0 (MQ below (cQ D (gTy cB cI cJ) A (mW cB cI cJ q ρ.2) (some (.int (bI ρ.1)))) args s 0 0 A) (F0 m 0 ls []) := by
  unfold mm_isDigit at hf
  obtain ⟨hx, hb, hml, hown, hT, hrt, hlk, hK, hA, hG, hE⟩ := id G
  refine lv_iload_n hx hb dX5_isDigit_0 rfl (lv_at hl 1 rfl) ?_
  refine lv_bipush (v := (48 : Int32)) hx hb dX5_isDigit_1 (by decide) ?_
  refine lv_icmp_lt (tgt := 16) hx hb dX5_isDigit_3 (by decide) (fun c1 => ?_) (fun c1 => ?_)
  · have hf := (if_pos c1).symm.trans hf
    refine lv_iconst (v := (0 : Int32)) hx hb dX5_isDigit_16 (by decide) ?_
    cases hf
    exact ct_iret G (bI_nar false) hP hD hS dX5_isDigit_17
  · have hf := (if_neg c1).symm.trans hf
    refine lv_iload_n hx hb dX5_isDigit_6 rfl (lv_at hl 1 rfl) ?_
    refine lv_bipush (v := (57 : Int32)) hx hb dX5_isDigit_7 (by decide) ?_
    refine lv_icmp_gt (tgt := 16) hx hb dX5_isDigit_9 (by decide) (fun c2 => ?_) (fun c2 => ?_)
    · have hf := (if_pos c2).symm.trans hf
      refine lv_iconst (v := (0 : Int32)) hx hb dX5_isDigit_16 (by decide) ?_
      cases hf
      exact ct_iret G (bI_nar false) hP hD hS dX5_isDigit_17
    · have hf := (if_neg c2).symm.trans hf
      refine lv_iconst (v := (1 : Int32)) hx hb dX5_isDigit_12 (by decide) ?_
      refine lv_goto (tgt := 17) hx hb dX5_isDigit_13 (by decide) ?_
      cases hf
      exact ct_iret G (bI_nar true) hP hD hS dX5_isDigit_17
set_option maxHeartbeats 4000000 in
set_option maxRecDepth 100000 in
theorem c_mm_isDigit {l : Launch} {D : va_G} {aK aV : Nat → Nat} {cB cI cJ : ClassId} {q : Nat → Nat} {ρ : Bool × MSt} {p0 : Int32} {σ : MSt} (hf : mm_isDigit p0 σ = some ρ) : CT l D (gTy cB cI cJ) aK aV yX5_isDigit (wM yX5_isDigit cX5_isDigit 2 (some .boolean)) (rm_mm_isDigit) 0 0 [.ref (q 0), .int p0] (mW cB cI cJ q σ) (some (.int (bI ρ.1))) (mW cB cI cJ q ρ.2) := by
  refine CT.of (by decide) rfl ?_
  intro p e s m below meth c A G hnm hP hD hS
  have hl := lv_entry [.ref (q 0), .int p0] (n := 2) (Nat.le_of_ble_eq_true rfl)
  rw [lg_entry_eq]
  generalize (lg_sl [.ref (q 0), .int p0] ++ List.replicate (2 - (lg_sl [.ref (q 0), .int p0]).length) Slot.unset).toArray = ls at hl ⊢
  exact mm_isDigit_t0e G hl hP hD hS hf
def mm_digits_b16 (k16 : MSt → Option (Bool × MSt)) (σ : MSt) : Option (Bool × MSt) := bd (mm_here  σ) (fun (x5 : Int32 × MSt) => bd (mm_isDigit x5.1 x5.2) (fun (x6 : Bool × MSt) => (if x6.1 = true then k16  (ms_at x6.2 ((mf_at x6.2) + (1 : Int32))) else some (true, x6.2))))
def mm_digits_L16 : Nat → MSt → Option (Bool × MSt)
  | 0, _ => none
  | n + 1, σ => mm_digits_b16 (mm_digits_L16 n) σ
def mm_digits (σ : MSt) : Option (Bool × MSt) := bd (mm_here  σ) (fun (x1 : Int32 × MSt) => bd (mm_isDigit x1.1 x1.2) (fun (x2 : Bool × MSt) => (if x2.1 = true then mm_digits_L16 FU  x2.2 else bd (mm_stuck  x2.2) (fun (x4 : Bool × MSt) => some (x4.1, x4.2)))))
abbrev rm_mm_digits : Room := { frames := 2, cells := 0, slots := 0, locals := 42 }
set_option maxHeartbeats 4000000 in
set_option maxRecDepth 100000 in
theorem mm_digits_t16 {p : Program} {l : Launch} {e : Env} {s : State} {m : MethodId} {args : Array Value} {below : List Frame} {meth : Method} {c : Code} {D : va_G} {aK aV : Nat → Nat} {A : Nat → Prop} {cB cI cJ : ClassId} {q : Nat → Nat} {H : Heap} {locs : List Loc} {ls : Array Slot} {ρ : Bool × MSt} {k16 : MSt → Option (Bool × MSt)} {σ : MSt} (G : CX p s m args meth c D (gTy cB cI cJ) aK aV A RX5 cX5_digits 1 (some .boolean)) (hk16 : ∀  (σ : MSt) (H : Heap) (locs : List Loc) (ls : Array Slot), lv_has ls 1 [(0, .ref (q 0))] → va_P D vwCl (mW cB cI cJ q σ) H → va_D A (mW cB cI cJ q σ) → va_S A s.heap H locs → k16  σ = some ρ → W p l e (rm_mm_digits) s m args below meth c H locs 0 0 (MQ below (cQ D (gTy cB cI cJ) A (mW cB cI cJ q ρ.2) (some (.int (bI ρ.1)))) args s 0 0 A) (F0 m 16 ls [])) (hl : lv_has ls 1 [(0, .ref (q 0))]) (hP : va_P D vwCl (mW cB cI cJ q σ) H) (hD : va_D A (mW cB cI cJ q σ)) (hS : va_S A s.heap H locs) (hf : mm_digits_b16 k16 σ = some ρ) : W p l e (rm_mm_digits) s m args below meth c H locs 0 0 (MQ below (cQ D (gTy cB cI cJ) A (mW cB cI cJ q ρ.2) (some (.int (bI ρ.1)))) args s 0 0 A) (F0 m 16 ls []) := by
  unfold mm_digits_b16 at hf
  obtain ⟨hx, hb, hml, hown, hT, hrt, hlk, hK, hA, hG, hE⟩ := id G
  refine lv_aload_n hx hb dX5_digits_16 rfl (lv_at hl 0 rfl) ?_
  refine lv_aload_n hx hb dX5_digits_17 rfl (lv_at hl 0 rfl) ?_
  obtain ⟨x5, hx5, hf⟩ := bd_some hf
  refine vM (As := []) (rest := [.ref (q 0)]) G kX5_86 (c_mm_here hx5) hP hD hS ⟨rfl, rfl, Nat.le_of_ble_eq_true rfl, Nat.le_of_ble_eq_true rfl⟩ ⟨Nat.zero_le _, Nat.zero_le _⟩ rfl hl.1 (Nat.le_of_ble_eq_true rfl) dX5_digits_18 (fun H locs hP hD hS => ?_)
  refine W.eq (g2 := F0 m 21 ls [.int x5.1, .ref (q 0)]) rfl ?_
  obtain ⟨x6, hx6, hf⟩ := bd_some hf
  refine vM (As := [.int x5.1]) (rest := []) G kX5_94 (c_mm_isDigit hx6) hP hD hS ⟨rfl, rfl, Nat.le_of_ble_eq_true rfl, Nat.le_of_ble_eq_true rfl⟩ ⟨Nat.zero_le _, Nat.zero_le _⟩ rfl hl.1 (Nat.le_of_ble_eq_true rfl) dX5_digits_21 (fun H locs hP hD hS => ?_)
  refine W.eq (g2 := F0 m 24 ls [.int (bI x6.1)]) rfl ?_
  refine lv_if_eq (tgt := 40) hx hb dX5_digits_24 (by decide) (fun c7 => ?_) (fun c7 => ?_)
  · have hf := (if_neg (bI_0 c7)).symm.trans hf
    refine lv_iconst (v := (1 : Int32)) hx hb dX5_digits_40 (by decide) ?_
    cases hf
    exact ct_iret G (bI_nar true) hP hD hS dX5_digits_41
  · have hf := (if_pos (bI_n c7)).symm.trans hf
    refine lv_aload_n hx hb dX5_digits_27 rfl (lv_at hl 0 rfl) ?_
    refine lv_dup hx hb dX5_digits_28 rfl ?_
    refine gm_X5_at (v := (mf_at x6.2)) G hP dX5_digits_29 rfl ?_
    refine lv_iconst (v := (1 : Int32)) hx hb dX5_digits_32 (by decide) ?_
    refine lv_iadd hx hb dX5_digits_33 ?_
    refine pm_X5_at (v := ((mf_at x6.2) + (1 : Int32))) G hP hD hS dX5_digits_34 (fun H locs hP hD hS => ?_)
    refine lv_goto (tgt := 16) hx hb dX5_digits_37 (by decide) ?_
    exact W.eq (g2 := F0 m 16 ls []) rfl (hk16  _ _ _ _ (lv_sub hl [0] rfl) hP hD hS hf)
set_option maxHeartbeats 4000000 in
set_option maxRecDepth 100000 in
theorem mm_digits_u16 {p : Program} {l : Launch} {e : Env} {s : State} {m : MethodId} {args : Array Value} {below : List Frame} {meth : Method} {c : Code} {D : va_G} {aK aV : Nat → Nat} {A : Nat → Prop} {cB cI cJ : ClassId} {q : Nat → Nat} {ρ : Bool × MSt} (G : CX p s m args meth c D (gTy cB cI cJ) aK aV A RX5 cX5_digits 1 (some .boolean)) : ∀ (n : Nat) {σ : MSt} {H : Heap} {locs : List Loc} {ls : Array Slot} (hl : lv_has ls 1 [(0, .ref (q 0))]) (hP : va_P D vwCl (mW cB cI cJ q σ) H) (hD : va_D A (mW cB cI cJ q σ)) (hS : va_S A s.heap H locs) (hf : mm_digits_L16 n σ = some ρ), W p l e (rm_mm_digits) s m args below meth c H locs 0 0 (MQ below (cQ D (gTy cB cI cJ) A (mW cB cI cJ q ρ.2) (some (.int (bI ρ.1)))) args s 0 0 A) (F0 m 16 ls []) := by
  intro n
  induction n with
  | zero =>
    intros
    rename_i hf
    cases hf
  | succ n ih =>
    intro σ H locs ls hl hP hD hS hf
    exact mm_digits_t16 G (fun _ H locs ls hl hP hD hS hf => ih hl hP hD hS hf) hl hP hD hS hf
set_option maxHeartbeats 4000000 in
set_option maxRecDepth 100000 in
theorem mm_digits_t0e {p : Program} {l : Launch} {e : Env} {s : State} {m : MethodId} {args : Array Value} {below : List Frame} {meth : Method} {c : Code} {D : va_G} {aK aV : Nat → Nat} {A : Nat → Prop} {cB cI cJ : ClassId} {q : Nat → Nat} {H : Heap} {locs : List Loc} {ls : Array Slot} {ρ : Bool × MSt} {σ : MSt} (G : CX p s m args meth c D (gTy cB cI cJ) aK aV A RX5 cX5_digits 1 (some .boolean)) (hl : lv_has ls 1 [(0, .ref (q 0))]) (hP : va_P D vwCl (mW cB cI cJ q σ) H) (hD : va_D A (mW cB cI cJ q σ)) (hS : va_S A s.heap H locs) (hf : mm_digits σ = some ρ) : W p l e (rm_mm_digits) s m args below meth c H locs 0 0 (MQ below (cQ D (gTy cB cI cJ) A (mW cB cI cJ q ρ.2) (some (.int (bI ρ.1)))) args s 0 0 A) (F0 m 0 ls []) := by
  unfold mm_digits at hf
  obtain ⟨hx, hb, hml, hown, hT, hrt, hlk, hK, hA, hG, hE⟩ := id G
  refine lv_aload_n hx hb dX5_digits_0 rfl (lv_at hl 0 rfl) ?_
  refine lv_aload_n hx hb dX5_digits_1 rfl (lv_at hl 0 rfl) ?_
  obtain ⟨x1, hx1, hf⟩ := bd_some hf
  refine vM (As := []) (rest := [.ref (q 0)]) G kX5_86 (c_mm_here hx1) hP hD hS ⟨rfl, rfl, Nat.le_of_ble_eq_true rfl, Nat.le_of_ble_eq_true rfl⟩ ⟨Nat.zero_le _, Nat.zero_le _⟩ rfl hl.1 (Nat.le_of_ble_eq_true rfl) dX5_digits_2 (fun H locs hP hD hS => ?_)
  refine W.eq (g2 := F0 m 5 ls [.int x1.1, .ref (q 0)]) rfl ?_
  obtain ⟨x2, hx2, hf⟩ := bd_some hf
  refine vM (As := [.int x1.1]) (rest := []) G kX5_94 (c_mm_isDigit hx2) hP hD hS ⟨rfl, rfl, Nat.le_of_ble_eq_true rfl, Nat.le_of_ble_eq_true rfl⟩ ⟨Nat.zero_le _, Nat.zero_le _⟩ rfl hl.1 (Nat.le_of_ble_eq_true rfl) dX5_digits_5 (fun H locs hP hD hS => ?_)
  refine W.eq (g2 := F0 m 8 ls [.int (bI x2.1)]) rfl ?_
  refine lv_if_ne (tgt := 16) hx hb dX5_digits_8 (by decide) (fun c3 => ?_) (fun c3 => ?_)
  · have hf := (if_pos (bI_n c3)).symm.trans hf
    exact W.eq (g2 := F0 m 16 ls []) rfl (mm_digits_u16 G FU (lv_sub hl [0] rfl) hP hD hS hf)
  · have hf := (if_neg (bI_0 c3)).symm.trans hf
    refine lv_aload_n hx hb dX5_digits_11 rfl (lv_at hl 0 rfl) ?_
    obtain ⟨x4, hx4, hf⟩ := bd_some hf
    refine vM (As := []) (rest := []) G kX5_98 (c_mm_stuck hx4) hP hD hS ⟨rfl, rfl, Nat.le_of_ble_eq_true rfl, Nat.le_of_ble_eq_true rfl⟩ ⟨Nat.zero_le _, Nat.zero_le _⟩ rfl hl.1 (Nat.le_of_ble_eq_true rfl) dX5_digits_12 (fun H locs hP hD hS => ?_)
    refine W.eq (g2 := F0 m 15 ls [.int (bI x4.1)]) rfl ?_
    cases hf
    exact ct_iret G (bI_nar x4.1) hP hD hS dX5_digits_15
set_option maxHeartbeats 4000000 in
set_option maxRecDepth 100000 in
theorem c_mm_digits {l : Launch} {D : va_G} {aK aV : Nat → Nat} {cB cI cJ : ClassId} {q : Nat → Nat} {ρ : Bool × MSt} {σ : MSt} (hf : mm_digits σ = some ρ) : CT l D (gTy cB cI cJ) aK aV yX5_digits (wM yX5_digits cX5_digits 1 (some .boolean)) (rm_mm_digits) 0 0 [.ref (q 0)] (mW cB cI cJ q σ) (some (.int (bI ρ.1))) (mW cB cI cJ q ρ.2) := by
  refine CT.of (by decide) rfl ?_
  intro p e s m below meth c A G hnm hP hD hS
  have hl := lv_entry [.ref (q 0)] (n := 1) (Nat.le_of_ble_eq_true rfl)
  rw [lg_entry_eq]
  generalize (lg_sl [.ref (q 0)] ++ List.replicate (1 - (lg_sl [.ref (q 0)]).length) Slot.unset).toArray = ls at hl ⊢
  exact mm_digits_t0e G hl hP hD hS hf
def mm_order_b25 (k25 : Int32 → Int32 → MSt → Option (Int32 × MSt)) (a1 : Int32) (a4 : Int32) (σ : MSt) : Option (Int32 × MSt) := (if (20 : Int32) ≤ a4 then some ((0 : Int32), σ) else ck a4 (sLn 4) (lt (sCh 4 a4) (fun (v6 : Int32) => ck (a1 + a4) 4000 ((if ((mf_tape σ) ((a1 + a4)).toNatClampNeg) = v6 then lt (a4 + (1 : Int32)) (fun (v9 : Int32) => k25 a1 v9 σ) else ck (a1 + a4) 4000 ((if v6 ≤ ((mf_tape σ) ((a1 + a4)).toNatClampNeg) then some ((1 : Int32), σ) else some ((-1 : Int32), σ))))))))
def mm_order_L25 : Nat → Int32 → Int32 → MSt → Option (Int32 × MSt)
  | 0, _, _, _ => none
  | n + 1, a1, a4, σ => mm_order_b25 (mm_order_L25 n) a1 a4 σ
def mm_order (p0 : Int32) (p1 : Int32) (σ : MSt) : Option (Int32 × MSt) := lt (p1 - p0) (fun (v1 : Int32) => (if v1 = (20 : Int32) then mm_order_L25 FU p0 (0 : Int32) σ else (if (20 : Int32) ≤ v1 then some ((1 : Int32), σ) else some ((-1 : Int32), σ))))
abbrev rm_mm_order : Room := { frames := 4, cells := 0, slots := 0, locals := 85 }
set_option maxHeartbeats 4000000 in
set_option maxRecDepth 100000 in
theorem mm_order_t25 {p : Program} {l : Launch} {e : Env} {s : State} {m : MethodId} {args : Array Value} {below : List Frame} {meth : Method} {c : Code} {D : va_G} {aK aV : Nat → Nat} {A : Nat → Prop} {cB cI cJ : ClassId} {q : Nat → Nat} {H : Heap} {locs : List Loc} {ls : Array Slot} {ρ : Int32 × MSt} {k25 : Int32 → Int32 → MSt → Option (Int32 × MSt)} {a1 : Int32} {a4 : Int32} {σ : MSt} (G : CX p s m args meth c D (gTy cB cI cJ) aK aV A RX5 cX5_order 6 (some .int)) (hk25 : ∀ (a1 : Int32) (a4 : Int32) (σ : MSt) (H : Heap) (locs : List Loc) (ls : Array Slot), lv_has ls 6 [(0, .ref (q 0)), (1, .int a1), (4, .int a4)] → va_P D vwCl (mW cB cI cJ q σ) H → va_D A (mW cB cI cJ q σ) → va_S A s.heap H locs → k25 a1 a4 σ = some ρ → W p l e (rm_mm_order) s m args below meth c H locs 0 0 (MQ below (cQ D (gTy cB cI cJ) A (mW cB cI cJ q ρ.2) (some (.int ρ.1))) args s 0 0 A) (F0 m 25 ls [])) (hl : lv_has ls 6 [(0, .ref (q 0)), (1, .int a1), (4, .int a4)]) (hP : va_P D vwCl (mW cB cI cJ q σ) H) (hD : va_D A (mW cB cI cJ q σ)) (hS : va_S A s.heap H locs) (hf : mm_order_b25 k25 a1 a4 σ = some ρ) : W p l e (rm_mm_order) s m args below meth c H locs 0 0 (MQ below (cQ D (gTy cB cI cJ) A (mW cB cI cJ q ρ.2) (some (.int ρ.1))) args s 0 0 A) (F0 m 25 ls []) := by
  unfold mm_order_b25 at hf
  obtain ⟨hx, hb, hml, hown, hT, hrt, hlk, hK, hA, hG, hE⟩ := id G
  refine lv_iload hx hb dX5_order_25 (lv_at hl 2 rfl) ?_
  refine lv_bipush (v := (20 : Int32)) hx hb dX5_order_27 (by decide) ?_
  refine lv_icmp_ge (tgt := 81) hx hb dX5_order_29 (by decide) (fun c4 => ?_) (fun c4 => ?_)
  · have hf := (if_pos c4).symm.trans hf
    refine lv_iconst (v := (0 : Int32)) hx hb dX5_order_81 (by decide) ?_
    cases hf
    exact ct_iret G rfl hP hD hS dX5_order_82
  · have hf := (if_neg c4).symm.trans hf
    refine va_ldcS hx hb hown (hG.1 _ (List.mem_of_getElem? (i := 10) rfl)) dX5_order_32 ?_
    refine lv_iload hx hb dX5_order_34 (lv_at hl 2 rfl) ?_
    obtain ⟨hi5, hf⟩ := ck_some hf
    refine ct_cha (rest := []) G kX5_111 (by decide) hi5 hP hD hS ⟨Nat.le_of_ble_eq_true rfl, Nat.le_of_ble_eq_true rfl⟩ ⟨Nat.zero_le _, Nat.zero_le _⟩ hl.1 (Nat.le_of_ble_eq_true rfl) dX5_order_36 (fun H locs hP hS => ?_)
    refine W.eq (g2 := F0 m 39 ls [.int (sCh 4 a4)]) rfl ?_
    refine lv_topi (fun v6 ev6 => ?_)
    have hf := lt_eq hf ev6
    refine lv_istore (lv' := [(5, .int v6), (0, .ref (q 0)), (1, .int a1), (4, .int a4)]) hx hb dX5_order_39 hl (by decide) rfl (fun ls hl => ?_)
    refine lv_aload_n hx hb dX5_order_41 rfl (lv_at hl 1 rfl) ?_
    refine gm_X5_tape G hP dX5_order_42 ?_
    refine lv_iload_n hx hb dX5_order_45 rfl (lv_at hl 2 rfl) ?_
    refine lv_iload hx hb dX5_order_46 (lv_at hl 3 rfl) ?_
    refine lv_iadd hx hb dX5_order_48 ?_
    obtain ⟨hi7, hf⟩ := ck_some hf
    refine lm_tape (f := (mf_tape σ)) G hP hi7 dX5_order_49 rfl ?_
    refine lv_iload hx hb dX5_order_50 (lv_at hl 0 rfl) ?_
    refine lv_icmp_eq (tgt := 75) hx hb dX5_order_52 (by decide) (fun c8 => ?_) (fun c8 => ?_)
    · have hf := (if_pos c8).symm.trans hf
      obtain ⟨v9, ev9⟩ : ∃ y : Int32, y = (a4 + (1 : Int32)) := ⟨_, rfl⟩
      have hf := lt_eq hf ev9
      refine lv_iinc (v := v9) (lv' := [(4, .int v9), (5, .int v6), (0, .ref (q 0)), (1, .int a1)]) hx hb dX5_order_75 hl (k := 3) rfl (by rw [ev9]; rfl) (by decide) rfl (fun ls hl => ?_)
      refine lv_goto (tgt := 25) hx hb dX5_order_78 (by decide) ?_
      exact W.eq (g2 := F0 m 25 ls []) rfl (hk25 _ _ _ _ _ _ (lv_sub hl [2, 3, 0] rfl) hP hD hS hf)
    · have hf := (if_neg c8).symm.trans hf
      refine lv_aload_n hx hb dX5_order_55 rfl (lv_at hl 1 rfl) ?_
      refine gm_X5_tape G hP dX5_order_56 ?_
      refine lv_iload_n hx hb dX5_order_59 rfl (lv_at hl 2 rfl) ?_
      refine lv_iload hx hb dX5_order_60 (lv_at hl 3 rfl) ?_
      refine lv_iadd hx hb dX5_order_62 ?_
      obtain ⟨hi10, hf⟩ := ck_some hf
      refine lm_tape (f := (mf_tape σ)) G hP hi10 dX5_order_63 rfl ?_
      refine lv_iload hx hb dX5_order_64 (lv_at hl 0 rfl) ?_
      refine lv_icmp_ge (tgt := 73) hx hb dX5_order_66 (by decide) (fun c11 => ?_) (fun c11 => ?_)
      · have hf := (if_pos c11).symm.trans hf
        refine lv_iconst (v := (1 : Int32)) hx hb dX5_order_73 (by decide) ?_
        cases hf
        exact ct_iret G rfl hP hD hS dX5_order_74
      · have hf := (if_neg c11).symm.trans hf
        refine lv_iconst (v := (-1 : Int32)) hx hb dX5_order_69 (by decide) ?_
        refine lv_goto (tgt := 74) hx hb dX5_order_70 (by decide) ?_
        cases hf
        exact ct_iret G rfl hP hD hS dX5_order_74
set_option maxHeartbeats 4000000 in
set_option maxRecDepth 100000 in
theorem mm_order_u25 {p : Program} {l : Launch} {e : Env} {s : State} {m : MethodId} {args : Array Value} {below : List Frame} {meth : Method} {c : Code} {D : va_G} {aK aV : Nat → Nat} {A : Nat → Prop} {cB cI cJ : ClassId} {q : Nat → Nat} {ρ : Int32 × MSt} (G : CX p s m args meth c D (gTy cB cI cJ) aK aV A RX5 cX5_order 6 (some .int)) : ∀ (n : Nat) {a1 : Int32} {a4 : Int32} {σ : MSt} {H : Heap} {locs : List Loc} {ls : Array Slot} (hl : lv_has ls 6 [(0, .ref (q 0)), (1, .int a1), (4, .int a4)]) (hP : va_P D vwCl (mW cB cI cJ q σ) H) (hD : va_D A (mW cB cI cJ q σ)) (hS : va_S A s.heap H locs) (hf : mm_order_L25 n a1 a4 σ = some ρ), W p l e (rm_mm_order) s m args below meth c H locs 0 0 (MQ below (cQ D (gTy cB cI cJ) A (mW cB cI cJ q ρ.2) (some (.int ρ.1))) args s 0 0 A) (F0 m 25 ls []) := by
  intro n
  induction n with
  | zero =>
    intros
    rename_i hf
    cases hf
  | succ n ih =>
    intro a1 a4 σ H locs ls hl hP hD hS hf
    exact mm_order_t25 G (fun _ _ _ H locs ls hl hP hD hS hf => ih hl hP hD hS hf) hl hP hD hS hf
set_option maxHeartbeats 4000000 in
set_option maxRecDepth 100000 in
theorem mm_order_t0e {p : Program} {l : Launch} {e : Env} {s : State} {m : MethodId} {args : Array Value} {below : List Frame} {meth : Method} {c : Code} {D : va_G} {aK aV : Nat → Nat} {A : Nat → Prop} {cB cI cJ : ClassId} {q : Nat → Nat} {H : Heap} {locs : List Loc} {ls : Array Slot} {ρ : Int32 × MSt} {p0 : Int32} {p1 : Int32} {σ : MSt} (G : CX p s m args meth c D (gTy cB cI cJ) aK aV A RX5 cX5_order 6 (some .int)) (hl : lv_has ls 6 [(0, .ref (q 0)), (1, .int p0), (2, .int p1)]) (hP : va_P D vwCl (mW cB cI cJ q σ) H) (hD : va_D A (mW cB cI cJ q σ)) (hS : va_S A s.heap H locs) (hf : mm_order p0 p1 σ = some ρ) : W p l e (rm_mm_order) s m args below meth c H locs 0 0 (MQ below (cQ D (gTy cB cI cJ) A (mW cB cI cJ q ρ.2) (some (.int ρ.1))) args s 0 0 A) (F0 m 0 ls []) := by
  unfold mm_order at hf
  obtain ⟨hx, hb, hml, hown, hT, hrt, hlk, hK, hA, hG, hE⟩ := id G
  refine lv_iload_n hx hb dX5_order_0 rfl (lv_at hl 2 rfl) ?_
  refine lv_iload_n hx hb dX5_order_1 rfl (lv_at hl 1 rfl) ?_
  refine lv_isub hx hb dX5_order_2 ?_
  refine lv_topi (fun v1 ev1 => ?_)
  have hf := lt_eq hf ev1
  refine lv_istore_n (lv' := [(3, .int v1), (0, .ref (q 0)), (1, .int p0), (2, .int p1)]) hx hb dX5_order_3 rfl hl (by decide) rfl (fun ls hl => ?_)
  refine lv_iload_n hx hb dX5_order_4 rfl (lv_at hl 0 rfl) ?_
  refine lv_bipush (v := (20 : Int32)) hx hb dX5_order_5 (by decide) ?_
  refine lv_icmp_eq (tgt := 22) hx hb dX5_order_7 (by decide) (fun c2 => ?_) (fun c2 => ?_)
  · have hf := (if_pos c2).symm.trans hf
    refine lv_iconst (v := (0 : Int32)) hx hb dX5_order_22 (by decide) ?_
    refine lv_istore (lv' := [(4, .int (0 : Int32)), (3, .int v1), (0, .ref (q 0)), (1, .int p0), (2, .int p1)]) hx hb dX5_order_23 hl (by decide) rfl (fun ls hl => ?_)
    exact W.eq (g2 := F0 m 25 ls []) rfl (mm_order_u25 G FU (lv_sub hl [2, 3, 0] rfl) hP hD hS hf)
  · have hf := (if_neg c2).symm.trans hf
    refine lv_iload_n hx hb dX5_order_10 rfl (lv_at hl 0 rfl) ?_
    refine lv_bipush (v := (20 : Int32)) hx hb dX5_order_11 (by decide) ?_
    refine lv_icmp_ge (tgt := 20) hx hb dX5_order_13 (by decide) (fun c3 => ?_) (fun c3 => ?_)
    · have hf := (if_pos c3).symm.trans hf
      refine lv_iconst (v := (1 : Int32)) hx hb dX5_order_20 (by decide) ?_
      cases hf
      exact ct_iret G rfl hP hD hS dX5_order_21
    · have hf := (if_neg c3).symm.trans hf
      refine lv_iconst (v := (-1 : Int32)) hx hb dX5_order_16 (by decide) ?_
      refine lv_goto (tgt := 21) hx hb dX5_order_17 (by decide) ?_
      cases hf
      exact ct_iret G rfl hP hD hS dX5_order_21
set_option maxHeartbeats 4000000 in
set_option maxRecDepth 100000 in
theorem c_mm_order {l : Launch} {D : va_G} {aK aV : Nat → Nat} {cB cI cJ : ClassId} {q : Nat → Nat} {ρ : Int32 × MSt} {p0 : Int32} {p1 : Int32} {σ : MSt} (hf : mm_order p0 p1 σ = some ρ) : CT l D (gTy cB cI cJ) aK aV yX5_order (wM yX5_order cX5_order 6 (some .int)) (rm_mm_order) 0 0 [.ref (q 0), .int p0, .int p1] (mW cB cI cJ q σ) (some (.int ρ.1)) (mW cB cI cJ q ρ.2) := by
  refine CT.of (by decide) rfl ?_
  intro p e s m below meth c A G hnm hP hD hS
  have hl := lv_entry [.ref (q 0), .int p0, .int p1] (n := 6) (Nat.le_of_ble_eq_true rfl)
  rw [lg_entry_eq]
  generalize (lg_sl [.ref (q 0), .int p0, .int p1] ++ List.replicate (6 - (lg_sl [.ref (q 0), .int p0, .int p1]).length) Slot.unset).toArray = ls at hl ⊢
  exact mm_order_t0e G hl hP hD hS hf
def mm_whole_b79 (a5 : Int64) (σ : MSt) : Option (Bool × MSt) := bd (mm_thing (1 : Int32) (a5 - (1 : Int64)) σ) (fun (x13 : Int32 × MSt) => some (true, x13.2))
def mm_whole_b92 (a5 : Int64) (σ : MSt) : Option (Bool × MSt) := bd (mm_thing (0 : Int32) a5 σ) (fun (x12 : Int32 × MSt) => some (true, x12.2))
def mm_whole_b30 (k30 : Int32 → Int32 → Int32 → Int64 → Int32 → MSt → Option (Bool × MSt)) (a2 : Int32) (a3 : Int32) (a4 : Int32) (a5 : Int64) (a7 : Int32) (σ : MSt) : Option (Bool × MSt) := (if a2 ≤ a7 then (if a3 = 0 then mm_whole_b92 a5 σ else (if a5 = (0 : Int64) then (if a4 = 0 then mm_whole_b79 a5 σ else mm_whole_b92 a5 σ) else mm_whole_b79 a5 σ)) else ck a7 4000 (lt ((((10 : Int64) * a5) + (Int32.toInt64 ((mf_tape σ) (a7).toNatClampNeg))) - (48 : Int64)) (fun (v10 : Int64) => lt (a7 + (1 : Int32)) (fun (v11 : Int32) => k30 a2 a3 a4 v10 v11 σ))))
def mm_whole_L30 : Nat → Int32 → Int32 → Int32 → Int64 → Int32 → MSt → Option (Bool × MSt)
  | 0, _, _, _, _, _, _ => none
  | n + 1, a2, a3, a4, a5, a7, σ => mm_whole_b30 (mm_whole_L30 n) a2 a3 a4 a5 a7 σ
def mm_whole (p0 : Int32) (p1 : Int32) (p2 : Int32) (σ : MSt) : Option (Bool × MSt) := bd (mm_order p0 p1 σ) (fun (x1 : Int32 × MSt) => (if 0 < x1.1 then some (false, x1.2) else (if x1.1 = 0 then (if p2 = 0 then some (false, x1.2) else mm_whole_L30 FU p1 p2 x1.1 (0 : Int64) p0 x1.2) else mm_whole_L30 FU p1 p2 x1.1 (0 : Int64) p0 x1.2)))
abbrev rm_mm_whole : Room := { frames := 5, cells := 0, slots := 0, locals := 110 }
set_option maxHeartbeats 4000000 in
set_option maxRecDepth 100000 in
theorem mm_whole_t79 {p : Program} {l : Launch} {e : Env} {s : State} {m : MethodId} {args : Array Value} {below : List Frame} {meth : Method} {c : Code} {D : va_G} {aK aV : Nat → Nat} {A : Nat → Prop} {cB cI cJ : ClassId} {q : Nat → Nat} {H : Heap} {locs : List Loc} {ls : Array Slot} {ρ : Bool × MSt} {a5 : Int64} {σ : MSt} (G : CX p s m args meth c D (gTy cB cI cJ) aK aV A RX5 cX5_whole 8 (some .boolean)) (hl : lv_has ls 8 [(0, .ref (q 0)), (5, .long a5)]) (hP : va_P D vwCl (mW cB cI cJ q σ) H) (hD : va_D A (mW cB cI cJ q σ)) (hS : va_S A s.heap H locs) (hf : mm_whole_b79 a5 σ = some ρ) : W p l e (rm_mm_whole) s m args below meth c H locs 0 0 (MQ below (cQ D (gTy cB cI cJ) A (mW cB cI cJ q ρ.2) (some (.int (bI ρ.1)))) args s 0 0 A) (F0 m 79 ls []) := by
  unfold mm_whole_b79 at hf
  obtain ⟨hx, hb, hml, hown, hT, hrt, hlk, hK, hA, hG, hE⟩ := id G
  refine lv_aload_n hx hb dX5_whole_79 rfl (lv_at hl 0 rfl) ?_
  refine lv_iconst (v := (1 : Int32)) hx hb dX5_whole_80 (by decide) ?_
  refine lv_lload hx hb dX5_whole_81 (lv_at hl 1 rfl) ?_
  refine lv_lconst (v := (1 : Int64)) hx hb dX5_whole_83 (by decide) ?_
  refine lv_lsub hx hb dX5_whole_84 ?_
  obtain ⟨x13, hx13, hf⟩ := bd_some hf
  refine vM (As := [.int (1 : Int32), .long (a5 - (1 : Int64))]) (rest := []) G kX5_125 (c_mm_thing hx13) hP hD hS ⟨rfl, rfl, Nat.le_of_ble_eq_true rfl, Nat.le_of_ble_eq_true rfl⟩ ⟨Nat.zero_le _, Nat.zero_le _⟩ rfl hl.1 (Nat.le_of_ble_eq_true rfl) dX5_whole_85 (fun H locs hP hD hS => ?_)
  refine W.eq (g2 := F0 m 88 ls [.int x13.1]) rfl ?_
  refine lv_pop hx hb dX5_whole_88 rfl ?_
  refine lv_goto (tgt := 100) hx hb dX5_whole_89 (by decide) ?_
  refine lv_iconst (v := (1 : Int32)) hx hb dX5_whole_100 (by decide) ?_
  cases hf
  exact ct_iret G (bI_nar true) hP hD hS dX5_whole_101
set_option maxHeartbeats 4000000 in
set_option maxRecDepth 100000 in
theorem mm_whole_t92 {p : Program} {l : Launch} {e : Env} {s : State} {m : MethodId} {args : Array Value} {below : List Frame} {meth : Method} {c : Code} {D : va_G} {aK aV : Nat → Nat} {A : Nat → Prop} {cB cI cJ : ClassId} {q : Nat → Nat} {H : Heap} {locs : List Loc} {ls : Array Slot} {ρ : Bool × MSt} {a5 : Int64} {σ : MSt} (G : CX p s m args meth c D (gTy cB cI cJ) aK aV A RX5 cX5_whole 8 (some .boolean)) (hl : lv_has ls 8 [(0, .ref (q 0)), (5, .long a5)]) (hP : va_P D vwCl (mW cB cI cJ q σ) H) (hD : va_D A (mW cB cI cJ q σ)) (hS : va_S A s.heap H locs) (hf : mm_whole_b92 a5 σ = some ρ) : W p l e (rm_mm_whole) s m args below meth c H locs 0 0 (MQ below (cQ D (gTy cB cI cJ) A (mW cB cI cJ q ρ.2) (some (.int (bI ρ.1)))) args s 0 0 A) (F0 m 92 ls []) := by
  unfold mm_whole_b92 at hf
  obtain ⟨hx, hb, hml, hown, hT, hrt, hlk, hK, hA, hG, hE⟩ := id G
  refine lv_aload_n hx hb dX5_whole_92 rfl (lv_at hl 0 rfl) ?_
  refine lv_iconst (v := (0 : Int32)) hx hb dX5_whole_93 (by decide) ?_
  refine lv_lload hx hb dX5_whole_94 (lv_at hl 1 rfl) ?_
  obtain ⟨x12, hx12, hf⟩ := bd_some hf
  refine vM (As := [.int (0 : Int32), .long a5]) (rest := []) G kX5_125 (c_mm_thing hx12) hP hD hS ⟨rfl, rfl, Nat.le_of_ble_eq_true rfl, Nat.le_of_ble_eq_true rfl⟩ ⟨Nat.zero_le _, Nat.zero_le _⟩ rfl hl.1 (Nat.le_of_ble_eq_true rfl) dX5_whole_96 (fun H locs hP hD hS => ?_)
  refine W.eq (g2 := F0 m 99 ls [.int x12.1]) rfl ?_
  refine lv_pop hx hb dX5_whole_99 rfl ?_
  refine lv_iconst (v := (1 : Int32)) hx hb dX5_whole_100 (by decide) ?_
  cases hf
  exact ct_iret G (bI_nar true) hP hD hS dX5_whole_101
set_option maxHeartbeats 4000000 in
set_option maxRecDepth 100000 in
theorem mm_whole_t30 {p : Program} {l : Launch} {e : Env} {s : State} {m : MethodId} {args : Array Value} {below : List Frame} {meth : Method} {c : Code} {D : va_G} {aK aV : Nat → Nat} {A : Nat → Prop} {cB cI cJ : ClassId} {q : Nat → Nat} {H : Heap} {locs : List Loc} {ls : Array Slot} {ρ : Bool × MSt} {k30 : Int32 → Int32 → Int32 → Int64 → Int32 → MSt → Option (Bool × MSt)} {a2 : Int32} {a3 : Int32} {a4 : Int32} {a5 : Int64} {a7 : Int32} {σ : MSt} (G : CX p s m args meth c D (gTy cB cI cJ) aK aV A RX5 cX5_whole 8 (some .boolean)) (hk30 : ∀ (a2 : Int32) (a3 : Int32) (a4 : Int32) (a5 : Int64) (a7 : Int32) (σ : MSt) (H : Heap) (locs : List Loc) (ls : Array Slot), lv_has ls 8 [(0, .ref (q 0)), (2, .int a2), (3, .int a3), (4, .int a4), (5, .long a5), (7, .int a7)] → va_P D vwCl (mW cB cI cJ q σ) H → va_D A (mW cB cI cJ q σ) → va_S A s.heap H locs → k30 a2 a3 a4 a5 a7 σ = some ρ → W p l e (rm_mm_whole) s m args below meth c H locs 0 0 (MQ below (cQ D (gTy cB cI cJ) A (mW cB cI cJ q ρ.2) (some (.int (bI ρ.1)))) args s 0 0 A) (F0 m 30 ls [])) (hl : lv_has ls 8 [(0, .ref (q 0)), (2, .int a2), (3, .int a3), (4, .int a4), (5, .long a5), (7, .int a7)]) (hP : va_P D vwCl (mW cB cI cJ q σ) H) (hD : va_D A (mW cB cI cJ q σ)) (hS : va_S A s.heap H locs) (hf : mm_whole_b30 k30 a2 a3 a4 a5 a7 σ = some ρ) : W p l e (rm_mm_whole) s m args below meth c H locs 0 0 (MQ below (cQ D (gTy cB cI cJ) A (mW cB cI cJ q ρ.2) (some (.int (bI ρ.1)))) args s 0 0 A) (F0 m 30 ls []) := by
  unfold mm_whole_b30 at hf
  obtain ⟨hx, hb, hml, hown, hT, hrt, hlk, hK, hA, hG, hE⟩ := id G
  refine lv_iload hx hb dX5_whole_30 (lv_at hl 5 rfl) ?_
  refine lv_iload_n hx hb dX5_whole_32 rfl (lv_at hl 1 rfl) ?_
  refine lv_icmp_ge (tgt := 63) hx hb dX5_whole_33 (by decide) (fun c5 => ?_) (fun c5 => ?_)
  · have hf := (if_pos c5).symm.trans hf
    refine lv_iload_n hx hb dX5_whole_63 rfl (lv_at hl 2 rfl) ?_
    refine lv_if_eq (tgt := 92) hx hb dX5_whole_64 (by decide) (fun c6 => ?_) (fun c6 => ?_)
    · have hf := (if_pos c6).symm.trans hf
      exact W.eq (g2 := F0 m 92 ls []) rfl (mm_whole_t92 G (lv_sub hl [0, 4] rfl) hP hD hS hf)
    · have hf := (if_neg c6).symm.trans hf
      refine lv_lload hx hb dX5_whole_67 (lv_at hl 4 rfl) ?_
      refine lv_lconst (v := (0 : Int64)) hx hb dX5_whole_69 (by decide) ?_
      refine W.lcmp hx hb dX5_whole_70 ?_
      refine lv_if_ne (tgt := 79) hx hb dX5_whole_71 (by decide) (fun c7 => ?_) (fun c7 => ?_)
      · have hf := (if_neg (fun z => c7 ((lg_cmp_eq _ _).mpr z))).symm.trans hf
        exact W.eq (g2 := F0 m 79 ls []) rfl (mm_whole_t79 G (lv_sub hl [0, 4] rfl) hP hD hS hf)
      · have hf := (if_pos ((lg_cmp_eq _ _).mp c7)).symm.trans hf
        refine lv_iload hx hb dX5_whole_74 (lv_at hl 3 rfl) ?_
        refine lv_if_ne (tgt := 92) hx hb dX5_whole_76 (by decide) (fun c8 => ?_) (fun c8 => ?_)
        · have hf := (if_neg c8).symm.trans hf
          exact W.eq (g2 := F0 m 92 ls []) rfl (mm_whole_t92 G (lv_sub hl [0, 4] rfl) hP hD hS hf)
        · have hf := (if_pos c8).symm.trans hf
          exact W.eq (g2 := F0 m 79 ls []) rfl (mm_whole_t79 G (lv_sub hl [0, 4] rfl) hP hD hS hf)
  · have hf := (if_neg c5).symm.trans hf
    refine lv_ldc2 (v := (10 : Int64)) hx hb hown (hT _ wc_X5_121) dX5_whole_36 ?_
    refine lv_lload hx hb dX5_whole_39 (lv_at hl 4 rfl) ?_
    refine lv_lmul hx hb dX5_whole_41 ?_
    refine lv_aload_n hx hb dX5_whole_42 rfl (lv_at hl 0 rfl) ?_
    refine gm_X5_tape G hP dX5_whole_43 ?_
    refine lv_iload hx hb dX5_whole_46 (lv_at hl 5 rfl) ?_
    obtain ⟨hi9, hf⟩ := ck_some hf
    refine lm_tape (f := (mf_tape σ)) G hP hi9 dX5_whole_48 rfl ?_
    refine lv_i2l (v := (Int32.toInt64 ((mf_tape σ) (a7).toNatClampNeg))) hx hb dX5_whole_49 rfl ?_
    refine lv_ladd hx hb dX5_whole_50 ?_
    refine lv_ldc2 (v := (48 : Int64)) hx hb hown (hT _ wc_X5_123) dX5_whole_51 ?_
    refine lv_lsub hx hb dX5_whole_54 ?_
    refine lv_topl (fun v10 ev10 => ?_)
    have hf := lt_eq hf ev10
    refine lv_lstore (lv' := [(5, .long v10), (0, .ref (q 0)), (2, .int a2), (3, .int a3), (4, .int a4), (7, .int a7)]) hx hb dX5_whole_55 hl (by decide) rfl (fun ls hl => ?_)
    obtain ⟨v11, ev11⟩ : ∃ y : Int32, y = (a7 + (1 : Int32)) := ⟨_, rfl⟩
    have hf := lt_eq hf ev11
    refine lv_iinc (v := v11) (lv' := [(7, .int v11), (5, .long v10), (0, .ref (q 0)), (2, .int a2), (3, .int a3), (4, .int a4)]) hx hb dX5_whole_57 hl (k := 5) rfl (by rw [ev11]; rfl) (by decide) rfl (fun ls hl => ?_)
    refine lv_goto (tgt := 30) hx hb dX5_whole_60 (by decide) ?_
    exact W.eq (g2 := F0 m 30 ls []) rfl (hk30 _ _ _ _ _ _ _ _ _ (lv_sub hl [2, 3, 4, 5, 1, 0] rfl) hP hD hS hf)
set_option maxHeartbeats 4000000 in
set_option maxRecDepth 100000 in
theorem mm_whole_u30 {p : Program} {l : Launch} {e : Env} {s : State} {m : MethodId} {args : Array Value} {below : List Frame} {meth : Method} {c : Code} {D : va_G} {aK aV : Nat → Nat} {A : Nat → Prop} {cB cI cJ : ClassId} {q : Nat → Nat} {ρ : Bool × MSt} (G : CX p s m args meth c D (gTy cB cI cJ) aK aV A RX5 cX5_whole 8 (some .boolean)) : ∀ (n : Nat) {a2 : Int32} {a3 : Int32} {a4 : Int32} {a5 : Int64} {a7 : Int32} {σ : MSt} {H : Heap} {locs : List Loc} {ls : Array Slot} (hl : lv_has ls 8 [(0, .ref (q 0)), (2, .int a2), (3, .int a3), (4, .int a4), (5, .long a5), (7, .int a7)]) (hP : va_P D vwCl (mW cB cI cJ q σ) H) (hD : va_D A (mW cB cI cJ q σ)) (hS : va_S A s.heap H locs) (hf : mm_whole_L30 n a2 a3 a4 a5 a7 σ = some ρ), W p l e (rm_mm_whole) s m args below meth c H locs 0 0 (MQ below (cQ D (gTy cB cI cJ) A (mW cB cI cJ q ρ.2) (some (.int (bI ρ.1)))) args s 0 0 A) (F0 m 30 ls []) := by
  intro n
  induction n with
  | zero =>
    intros
    rename_i hf
    cases hf
  | succ n ih =>
    intro a2 a3 a4 a5 a7 σ H locs ls hl hP hD hS hf
    exact mm_whole_t30 G (fun _ _ _ _ _ _ H locs ls hl hP hD hS hf => ih hl hP hD hS hf) hl hP hD hS hf
set_option maxHeartbeats 4000000 in
set_option maxRecDepth 100000 in
theorem mm_whole_t0e {p : Program} {l : Launch} {e : Env} {s : State} {m : MethodId} {args : Array Value} {below : List Frame} {meth : Method} {c : Code} {D : va_G} {aK aV : Nat → Nat} {A : Nat → Prop} {cB cI cJ : ClassId} {q : Nat → Nat} {H : Heap} {locs : List Loc} {ls : Array Slot} {ρ : Bool × MSt} {p0 : Int32} {p1 : Int32} {p2 : Int32} {σ : MSt} (G : CX p s m args meth c D (gTy cB cI cJ) aK aV A RX5 cX5_whole 8 (some .boolean)) (hl : lv_has ls 8 [(0, .ref (q 0)), (1, .int p0), (2, .int p1), (3, .int p2)]) (hP : va_P D vwCl (mW cB cI cJ q σ) H) (hD : va_D A (mW cB cI cJ q σ)) (hS : va_S A s.heap H locs) (hf : mm_whole p0 p1 p2 σ = some ρ) : W p l e (rm_mm_whole) s m args below meth c H locs 0 0 (MQ below (cQ D (gTy cB cI cJ) A (mW cB cI cJ q ρ.2) (some (.int (bI ρ.1)))) args s 0 0 A) (F0 m 0 ls []) := by
  unfold mm_whole at hf
  obtain ⟨hx, hb, hml, hown, hT, hrt, hlk, hK, hA, hG, hE⟩ := id G
  refine lv_aload_n hx hb dX5_whole_0 rfl (lv_at hl 0 rfl) ?_
  refine lv_iload_n hx hb dX5_whole_1 rfl (lv_at hl 1 rfl) ?_
  refine lv_iload_n hx hb dX5_whole_2 rfl (lv_at hl 2 rfl) ?_
  obtain ⟨x1, hx1, hf⟩ := bd_some hf
  refine vM (As := [.int p0, .int p1]) (rest := []) G kX5_117 (c_mm_order hx1) hP hD hS ⟨rfl, rfl, Nat.le_of_ble_eq_true rfl, Nat.le_of_ble_eq_true rfl⟩ ⟨Nat.zero_le _, Nat.zero_le _⟩ rfl hl.1 (Nat.le_of_ble_eq_true rfl) dX5_whole_3 (fun H locs hP hD hS => ?_)
  refine W.eq (g2 := F0 m 6 ls [.int x1.1]) rfl ?_
  refine lv_istore (lv' := [(4, .int x1.1), (0, .ref (q 0)), (1, .int p0), (2, .int p1), (3, .int p2)]) hx hb dX5_whole_6 hl (by decide) rfl (fun ls hl => ?_)
  refine lv_iload hx hb dX5_whole_8 (lv_at hl 0 rfl) ?_
  refine lv_if_gt (tgt := 22) hx hb dX5_whole_10 (by decide) (fun c2 => ?_) (fun c2 => ?_)
  · have hf := (if_pos c2).symm.trans hf
    refine lv_iconst (v := (0 : Int32)) hx hb dX5_whole_22 (by decide) ?_
    cases hf
    exact ct_iret G (bI_nar false) hP hD hS dX5_whole_23
  · have hf := (if_neg c2).symm.trans hf
    refine lv_iload hx hb dX5_whole_13 (lv_at hl 0 rfl) ?_
    refine lv_if_ne (tgt := 24) hx hb dX5_whole_15 (by decide) (fun c3 => ?_) (fun c3 => ?_)
    · have hf := (if_neg c3).symm.trans hf
      refine lv_lconst (v := (0 : Int64)) hx hb dX5_whole_24 (by decide) ?_
      refine lv_lstore (lv' := [(5, .long (0 : Int64)), (4, .int x1.1), (0, .ref (q 0)), (1, .int p0), (2, .int p1), (3, .int p2)]) hx hb dX5_whole_25 hl (by decide) rfl (fun ls hl => ?_)
      refine lv_iload_n hx hb dX5_whole_27 rfl (lv_at hl 3 rfl) ?_
      refine lv_istore (lv' := [(7, .int p0), (5, .long (0 : Int64)), (4, .int x1.1), (0, .ref (q 0)), (1, .int p0), (2, .int p1), (3, .int p2)]) hx hb dX5_whole_28 hl (by decide) rfl (fun ls hl => ?_)
      exact W.eq (g2 := F0 m 30 ls []) rfl (mm_whole_u30 G FU (lv_sub hl [3, 5, 6, 2, 1, 0] rfl) hP hD hS hf)
    · have hf := (if_pos c3).symm.trans hf
      refine lv_iload_n hx hb dX5_whole_18 rfl (lv_at hl 4 rfl) ?_
      refine lv_if_ne (tgt := 24) hx hb dX5_whole_19 (by decide) (fun c4 => ?_) (fun c4 => ?_)
      · have hf := (if_neg c4).symm.trans hf
        refine lv_lconst (v := (0 : Int64)) hx hb dX5_whole_24 (by decide) ?_
        refine lv_lstore (lv' := [(5, .long (0 : Int64)), (4, .int x1.1), (0, .ref (q 0)), (1, .int p0), (2, .int p1), (3, .int p2)]) hx hb dX5_whole_25 hl (by decide) rfl (fun ls hl => ?_)
        refine lv_iload_n hx hb dX5_whole_27 rfl (lv_at hl 3 rfl) ?_
        refine lv_istore (lv' := [(7, .int p0), (5, .long (0 : Int64)), (4, .int x1.1), (0, .ref (q 0)), (1, .int p0), (2, .int p1), (3, .int p2)]) hx hb dX5_whole_28 hl (by decide) rfl (fun ls hl => ?_)
        exact W.eq (g2 := F0 m 30 ls []) rfl (mm_whole_u30 G FU (lv_sub hl [3, 5, 6, 2, 1, 0] rfl) hP hD hS hf)
      · have hf := (if_pos c4).symm.trans hf
        refine lv_iconst (v := (0 : Int32)) hx hb dX5_whole_22 (by decide) ?_
        cases hf
        exact ct_iret G (bI_nar false) hP hD hS dX5_whole_23
set_option maxHeartbeats 4000000 in
set_option maxRecDepth 100000 in
theorem c_mm_whole {l : Launch} {D : va_G} {aK aV : Nat → Nat} {cB cI cJ : ClassId} {q : Nat → Nat} {ρ : Bool × MSt} {p0 : Int32} {p1 : Int32} {p2 : Int32} {σ : MSt} (hf : mm_whole p0 p1 p2 σ = some ρ) : CT l D (gTy cB cI cJ) aK aV yX5_whole (wM yX5_whole cX5_whole 8 (some .boolean)) (rm_mm_whole) 0 0 [.ref (q 0), .int p0, .int p1, .int p2] (mW cB cI cJ q σ) (some (.int (bI ρ.1))) (mW cB cI cJ q ρ.2) := by
  refine CT.of (by decide) rfl ?_
  intro p e s m below meth c A G hnm hP hD hS
  have hl := lv_entry [.ref (q 0), .int p0, .int p1, .int p2] (n := 8) (Nat.le_of_ble_eq_true rfl)
  rw [lg_entry_eq]
  generalize (lg_sl [.ref (q 0), .int p0, .int p1, .int p2] ++ List.replicate (8 - (lg_sl [.ref (q 0), .int p0, .int p1, .int p2]).length) Slot.unset).toArray = ls at hl ⊢
  exact mm_whole_t0e G hl hP hD hS hf
def mm_number_b194 (a1 : Int32) (σ : MSt) : Option (Bool × MSt) := bd (mm_wrong (3 : Int32) a1 σ) (fun (x28 : Bool × MSt) => (if x28.1 = true then some (true, x28.2) else some (false, x28.2)))
def mm_number_b178 (a1 : Int32) (a2 : Int32) (a3 : Int32) (a4 : Int32) (a5 : Int32) (σ : MSt) : Option (Bool × MSt) := (if a5 = 0 then mm_number_b194 a1 σ else bd (mm_whole a3 a4 a2 σ) (fun (x24 : Bool × MSt) => (if x24.1 = true then some (true, x24.2) else mm_number_b194 a1 x24.2)))
def mm_number_b169 (a1 : Int32) (a2 : Int32) (a3 : Int32) (a4 : Int32) (a5 : Int32) (σ : MSt) : Option (Bool × MSt) := bd (mm_digits  σ) (fun (x26 : Bool × MSt) => (if x26.1 = true then mm_number_b178 a1 a2 a3 a4 a5 x26.2 else some (false, x26.2)))
def mm_number_b159 (a1 : Int32) (a2 : Int32) (a3 : Int32) (a4 : Int32) (a5 : Int32) (σ : MSt) : Option (Bool × MSt) := mm_number_b169 a1 a2 a3 a4 a5 (ms_at σ ((mf_at σ) + (1 : Int32)))
def mm_number_b128 (a1 : Int32) (a2 : Int32) (a3 : Int32) (a4 : Int32) (σ : MSt) : Option (Bool × MSt) := bd (mm_here  (ms_at σ ((mf_at σ) + (1 : Int32)))) (fun (x19 : Int32 × MSt) => (if x19.1 = (43 : Int32) then mm_number_b159 a1 a2 a3 a4 (0 : Int32) x19.2 else bd (mm_here  x19.2) (fun (x21 : Int32 × MSt) => (if x21.1 = (45 : Int32) then mm_number_b159 a1 a2 a3 a4 (0 : Int32) x21.2 else mm_number_b169 a1 a2 a3 a4 (0 : Int32) x21.2))))
def mm_number_b110 (a1 : Int32) (a2 : Int32) (a3 : Int32) (a4 : Int32) (a5 : Int32) (σ : MSt) : Option (Bool × MSt) := bd (mm_here  σ) (fun (x15 : Int32 × MSt) => (if x15.1 = (101 : Int32) then mm_number_b128 a1 a2 a3 a4 x15.2 else bd (mm_here  x15.2) (fun (x17 : Int32 × MSt) => (if x17.1 = (69 : Int32) then mm_number_b128 a1 a2 a3 a4 x17.2 else mm_number_b178 a1 a2 a3 a4 a5 x17.2))))
def mm_number_b70 (a1 : Int32) (a2 : Int32) (a3 : Int32) (σ : MSt) : Option (Bool × MSt) := lt (mf_at σ) (fun (v10 : Int32) => bd (mm_here  σ) (fun (x11 : Int32 × MSt) => (if x11.1 = (46 : Int32) then bd (mm_digits  (ms_at x11.2 ((mf_at x11.2) + (1 : Int32)))) (fun (x13 : Bool × MSt) => (if x13.1 = true then mm_number_b110 a1 a2 a3 v10 (0 : Int32) x13.2 else some (false, x13.2))) else mm_number_b110 a1 a2 a3 v10 (1 : Int32) x11.2)))
def mm_number_b34 (a1 : Int32) (a2 : Int32) (σ : MSt) : Option (Bool × MSt) := lt (mf_at σ) (fun (v5 : Int32) => bd (mm_here  σ) (fun (x6 : Int32 × MSt) => (if x6.1 = (48 : Int32) then mm_number_b70 a1 a2 v5 (ms_at x6.2 ((mf_at x6.2) + (1 : Int32))) else bd (mm_digits  x6.2) (fun (x8 : Bool × MSt) => (if x8.1 = true then mm_number_b70 a1 a2 v5 x8.2 else some (false, x8.2))))))
def mm_number_b19 (a1 : Int32) (s0 : Int32) (σ : MSt) : Option (Bool × MSt) := (if s0 = 0 then mm_number_b34 a1 s0 σ else mm_number_b34 a1 s0 (ms_at σ ((mf_at σ) + (1 : Int32))))
def mm_number (σ : MSt) : Option (Bool × MSt) := lt (mf_at σ) (fun (v1 : Int32) => bd (mm_here  σ) (fun (x2 : Int32 × MSt) => (if x2.1 = (45 : Int32) then mm_number_b19 v1 (1 : Int32) x2.2 else mm_number_b19 v1 (0 : Int32) x2.2)))
abbrev rm_mm_number : Room := { frames := 6, cells := 0, slots := 0, locals := 137 }
set_option maxHeartbeats 4000000 in
set_option maxRecDepth 100000 in
theorem mm_number_t194 {p : Program} {l : Launch} {e : Env} {s : State} {m : MethodId} {args : Array Value} {below : List Frame} {meth : Method} {c : Code} {D : va_G} {aK aV : Nat → Nat} {A : Nat → Prop} {cB cI cJ : ClassId} {q : Nat → Nat} {H : Heap} {locs : List Loc} {ls : Array Slot} {ρ : Bool × MSt} {a1 : Int32} {σ : MSt} (G : CX p s m args meth c D (gTy cB cI cJ) aK aV A RX5 cX5_number 6 (some .boolean)) (hl : lv_has ls 6 [(0, .ref (q 0)), (1, .int a1)]) (hP : va_P D vwCl (mW cB cI cJ q σ) H) (hD : va_D A (mW cB cI cJ q σ)) (hS : va_S A s.heap H locs) (hf : mm_number_b194 a1 σ = some ρ) : W p l e (rm_mm_number) s m args below meth c H locs 0 0 (MQ below (cQ D (gTy cB cI cJ) A (mW cB cI cJ q ρ.2) (some (.int (bI ρ.1)))) args s 0 0 A) (F0 m 194 ls []) := by
  unfold mm_number_b194 at hf
  obtain ⟨hx, hb, hml, hown, hT, hrt, hlk, hK, hA, hG, hE⟩ := id G
  refine lv_aload_n hx hb dX5_number_194 rfl (lv_at hl 0 rfl) ?_
  refine lv_iconst (v := (3 : Int32)) hx hb dX5_number_195 (by decide) ?_
  refine lv_iload_n hx hb dX5_number_196 rfl (lv_at hl 1 rfl) ?_
  obtain ⟨x28, hx28, hf⟩ := bd_some hf
  refine vM (As := [.int (3 : Int32), .int a1]) (rest := []) G kX5_90 (c_mm_wrong hx28) hP hD hS ⟨rfl, rfl, Nat.le_of_ble_eq_true rfl, Nat.le_of_ble_eq_true rfl⟩ ⟨Nat.zero_le _, Nat.zero_le _⟩ rfl hl.1 (Nat.le_of_ble_eq_true rfl) dX5_number_197 (fun H locs hP hD hS => ?_)
  refine W.eq (g2 := F0 m 200 ls [.int (bI x28.1)]) rfl ?_
  refine lv_if_eq (tgt := 207) hx hb dX5_number_200 (by decide) (fun c29 => ?_) (fun c29 => ?_)
  · have hf := (if_neg (bI_0 c29)).symm.trans hf
    refine lv_iconst (v := (0 : Int32)) hx hb dX5_number_207 (by decide) ?_
    cases hf
    exact ct_iret G (bI_nar false) hP hD hS dX5_number_208
  · have hf := (if_pos (bI_n c29)).symm.trans hf
    refine lv_iconst (v := (1 : Int32)) hx hb dX5_number_203 (by decide) ?_
    refine lv_goto (tgt := 208) hx hb dX5_number_204 (by decide) ?_
    cases hf
    exact ct_iret G (bI_nar true) hP hD hS dX5_number_208
set_option maxHeartbeats 4000000 in
set_option maxRecDepth 100000 in
theorem mm_number_t178 {p : Program} {l : Launch} {e : Env} {s : State} {m : MethodId} {args : Array Value} {below : List Frame} {meth : Method} {c : Code} {D : va_G} {aK aV : Nat → Nat} {A : Nat → Prop} {cB cI cJ : ClassId} {q : Nat → Nat} {H : Heap} {locs : List Loc} {ls : Array Slot} {ρ : Bool × MSt} {a1 : Int32} {a2 : Int32} {a3 : Int32} {a4 : Int32} {a5 : Int32} {σ : MSt} (G : CX p s m args meth c D (gTy cB cI cJ) aK aV A RX5 cX5_number 6 (some .boolean)) (hl : lv_has ls 6 [(0, .ref (q 0)), (1, .int a1), (2, .int a2), (3, .int a3), (4, .int a4), (5, .int a5)]) (hP : va_P D vwCl (mW cB cI cJ q σ) H) (hD : va_D A (mW cB cI cJ q σ)) (hS : va_S A s.heap H locs) (hf : mm_number_b178 a1 a2 a3 a4 a5 σ = some ρ) : W p l e (rm_mm_number) s m args below meth c H locs 0 0 (MQ below (cQ D (gTy cB cI cJ) A (mW cB cI cJ q ρ.2) (some (.int (bI ρ.1)))) args s 0 0 A) (F0 m 178 ls []) := by
  unfold mm_number_b178 at hf
  obtain ⟨hx, hb, hml, hown, hT, hrt, hlk, hK, hA, hG, hE⟩ := id G
  refine lv_iload hx hb dX5_number_178 (lv_at hl 5 rfl) ?_
  refine lv_if_eq (tgt := 194) hx hb dX5_number_180 (by decide) (fun c23 => ?_) (fun c23 => ?_)
  · have hf := (if_pos c23).symm.trans hf
    exact W.eq (g2 := F0 m 194 ls []) rfl (mm_number_t194 G (lv_sub hl [0, 1] rfl) hP hD hS hf)
  · have hf := (if_neg c23).symm.trans hf
    refine lv_aload_n hx hb dX5_number_183 rfl (lv_at hl 0 rfl) ?_
    refine lv_iload_n hx hb dX5_number_184 rfl (lv_at hl 3 rfl) ?_
    refine lv_iload hx hb dX5_number_185 (lv_at hl 4 rfl) ?_
    refine lv_iload_n hx hb dX5_number_187 rfl (lv_at hl 2 rfl) ?_
    obtain ⟨x24, hx24, hf⟩ := bd_some hf
    refine vM (As := [.int a3, .int a4, .int a2]) (rest := []) G kX5_105 (c_mm_whole hx24) hP hD hS ⟨rfl, rfl, Nat.le_of_ble_eq_true rfl, Nat.le_of_ble_eq_true rfl⟩ ⟨Nat.zero_le _, Nat.zero_le _⟩ rfl hl.1 (Nat.le_of_ble_eq_true rfl) dX5_number_188 (fun H locs hP hD hS => ?_)
    refine W.eq (g2 := F0 m 191 ls [.int (bI x24.1)]) rfl ?_
    refine lv_if_ne (tgt := 203) hx hb dX5_number_191 (by decide) (fun c25 => ?_) (fun c25 => ?_)
    · have hf := (if_pos (bI_n c25)).symm.trans hf
      refine lv_iconst (v := (1 : Int32)) hx hb dX5_number_203 (by decide) ?_
      refine lv_goto (tgt := 208) hx hb dX5_number_204 (by decide) ?_
      cases hf
      exact ct_iret G (bI_nar true) hP hD hS dX5_number_208
    · have hf := (if_neg (bI_0 c25)).symm.trans hf
      exact W.eq (g2 := F0 m 194 ls []) rfl (mm_number_t194 G (lv_sub hl [0, 1] rfl) hP hD hS hf)
set_option maxHeartbeats 4000000 in
set_option maxRecDepth 100000 in
theorem mm_number_t169 {p : Program} {l : Launch} {e : Env} {s : State} {m : MethodId} {args : Array Value} {below : List Frame} {meth : Method} {c : Code} {D : va_G} {aK aV : Nat → Nat} {A : Nat → Prop} {cB cI cJ : ClassId} {q : Nat → Nat} {H : Heap} {locs : List Loc} {ls : Array Slot} {ρ : Bool × MSt} {a1 : Int32} {a2 : Int32} {a3 : Int32} {a4 : Int32} {a5 : Int32} {σ : MSt} (G : CX p s m args meth c D (gTy cB cI cJ) aK aV A RX5 cX5_number 6 (some .boolean)) (hl : lv_has ls 6 [(0, .ref (q 0)), (1, .int a1), (2, .int a2), (3, .int a3), (4, .int a4), (5, .int a5)]) (hP : va_P D vwCl (mW cB cI cJ q σ) H) (hD : va_D A (mW cB cI cJ q σ)) (hS : va_S A s.heap H locs) (hf : mm_number_b169 a1 a2 a3 a4 a5 σ = some ρ) : W p l e (rm_mm_number) s m args below meth c H locs 0 0 (MQ below (cQ D (gTy cB cI cJ) A (mW cB cI cJ q ρ.2) (some (.int (bI ρ.1)))) args s 0 0 A) (F0 m 169 ls []) := by
  unfold mm_number_b169 at hf
  obtain ⟨hx, hb, hml, hown, hT, hrt, hlk, hK, hA, hG, hE⟩ := id G
  refine lv_aload_n hx hb dX5_number_169 rfl (lv_at hl 0 rfl) ?_
  obtain ⟨x26, hx26, hf⟩ := bd_some hf
  refine vM (As := []) (rest := []) G kX5_102 (c_mm_digits hx26) hP hD hS ⟨rfl, rfl, Nat.le_of_ble_eq_true rfl, Nat.le_of_ble_eq_true rfl⟩ ⟨Nat.zero_le _, Nat.zero_le _⟩ rfl hl.1 (Nat.le_of_ble_eq_true rfl) dX5_number_170 (fun H locs hP hD hS => ?_)
  refine W.eq (g2 := F0 m 173 ls [.int (bI x26.1)]) rfl ?_
  refine lv_if_ne (tgt := 178) hx hb dX5_number_173 (by decide) (fun c27 => ?_) (fun c27 => ?_)
  · have hf := (if_pos (bI_n c27)).symm.trans hf
    exact W.eq (g2 := F0 m 178 ls []) rfl (mm_number_t178 G (lv_sub hl [0, 1, 2, 3, 4, 5] rfl) hP hD hS hf)
  · have hf := (if_neg (bI_0 c27)).symm.trans hf
    refine lv_iconst (v := (0 : Int32)) hx hb dX5_number_176 (by decide) ?_
    cases hf
    exact ct_iret G (bI_nar false) hP hD hS dX5_number_177
set_option maxHeartbeats 4000000 in
set_option maxRecDepth 100000 in
theorem mm_number_t159 {p : Program} {l : Launch} {e : Env} {s : State} {m : MethodId} {args : Array Value} {below : List Frame} {meth : Method} {c : Code} {D : va_G} {aK aV : Nat → Nat} {A : Nat → Prop} {cB cI cJ : ClassId} {q : Nat → Nat} {H : Heap} {locs : List Loc} {ls : Array Slot} {ρ : Bool × MSt} {a1 : Int32} {a2 : Int32} {a3 : Int32} {a4 : Int32} {a5 : Int32} {σ : MSt} (G : CX p s m args meth c D (gTy cB cI cJ) aK aV A RX5 cX5_number 6 (some .boolean)) (hl : lv_has ls 6 [(0, .ref (q 0)), (1, .int a1), (2, .int a2), (3, .int a3), (4, .int a4), (5, .int a5)]) (hP : va_P D vwCl (mW cB cI cJ q σ) H) (hD : va_D A (mW cB cI cJ q σ)) (hS : va_S A s.heap H locs) (hf : mm_number_b159 a1 a2 a3 a4 a5 σ = some ρ) : W p l e (rm_mm_number) s m args below meth c H locs 0 0 (MQ below (cQ D (gTy cB cI cJ) A (mW cB cI cJ q ρ.2) (some (.int (bI ρ.1)))) args s 0 0 A) (F0 m 159 ls []) := by
  unfold mm_number_b159 at hf
  obtain ⟨hx, hb, hml, hown, hT, hrt, hlk, hK, hA, hG, hE⟩ := id G
  refine lv_aload_n hx hb dX5_number_159 rfl (lv_at hl 0 rfl) ?_
  refine lv_dup hx hb dX5_number_160 rfl ?_
  refine gm_X5_at (v := (mf_at σ)) G hP dX5_number_161 rfl ?_
  refine lv_iconst (v := (1 : Int32)) hx hb dX5_number_164 (by decide) ?_
  refine lv_iadd hx hb dX5_number_165 ?_
  refine pm_X5_at (v := ((mf_at σ) + (1 : Int32))) G hP hD hS dX5_number_166 (fun H locs hP hD hS => ?_)
  exact W.eq (g2 := F0 m 169 ls []) rfl (mm_number_t169 G (lv_sub hl [0, 1, 2, 3, 4, 5] rfl) hP hD hS hf)
set_option maxHeartbeats 4000000 in
set_option maxRecDepth 100000 in
theorem mm_number_t128 {p : Program} {l : Launch} {e : Env} {s : State} {m : MethodId} {args : Array Value} {below : List Frame} {meth : Method} {c : Code} {D : va_G} {aK aV : Nat → Nat} {A : Nat → Prop} {cB cI cJ : ClassId} {q : Nat → Nat} {H : Heap} {locs : List Loc} {ls : Array Slot} {ρ : Bool × MSt} {a1 : Int32} {a2 : Int32} {a3 : Int32} {a4 : Int32} {σ : MSt} (G : CX p s m args meth c D (gTy cB cI cJ) aK aV A RX5 cX5_number 6 (some .boolean)) (hl : lv_has ls 6 [(0, .ref (q 0)), (1, .int a1), (2, .int a2), (3, .int a3), (4, .int a4)]) (hP : va_P D vwCl (mW cB cI cJ q σ) H) (hD : va_D A (mW cB cI cJ q σ)) (hS : va_S A s.heap H locs) (hf : mm_number_b128 a1 a2 a3 a4 σ = some ρ) : W p l e (rm_mm_number) s m args below meth c H locs 0 0 (MQ below (cQ D (gTy cB cI cJ) A (mW cB cI cJ q ρ.2) (some (.int (bI ρ.1)))) args s 0 0 A) (F0 m 128 ls []) := by
  unfold mm_number_b128 at hf
  obtain ⟨hx, hb, hml, hown, hT, hrt, hlk, hK, hA, hG, hE⟩ := id G
  refine lv_iconst (v := (0 : Int32)) hx hb dX5_number_128 (by decide) ?_
  refine lv_istore (lv' := [(5, .int (0 : Int32)), (0, .ref (q 0)), (1, .int a1), (2, .int a2), (3, .int a3), (4, .int a4)]) hx hb dX5_number_129 hl (by decide) rfl (fun ls hl => ?_)
  refine lv_aload_n hx hb dX5_number_131 rfl (lv_at hl 1 rfl) ?_
  refine lv_dup hx hb dX5_number_132 rfl ?_
  refine gm_X5_at (v := (mf_at σ)) G hP dX5_number_133 rfl ?_
  refine lv_iconst (v := (1 : Int32)) hx hb dX5_number_136 (by decide) ?_
  refine lv_iadd hx hb dX5_number_137 ?_
  refine pm_X5_at (v := ((mf_at σ) + (1 : Int32))) G hP hD hS dX5_number_138 (fun H locs hP hD hS => ?_)
  refine lv_aload_n hx hb dX5_number_141 rfl (lv_at hl 1 rfl) ?_
  obtain ⟨x19, hx19, hf⟩ := bd_some hf
  refine vM (As := []) (rest := []) G kX5_86 (c_mm_here hx19) hP hD hS ⟨rfl, rfl, Nat.le_of_ble_eq_true rfl, Nat.le_of_ble_eq_true rfl⟩ ⟨Nat.zero_le _, Nat.zero_le _⟩ rfl hl.1 (Nat.le_of_ble_eq_true rfl) dX5_number_142 (fun H locs hP hD hS => ?_)
  refine W.eq (g2 := F0 m 145 ls [.int x19.1]) rfl ?_
  refine lv_bipush (v := (43 : Int32)) hx hb dX5_number_145 (by decide) ?_
  refine lv_icmp_eq (tgt := 159) hx hb dX5_number_147 (by decide) (fun c20 => ?_) (fun c20 => ?_)
  · have hf := (if_pos c20).symm.trans hf
    exact W.eq (g2 := F0 m 159 ls []) rfl (mm_number_t159 G (lv_sub hl [1, 2, 3, 4, 5, 0] rfl) hP hD hS hf)
  · have hf := (if_neg c20).symm.trans hf
    refine lv_aload_n hx hb dX5_number_150 rfl (lv_at hl 1 rfl) ?_
    obtain ⟨x21, hx21, hf⟩ := bd_some hf
    refine vM (As := []) (rest := []) G kX5_86 (c_mm_here hx21) hP hD hS ⟨rfl, rfl, Nat.le_of_ble_eq_true rfl, Nat.le_of_ble_eq_true rfl⟩ ⟨Nat.zero_le _, Nat.zero_le _⟩ rfl hl.1 (Nat.le_of_ble_eq_true rfl) dX5_number_151 (fun H locs hP hD hS => ?_)
    refine W.eq (g2 := F0 m 154 ls [.int x21.1]) rfl ?_
    refine lv_bipush (v := (45 : Int32)) hx hb dX5_number_154 (by decide) ?_
    refine lv_icmp_ne (tgt := 169) hx hb dX5_number_156 (by decide) (fun c22 => ?_) (fun c22 => ?_)
    · have hf := (if_neg c22).symm.trans hf
      exact W.eq (g2 := F0 m 169 ls []) rfl (mm_number_t169 G (lv_sub hl [1, 2, 3, 4, 5, 0] rfl) hP hD hS hf)
    · have hf := (if_pos c22).symm.trans hf
      exact W.eq (g2 := F0 m 159 ls []) rfl (mm_number_t159 G (lv_sub hl [1, 2, 3, 4, 5, 0] rfl) hP hD hS hf)
set_option maxHeartbeats 4000000 in
set_option maxRecDepth 100000 in
theorem mm_number_t110 {p : Program} {l : Launch} {e : Env} {s : State} {m : MethodId} {args : Array Value} {below : List Frame} {meth : Method} {c : Code} {D : va_G} {aK aV : Nat → Nat} {A : Nat → Prop} {cB cI cJ : ClassId} {q : Nat → Nat} {H : Heap} {locs : List Loc} {ls : Array Slot} {ρ : Bool × MSt} {a1 : Int32} {a2 : Int32} {a3 : Int32} {a4 : Int32} {a5 : Int32} {σ : MSt} (G : CX p s m args meth c D (gTy cB cI cJ) aK aV A RX5 cX5_number 6 (some .boolean)) (hl : lv_has ls 6 [(0, .ref (q 0)), (1, .int a1), (2, .int a2), (3, .int a3), (4, .int a4), (5, .int a5)]) (hP : va_P D vwCl (mW cB cI cJ q σ) H) (hD : va_D A (mW cB cI cJ q σ)) (hS : va_S A s.heap H locs) (hf : mm_number_b110 a1 a2 a3 a4 a5 σ = some ρ) : W p l e (rm_mm_number) s m args below meth c H locs 0 0 (MQ below (cQ D (gTy cB cI cJ) A (mW cB cI cJ q ρ.2) (some (.int (bI ρ.1)))) args s 0 0 A) (F0 m 110 ls []) := by
  unfold mm_number_b110 at hf
  obtain ⟨hx, hb, hml, hown, hT, hrt, hlk, hK, hA, hG, hE⟩ := id G
  refine lv_aload_n hx hb dX5_number_110 rfl (lv_at hl 0 rfl) ?_
  obtain ⟨x15, hx15, hf⟩ := bd_some hf
  refine vM (As := []) (rest := []) G kX5_86 (c_mm_here hx15) hP hD hS ⟨rfl, rfl, Nat.le_of_ble_eq_true rfl, Nat.le_of_ble_eq_true rfl⟩ ⟨Nat.zero_le _, Nat.zero_le _⟩ rfl hl.1 (Nat.le_of_ble_eq_true rfl) dX5_number_111 (fun H locs hP hD hS => ?_)
  refine W.eq (g2 := F0 m 114 ls [.int x15.1]) rfl ?_
  refine lv_bipush (v := (101 : Int32)) hx hb dX5_number_114 (by decide) ?_
  refine lv_icmp_eq (tgt := 128) hx hb dX5_number_116 (by decide) (fun c16 => ?_) (fun c16 => ?_)
  · have hf := (if_pos c16).symm.trans hf
    exact W.eq (g2 := F0 m 128 ls []) rfl (mm_number_t128 G (lv_sub hl [0, 1, 2, 3, 4] rfl) hP hD hS hf)
  · have hf := (if_neg c16).symm.trans hf
    refine lv_aload_n hx hb dX5_number_119 rfl (lv_at hl 0 rfl) ?_
    obtain ⟨x17, hx17, hf⟩ := bd_some hf
    refine vM (As := []) (rest := []) G kX5_86 (c_mm_here hx17) hP hD hS ⟨rfl, rfl, Nat.le_of_ble_eq_true rfl, Nat.le_of_ble_eq_true rfl⟩ ⟨Nat.zero_le _, Nat.zero_le _⟩ rfl hl.1 (Nat.le_of_ble_eq_true rfl) dX5_number_120 (fun H locs hP hD hS => ?_)
    refine W.eq (g2 := F0 m 123 ls [.int x17.1]) rfl ?_
    refine lv_bipush (v := (69 : Int32)) hx hb dX5_number_123 (by decide) ?_
    refine lv_icmp_ne (tgt := 178) hx hb dX5_number_125 (by decide) (fun c18 => ?_) (fun c18 => ?_)
    · have hf := (if_neg c18).symm.trans hf
      exact W.eq (g2 := F0 m 178 ls []) rfl (mm_number_t178 G (lv_sub hl [0, 1, 2, 3, 4, 5] rfl) hP hD hS hf)
    · have hf := (if_pos c18).symm.trans hf
      exact W.eq (g2 := F0 m 128 ls []) rfl (mm_number_t128 G (lv_sub hl [0, 1, 2, 3, 4] rfl) hP hD hS hf)
set_option maxHeartbeats 4000000 in
set_option maxRecDepth 100000 in
theorem mm_number_t70 {p : Program} {l : Launch} {e : Env} {s : State} {m : MethodId} {args : Array Value} {below : List Frame} {meth : Method} {c : Code} {D : va_G} {aK aV : Nat → Nat} {A : Nat → Prop} {cB cI cJ : ClassId} {q : Nat → Nat} {H : Heap} {locs : List Loc} {ls : Array Slot} {ρ : Bool × MSt} {a1 : Int32} {a2 : Int32} {a3 : Int32} {σ : MSt} (G : CX p s m args meth c D (gTy cB cI cJ) aK aV A RX5 cX5_number 6 (some .boolean)) (hl : lv_has ls 6 [(0, .ref (q 0)), (1, .int a1), (2, .int a2), (3, .int a3)]) (hP : va_P D vwCl (mW cB cI cJ q σ) H) (hD : va_D A (mW cB cI cJ q σ)) (hS : va_S A s.heap H locs) (hf : mm_number_b70 a1 a2 a3 σ = some ρ) : W p l e (rm_mm_number) s m args below meth c H locs 0 0 (MQ below (cQ D (gTy cB cI cJ) A (mW cB cI cJ q ρ.2) (some (.int (bI ρ.1)))) args s 0 0 A) (F0 m 70 ls []) := by
  unfold mm_number_b70 at hf
  obtain ⟨hx, hb, hml, hown, hT, hrt, hlk, hK, hA, hG, hE⟩ := id G
  refine lv_aload_n hx hb dX5_number_70 rfl (lv_at hl 0 rfl) ?_
  refine gm_X5_at (v := (mf_at σ)) G hP dX5_number_71 rfl ?_
  refine lv_topi (fun v10 ev10 => ?_)
  have hf := lt_eq hf ev10
  refine lv_istore (lv' := [(4, .int v10), (0, .ref (q 0)), (1, .int a1), (2, .int a2), (3, .int a3)]) hx hb dX5_number_74 hl (by decide) rfl (fun ls hl => ?_)
  refine lv_iconst (v := (1 : Int32)) hx hb dX5_number_76 (by decide) ?_
  refine lv_istore (lv' := [(5, .int (1 : Int32)), (4, .int v10), (0, .ref (q 0)), (1, .int a1), (2, .int a2), (3, .int a3)]) hx hb dX5_number_77 hl (by decide) rfl (fun ls hl => ?_)
  refine lv_aload_n hx hb dX5_number_79 rfl (lv_at hl 2 rfl) ?_
  obtain ⟨x11, hx11, hf⟩ := bd_some hf
  refine vM (As := []) (rest := []) G kX5_86 (c_mm_here hx11) hP hD hS ⟨rfl, rfl, Nat.le_of_ble_eq_true rfl, Nat.le_of_ble_eq_true rfl⟩ ⟨Nat.zero_le _, Nat.zero_le _⟩ rfl hl.1 (Nat.le_of_ble_eq_true rfl) dX5_number_80 (fun H locs hP hD hS => ?_)
  refine W.eq (g2 := F0 m 83 ls [.int x11.1]) rfl ?_
  refine lv_bipush (v := (46 : Int32)) hx hb dX5_number_83 (by decide) ?_
  refine lv_icmp_ne (tgt := 110) hx hb dX5_number_85 (by decide) (fun c12 => ?_) (fun c12 => ?_)
  · have hf := (if_neg c12).symm.trans hf
    exact W.eq (g2 := F0 m 110 ls []) rfl (mm_number_t110 G (lv_sub hl [2, 3, 4, 5, 1, 0] rfl) hP hD hS hf)
  · have hf := (if_pos c12).symm.trans hf
    refine lv_iconst (v := (0 : Int32)) hx hb dX5_number_88 (by decide) ?_
    refine lv_istore (lv' := [(5, .int (0 : Int32)), (4, .int v10), (0, .ref (q 0)), (1, .int a1), (2, .int a2), (3, .int a3)]) hx hb dX5_number_89 hl (by decide) rfl (fun ls hl => ?_)
    refine lv_aload_n hx hb dX5_number_91 rfl (lv_at hl 2 rfl) ?_
    refine lv_dup hx hb dX5_number_92 rfl ?_
    refine gm_X5_at (v := (mf_at x11.2)) G hP dX5_number_93 rfl ?_
    refine lv_iconst (v := (1 : Int32)) hx hb dX5_number_96 (by decide) ?_
    refine lv_iadd hx hb dX5_number_97 ?_
    refine pm_X5_at (v := ((mf_at x11.2) + (1 : Int32))) G hP hD hS dX5_number_98 (fun H locs hP hD hS => ?_)
    refine lv_aload_n hx hb dX5_number_101 rfl (lv_at hl 2 rfl) ?_
    obtain ⟨x13, hx13, hf⟩ := bd_some hf
    refine vM (As := []) (rest := []) G kX5_102 (c_mm_digits hx13) hP hD hS ⟨rfl, rfl, Nat.le_of_ble_eq_true rfl, Nat.le_of_ble_eq_true rfl⟩ ⟨Nat.zero_le _, Nat.zero_le _⟩ rfl hl.1 (Nat.le_of_ble_eq_true rfl) dX5_number_102 (fun H locs hP hD hS => ?_)
    refine W.eq (g2 := F0 m 105 ls [.int (bI x13.1)]) rfl ?_
    refine lv_if_ne (tgt := 110) hx hb dX5_number_105 (by decide) (fun c14 => ?_) (fun c14 => ?_)
    · have hf := (if_pos (bI_n c14)).symm.trans hf
      exact W.eq (g2 := F0 m 110 ls []) rfl (mm_number_t110 G (lv_sub hl [2, 3, 4, 5, 1, 0] rfl) hP hD hS hf)
    · have hf := (if_neg (bI_0 c14)).symm.trans hf
      refine lv_iconst (v := (0 : Int32)) hx hb dX5_number_108 (by decide) ?_
      cases hf
      exact ct_iret G (bI_nar false) hP hD hS dX5_number_109
set_option maxHeartbeats 4000000 in
set_option maxRecDepth 100000 in
theorem mm_number_t34 {p : Program} {l : Launch} {e : Env} {s : State} {m : MethodId} {args : Array Value} {below : List Frame} {meth : Method} {c : Code} {D : va_G} {aK aV : Nat → Nat} {A : Nat → Prop} {cB cI cJ : ClassId} {q : Nat → Nat} {H : Heap} {locs : List Loc} {ls : Array Slot} {ρ : Bool × MSt} {a1 : Int32} {a2 : Int32} {σ : MSt} (G : CX p s m args meth c D (gTy cB cI cJ) aK aV A RX5 cX5_number 6 (some .boolean)) (hl : lv_has ls 6 [(0, .ref (q 0)), (1, .int a1), (2, .int a2)]) (hP : va_P D vwCl (mW cB cI cJ q σ) H) (hD : va_D A (mW cB cI cJ q σ)) (hS : va_S A s.heap H locs) (hf : mm_number_b34 a1 a2 σ = some ρ) : W p l e (rm_mm_number) s m args below meth c H locs 0 0 (MQ below (cQ D (gTy cB cI cJ) A (mW cB cI cJ q ρ.2) (some (.int (bI ρ.1)))) args s 0 0 A) (F0 m 34 ls []) := by
  unfold mm_number_b34 at hf
  obtain ⟨hx, hb, hml, hown, hT, hrt, hlk, hK, hA, hG, hE⟩ := id G
  refine lv_aload_n hx hb dX5_number_34 rfl (lv_at hl 0 rfl) ?_
  refine gm_X5_at (v := (mf_at σ)) G hP dX5_number_35 rfl ?_
  refine lv_topi (fun v5 ev5 => ?_)
  have hf := lt_eq hf ev5
  refine lv_istore_n (lv' := [(3, .int v5), (0, .ref (q 0)), (1, .int a1), (2, .int a2)]) hx hb dX5_number_38 rfl hl (by decide) rfl (fun ls hl => ?_)
  refine lv_aload_n hx hb dX5_number_39 rfl (lv_at hl 1 rfl) ?_
  obtain ⟨x6, hx6, hf⟩ := bd_some hf
  refine vM (As := []) (rest := []) G kX5_86 (c_mm_here hx6) hP hD hS ⟨rfl, rfl, Nat.le_of_ble_eq_true rfl, Nat.le_of_ble_eq_true rfl⟩ ⟨Nat.zero_le _, Nat.zero_le _⟩ rfl hl.1 (Nat.le_of_ble_eq_true rfl) dX5_number_40 (fun H locs hP hD hS => ?_)
  refine W.eq (g2 := F0 m 43 ls [.int x6.1]) rfl ?_
  refine lv_bipush (v := (48 : Int32)) hx hb dX5_number_43 (by decide) ?_
  refine lv_icmp_ne (tgt := 61) hx hb dX5_number_45 (by decide) (fun c7 => ?_) (fun c7 => ?_)
  · have hf := (if_neg c7).symm.trans hf
    refine lv_aload_n hx hb dX5_number_61 rfl (lv_at hl 1 rfl) ?_
    obtain ⟨x8, hx8, hf⟩ := bd_some hf
    refine vM (As := []) (rest := []) G kX5_102 (c_mm_digits hx8) hP hD hS ⟨rfl, rfl, Nat.le_of_ble_eq_true rfl, Nat.le_of_ble_eq_true rfl⟩ ⟨Nat.zero_le _, Nat.zero_le _⟩ rfl hl.1 (Nat.le_of_ble_eq_true rfl) dX5_number_62 (fun H locs hP hD hS => ?_)
    refine W.eq (g2 := F0 m 65 ls [.int (bI x8.1)]) rfl ?_
    refine lv_if_ne (tgt := 70) hx hb dX5_number_65 (by decide) (fun c9 => ?_) (fun c9 => ?_)
    · have hf := (if_pos (bI_n c9)).symm.trans hf
      exact W.eq (g2 := F0 m 70 ls []) rfl (mm_number_t70 G (lv_sub hl [1, 2, 3, 0] rfl) hP hD hS hf)
    · have hf := (if_neg (bI_0 c9)).symm.trans hf
      refine lv_iconst (v := (0 : Int32)) hx hb dX5_number_68 (by decide) ?_
      cases hf
      exact ct_iret G (bI_nar false) hP hD hS dX5_number_69
  · have hf := (if_pos c7).symm.trans hf
    refine lv_aload_n hx hb dX5_number_48 rfl (lv_at hl 1 rfl) ?_
    refine lv_dup hx hb dX5_number_49 rfl ?_
    refine gm_X5_at (v := (mf_at x6.2)) G hP dX5_number_50 rfl ?_
    refine lv_iconst (v := (1 : Int32)) hx hb dX5_number_53 (by decide) ?_
    refine lv_iadd hx hb dX5_number_54 ?_
    refine pm_X5_at (v := ((mf_at x6.2) + (1 : Int32))) G hP hD hS dX5_number_55 (fun H locs hP hD hS => ?_)
    refine lv_goto (tgt := 70) hx hb dX5_number_58 (by decide) ?_
    exact W.eq (g2 := F0 m 70 ls []) rfl (mm_number_t70 G (lv_sub hl [1, 2, 3, 0] rfl) hP hD hS hf)
set_option maxHeartbeats 4000000 in
set_option maxRecDepth 100000 in
theorem mm_number_t19 {p : Program} {l : Launch} {e : Env} {s : State} {m : MethodId} {args : Array Value} {below : List Frame} {meth : Method} {c : Code} {D : va_G} {aK aV : Nat → Nat} {A : Nat → Prop} {cB cI cJ : ClassId} {q : Nat → Nat} {H : Heap} {locs : List Loc} {ls : Array Slot} {ρ : Bool × MSt} {a1 : Int32} {s0 : Int32} {σ : MSt} (G : CX p s m args meth c D (gTy cB cI cJ) aK aV A RX5 cX5_number 6 (some .boolean)) (hl : lv_has ls 6 [(0, .ref (q 0)), (1, .int a1)]) (hP : va_P D vwCl (mW cB cI cJ q σ) H) (hD : va_D A (mW cB cI cJ q σ)) (hS : va_S A s.heap H locs) (hf : mm_number_b19 a1 s0 σ = some ρ) : W p l e (rm_mm_number) s m args below meth c H locs 0 0 (MQ below (cQ D (gTy cB cI cJ) A (mW cB cI cJ q ρ.2) (some (.int (bI ρ.1)))) args s 0 0 A) (F0 m 19 ls [.int s0]) := by
  unfold mm_number_b19 at hf
  obtain ⟨hx, hb, hml, hown, hT, hrt, hlk, hK, hA, hG, hE⟩ := id G
  refine lv_istore_n (lv' := [(2, .int s0), (0, .ref (q 0)), (1, .int a1)]) hx hb dX5_number_19 rfl hl (by decide) rfl (fun ls hl => ?_)
  refine lv_iload_n hx hb dX5_number_20 rfl (lv_at hl 0 rfl) ?_
  refine lv_if_eq (tgt := 34) hx hb dX5_number_21 (by decide) (fun c4 => ?_) (fun c4 => ?_)
  · have hf := (if_pos c4).symm.trans hf
    exact W.eq (g2 := F0 m 34 ls []) rfl (mm_number_t34 G (lv_sub hl [1, 2, 0] rfl) hP hD hS hf)
  · have hf := (if_neg c4).symm.trans hf
    refine lv_aload_n hx hb dX5_number_24 rfl (lv_at hl 1 rfl) ?_
    refine lv_dup hx hb dX5_number_25 rfl ?_
    refine gm_X5_at (v := (mf_at σ)) G hP dX5_number_26 rfl ?_
    refine lv_iconst (v := (1 : Int32)) hx hb dX5_number_29 (by decide) ?_
    refine lv_iadd hx hb dX5_number_30 ?_
    refine pm_X5_at (v := ((mf_at σ) + (1 : Int32))) G hP hD hS dX5_number_31 (fun H locs hP hD hS => ?_)
    exact W.eq (g2 := F0 m 34 ls []) rfl (mm_number_t34 G (lv_sub hl [1, 2, 0] rfl) hP hD hS hf)
set_option maxHeartbeats 4000000 in
set_option maxRecDepth 100000 in
theorem mm_number_t0e {p : Program} {l : Launch} {e : Env} {s : State} {m : MethodId} {args : Array Value} {below : List Frame} {meth : Method} {c : Code} {D : va_G} {aK aV : Nat → Nat} {A : Nat → Prop} {cB cI cJ : ClassId} {q : Nat → Nat} {H : Heap} {locs : List Loc} {ls : Array Slot} {ρ : Bool × MSt} {σ : MSt} (G : CX p s m args meth c D (gTy cB cI cJ) aK aV A RX5 cX5_number 6 (some .boolean)) (hl : lv_has ls 6 [(0, .ref (q 0))]) (hP : va_P D vwCl (mW cB cI cJ q σ) H) (hD : va_D A (mW cB cI cJ q σ)) (hS : va_S A s.heap H locs) (hf : mm_number σ = some ρ) : W p l e (rm_mm_number) s m args below meth c H locs 0 0 (MQ below (cQ D (gTy cB cI cJ) A (mW cB cI cJ q ρ.2) (some (.int (bI ρ.1)))) args s 0 0 A) (F0 m 0 ls []) := by
  unfold mm_number at hf
  obtain ⟨hx, hb, hml, hown, hT, hrt, hlk, hK, hA, hG, hE⟩ := id G
  refine lv_aload_n hx hb dX5_number_0 rfl (lv_at hl 0 rfl) ?_
  refine gm_X5_at (v := (mf_at σ)) G hP dX5_number_1 rfl ?_
  refine lv_topi (fun v1 ev1 => ?_)
  have hf := lt_eq hf ev1
  refine lv_istore_n (lv' := [(1, .int v1), (0, .ref (q 0))]) hx hb dX5_number_4 rfl hl (by decide) rfl (fun ls hl => ?_)
  refine lv_aload_n hx hb dX5_number_5 rfl (lv_at hl 1 rfl) ?_
  obtain ⟨x2, hx2, hf⟩ := bd_some hf
  refine vM (As := []) (rest := []) G kX5_86 (c_mm_here hx2) hP hD hS ⟨rfl, rfl, Nat.le_of_ble_eq_true rfl, Nat.le_of_ble_eq_true rfl⟩ ⟨Nat.zero_le _, Nat.zero_le _⟩ rfl hl.1 (Nat.le_of_ble_eq_true rfl) dX5_number_6 (fun H locs hP hD hS => ?_)
  refine W.eq (g2 := F0 m 9 ls [.int x2.1]) rfl ?_
  refine lv_bipush (v := (45 : Int32)) hx hb dX5_number_9 (by decide) ?_
  refine lv_icmp_ne (tgt := 18) hx hb dX5_number_11 (by decide) (fun c3 => ?_) (fun c3 => ?_)
  · have hf := (if_neg c3).symm.trans hf
    refine lv_iconst (v := (0 : Int32)) hx hb dX5_number_18 (by decide) ?_
    exact W.eq (g2 := F0 m 19 ls [.int (0 : Int32)]) rfl (mm_number_t19 G (lv_sub hl [1, 0] rfl) hP hD hS hf)
  · have hf := (if_pos c3).symm.trans hf
    refine lv_iconst (v := (1 : Int32)) hx hb dX5_number_14 (by decide) ?_
    refine lv_goto (tgt := 19) hx hb dX5_number_15 (by decide) ?_
    exact W.eq (g2 := F0 m 19 ls [.int (1 : Int32)]) rfl (mm_number_t19 G (lv_sub hl [1, 0] rfl) hP hD hS hf)
set_option maxHeartbeats 4000000 in
set_option maxRecDepth 100000 in
theorem c_mm_number {l : Launch} {D : va_G} {aK aV : Nat → Nat} {cB cI cJ : ClassId} {q : Nat → Nat} {ρ : Bool × MSt} {σ : MSt} (hf : mm_number σ = some ρ) : CT l D (gTy cB cI cJ) aK aV yX5_number (wM yX5_number cX5_number 6 (some .boolean)) (rm_mm_number) 0 0 [.ref (q 0)] (mW cB cI cJ q σ) (some (.int (bI ρ.1))) (mW cB cI cJ q ρ.2) := by
  refine CT.of (by decide) rfl ?_
  intro p e s m below meth c A G hnm hP hD hS
  have hl := lv_entry [.ref (q 0)] (n := 6) (Nat.le_of_ble_eq_true rfl)
  rw [lg_entry_eq]
  generalize (lg_sl [.ref (q 0)] ++ List.replicate (6 - (lg_sl [.ref (q 0)]).length) Slot.unset).toArray = ls at hl ⊢
  exact mm_number_t0e G hl hP hD hS hf
