/-! THE REFERENCE: writing (printed by program wip/gen) -/
def mm_put_b21 (σ : MSt) : Option (MSt) := some (ms_freshMany σ ((mf_freshMany σ) + (1 : Int32)))
def mm_put (p0 : Int32) (σ : MSt) : Option (MSt) := (if (6000 : Int32) ≤ (mf_freshMany σ) then mm_put_b21  σ else ck (mf_freshMany σ) 6000 (mm_put_b21  (ms_fresh σ (upd (mf_fresh σ) ((mf_freshMany σ)).toNatClampNeg (vp_nar .byte ((Int32.toInt8 p0).toInt32))))))
abbrev rm_mm_put : Room := { frames := 0, cells := 0, slots := 0, locals := 0 }
set_option maxHeartbeats 4000000 in
set_option maxRecDepth 100000 in
theorem mm_put_t21 {p : Program} {l : Launch} {e : Env} {s : State} {m : MethodId} {args : Array Value} {below : List Frame} {meth : Method} {c : Code} {D : va_G} {aK aV : Nat → Nat} {A : Nat → Prop} {cB cI cJ : ClassId} {q : Nat → Nat} {H : Heap} {locs : List Loc} {ls : Array Slot} {ρ : MSt} {σ : MSt} (G : CX p s m args meth c D (gTy cB cI cJ) aK aV A RX5 cX5_put 2 none) (hl : lv_has ls 2 [(0, .ref (q 0))]) (hP : va_P D vwCl (mW cB cI cJ q σ) H) (hD : va_D A (mW cB cI cJ q σ)) (hS : va_S A s.heap H locs) (hf : mm_put_b21 σ = some ρ) : W p l e (rm_mm_put) s m args below meth c H locs 0 0 (MQ below (cQ D (gTy cB cI cJ) A (mW cB cI cJ q ρ) none) args s 0 0 A) (F0 m 21 ls []) := by
  unfold mm_put_b21 at hf
  obtain ⟨hx, hb, hml, hown, hT, hrt, hlk, hK, hA, hG, hE⟩ := id G
  refine lv_aload_n hx hb dX5_put_21 rfl (lv_at hl 0 rfl) ?_
  refine lv_dup hx hb dX5_put_22 rfl ?_
  refine gm_X5_freshMany (v := (mf_freshMany σ)) G hP dX5_put_23 rfl ?_
  refine lv_iconst (v := (1 : Int32)) hx hb dX5_put_26 (by decide) ?_
  refine lv_iadd hx hb dX5_put_27 ?_
  refine pm_X5_freshMany (v := ((mf_freshMany σ) + (1 : Int32))) G hP hD hS dX5_put_28 (fun H locs hP hD hS => ?_)
  cases hf
  exact ct_vret G hP hD hS dX5_put_31
set_option maxHeartbeats 4000000 in
set_option maxRecDepth 100000 in
theorem mm_put_t0e {p : Program} {l : Launch} {e : Env} {s : State} {m : MethodId} {args : Array Value} {below : List Frame} {meth : Method} {c : Code} {D : va_G} {aK aV : Nat → Nat} {A : Nat → Prop} {cB cI cJ : ClassId} {q : Nat → Nat} {H : Heap} {locs : List Loc} {ls : Array Slot} {ρ : MSt} {p0 : Int32} {σ : MSt} (G : CX p s m args meth c D (gTy cB cI cJ) aK aV A RX5 cX5_put 2 none) (hl : lv_has ls 2 [(0, .ref (q 0)), (1, .int p0)]) (hP : va_P D vwCl (mW cB cI cJ q σ) H) (hD : va_D A (mW cB cI cJ q σ)) (hS : va_S A s.heap H locs) (hf : mm_put p0 σ = some ρ) : W p l e (rm_mm_put) s m args below meth c H locs 0 0 (MQ below (cQ D (gTy cB cI cJ) A (mW cB cI cJ q ρ) none) args s 0 0 A) (F0 m 0 ls []) := by
  unfold mm_put at hf
  obtain ⟨hx, hb, hml, hown, hT, hrt, hlk, hK, hA, hG, hE⟩ := id G
  refine lv_aload_n hx hb dX5_put_0 rfl (lv_at hl 0 rfl) ?_
  refine gm_X5_freshMany (v := (mf_freshMany σ)) G hP dX5_put_1 rfl ?_
  refine lv_sipush (v := (6000 : Int32)) hx hb dX5_put_4 (by decide) ?_
  refine lv_icmp_ge (tgt := 21) hx hb dX5_put_7 (by decide) (fun c1 => ?_) (fun c1 => ?_)
  · have hf := (if_pos c1).symm.trans hf
    exact W.eq (g2 := F0 m 21 ls []) rfl (mm_put_t21 G (lv_sub hl [0] rfl) hP hD hS hf)
  · have hf := (if_neg c1).symm.trans hf
    refine lv_aload_n hx hb dX5_put_10 rfl (lv_at hl 0 rfl) ?_
    refine gm_X5_fresh G hP dX5_put_11 ?_
    refine lv_aload_n hx hb dX5_put_14 rfl (lv_at hl 0 rfl) ?_
    refine gm_X5_freshMany (v := (mf_freshMany σ)) G hP dX5_put_15 rfl ?_
    refine lv_iload_n hx hb dX5_put_18 rfl (lv_at hl 1 rfl) ?_
    refine lv_i2b (v := ((Int32.toInt8 p0).toInt32)) hx hb dX5_put_19 rfl ?_
    obtain ⟨hi2, hf⟩ := ck_some hf
    refine sm_fresh (f := (mf_fresh σ)) G hP hD hS hi2 dX5_put_20 rfl (fun H locs hP hD hS => ?_)
    exact W.eq (g2 := F0 m 21 ls []) rfl (mm_put_t21 G (lv_sub hl [0] rfl) hP hD hS hf)
set_option maxHeartbeats 4000000 in
set_option maxRecDepth 100000 in
theorem c_mm_put {l : Launch} {D : va_G} {aK aV : Nat → Nat} {cB cI cJ : ClassId} {q : Nat → Nat} {ρ : MSt} {p0 : Int32} {σ : MSt} (hf : mm_put p0 σ = some ρ) : CT l D (gTy cB cI cJ) aK aV yX5_put (wM yX5_put cX5_put 2 none) (rm_mm_put) 0 0 [.ref (q 0), .int p0] (mW cB cI cJ q σ) none (mW cB cI cJ q ρ) := by
  refine CT.of (by decide) rfl ?_
  intro p e s m below meth c A G hnm hP hD hS
  have hl := lv_entry [.ref (q 0), .int p0] (n := 2) (Nat.le_of_ble_eq_true rfl)
  rw [lg_entry_eq]
  generalize (lg_sl [.ref (q 0), .int p0] ++ List.replicate (2 - (lg_sl [.ref (q 0), .int p0]).length) Slot.unset).toArray = ls at hl ⊢
  exact mm_put_t0e G hl hP hD hS hf
def mm_ends_b36 (k36 : Int32 → MSt → Option (Int32 × MSt)) (a1 : Int32) (σ : MSt) : Option (Int32 × MSt) := (if (mf_freshMany σ) ≤ a1 then some ((mf_freshMany σ), (ms_writtenMany σ (mf_freshMany σ))) else ck a1 6000 (ck a1 6000 (lt (a1 + (1 : Int32)) (fun (v7 : Int32) => k36 v7 (ms_written σ (upd (mf_written σ) (a1).toNatClampNeg (vp_nar .byte ((mf_fresh σ) (a1).toNatClampNeg))))))))
def mm_ends_L36 : Nat → Int32 → MSt → Option (Int32 × MSt)
  | 0, _, _ => none
  | n + 1, a1, σ => mm_ends_b36 (mm_ends_L36 n) a1 σ
def mm_ends_b21 (σ : MSt) : Option (Int32 × MSt) := (if (mf_fault σ) ≤ 0 then mm_ends_L36 FU (0 : Int32) σ else some ((-(mf_fault σ)), σ))
def mm_ends (σ : MSt) : Option (Int32 × MSt) := (if (mf_freshMany σ) ≤ (mf_room σ) then mm_ends_b21  σ else bd (mm_wrong (5 : Int32) (mf_taped σ) σ) (fun (x2 : Bool × MSt) => mm_ends_b21  x2.2))
abbrev rm_mm_ends : Room := { frames := 1, cells := 0, slots := 0, locals := 22 }
set_option maxHeartbeats 4000000 in
set_option maxRecDepth 100000 in
theorem mm_ends_t36 {p : Program} {l : Launch} {e : Env} {s : State} {m : MethodId} {args : Array Value} {below : List Frame} {meth : Method} {c : Code} {D : va_G} {aK aV : Nat → Nat} {A : Nat → Prop} {cB cI cJ : ClassId} {q : Nat → Nat} {H : Heap} {locs : List Loc} {ls : Array Slot} {ρ : Int32 × MSt} {k36 : Int32 → MSt → Option (Int32 × MSt)} {a1 : Int32} {σ : MSt} (G : CX p s m args meth c D (gTy cB cI cJ) aK aV A RX5 cX5_ends 2 (some .int)) (hk36 : ∀ (a1 : Int32) (σ : MSt) (H : Heap) (locs : List Loc) (ls : Array Slot), lv_has ls 2 [(0, .ref (q 0)), (1, .int a1)] → va_P D vwCl (mW cB cI cJ q σ) H → va_D A (mW cB cI cJ q σ) → va_S A s.heap H locs → k36 a1 σ = some ρ → W p l e (rm_mm_ends) s m args below meth c H locs 0 0 (MQ below (cQ D (gTy cB cI cJ) A (mW cB cI cJ q ρ.2) (some (.int ρ.1))) args s 0 0 A) (F0 m 36 ls [])) (hl : lv_has ls 2 [(0, .ref (q 0)), (1, .int a1)]) (hP : va_P D vwCl (mW cB cI cJ q σ) H) (hD : va_D A (mW cB cI cJ q σ)) (hS : va_S A s.heap H locs) (hf : mm_ends_b36 k36 a1 σ = some ρ) : W p l e (rm_mm_ends) s m args below meth c H locs 0 0 (MQ below (cQ D (gTy cB cI cJ) A (mW cB cI cJ q ρ.2) (some (.int ρ.1))) args s 0 0 A) (F0 m 36 ls []) := by
  unfold mm_ends_b36 at hf
  obtain ⟨hx, hb, hml, hown, hT, hrt, hlk, hK, hA, hG, hE⟩ := id G
  refine lv_iload_n hx hb dX5_ends_36 rfl (lv_at hl 1 rfl) ?_
  refine lv_aload_n hx hb dX5_ends_37 rfl (lv_at hl 0 rfl) ?_
  refine gm_X5_freshMany (v := (mf_freshMany σ)) G hP dX5_ends_38 rfl ?_
  refine lv_icmp_ge (tgt := 62) hx hb dX5_ends_41 (by decide) (fun c4 => ?_) (fun c4 => ?_)
  · have hf := (if_pos c4).symm.trans hf
    refine lv_aload_n hx hb dX5_ends_62 rfl (lv_at hl 0 rfl) ?_
    refine lv_aload_n hx hb dX5_ends_63 rfl (lv_at hl 0 rfl) ?_
    refine gm_X5_freshMany (v := (mf_freshMany σ)) G hP dX5_ends_64 rfl ?_
    refine pm_X5_writtenMany (v := (mf_freshMany σ)) G hP hD hS dX5_ends_67 (fun H locs hP hD hS => ?_)
    refine lv_aload_n hx hb dX5_ends_70 rfl (lv_at hl 0 rfl) ?_
    refine gm_X5_writtenMany (v := (mf_freshMany σ)) G hP dX5_ends_71 (mG_writtenMany_writtenMany _ _) ?_
    cases hf
    exact ct_iret G rfl hP hD hS dX5_ends_74
  · have hf := (if_neg c4).symm.trans hf
    refine lv_aload_n hx hb dX5_ends_44 rfl (lv_at hl 0 rfl) ?_
    refine gm_X5_written G hP dX5_ends_45 ?_
    refine lv_iload_n hx hb dX5_ends_48 rfl (lv_at hl 1 rfl) ?_
    refine lv_aload_n hx hb dX5_ends_49 rfl (lv_at hl 0 rfl) ?_
    refine gm_X5_fresh G hP dX5_ends_50 ?_
    refine lv_iload_n hx hb dX5_ends_53 rfl (lv_at hl 1 rfl) ?_
    obtain ⟨hi5, hf⟩ := ck_some hf
    refine lm_fresh (f := (mf_fresh σ)) G hP hi5 dX5_ends_54 rfl ?_
    obtain ⟨hi6, hf⟩ := ck_some hf
    refine sm_written (f := (mf_written σ)) G hP hD hS hi6 dX5_ends_55 rfl (fun H locs hP hD hS => ?_)
    obtain ⟨v7, ev7⟩ : ∃ y : Int32, y = (a1 + (1 : Int32)) := ⟨_, rfl⟩
    have hf := lt_eq hf ev7
    refine lv_iinc (v := v7) (lv' := [(1, .int v7), (0, .ref (q 0))]) hx hb dX5_ends_56 hl (k := 1) rfl (by rw [ev7]; rfl) (by decide) rfl (fun ls hl => ?_)
    refine lv_goto (tgt := 36) hx hb dX5_ends_59 (by decide) ?_
    exact W.eq (g2 := F0 m 36 ls []) rfl (hk36 _ _ _ _ _ (lv_sub hl [1, 0] rfl) hP hD hS hf)
set_option maxHeartbeats 4000000 in
set_option maxRecDepth 100000 in
theorem mm_ends_u36 {p : Program} {l : Launch} {e : Env} {s : State} {m : MethodId} {args : Array Value} {below : List Frame} {meth : Method} {c : Code} {D : va_G} {aK aV : Nat → Nat} {A : Nat → Prop} {cB cI cJ : ClassId} {q : Nat → Nat} {ρ : Int32 × MSt} (G : CX p s m args meth c D (gTy cB cI cJ) aK aV A RX5 cX5_ends 2 (some .int)) : ∀ (n : Nat) {a1 : Int32} {σ : MSt} {H : Heap} {locs : List Loc} {ls : Array Slot} (hl : lv_has ls 2 [(0, .ref (q 0)), (1, .int a1)]) (hP : va_P D vwCl (mW cB cI cJ q σ) H) (hD : va_D A (mW cB cI cJ q σ)) (hS : va_S A s.heap H locs) (hf : mm_ends_L36 n a1 σ = some ρ), W p l e (rm_mm_ends) s m args below meth c H locs 0 0 (MQ below (cQ D (gTy cB cI cJ) A (mW cB cI cJ q ρ.2) (some (.int ρ.1))) args s 0 0 A) (F0 m 36 ls []) := by
  intro n
  induction n with
  | zero =>
    intros
    rename_i hf
    cases hf
  | succ n ih =>
    intro a1 σ H locs ls hl hP hD hS hf
    exact mm_ends_t36 G (fun _ _ H locs ls hl hP hD hS hf => ih hl hP hD hS hf) hl hP hD hS hf
set_option maxHeartbeats 4000000 in
set_option maxRecDepth 100000 in
theorem mm_ends_t21 {p : Program} {l : Launch} {e : Env} {s : State} {m : MethodId} {args : Array Value} {below : List Frame} {meth : Method} {c : Code} {D : va_G} {aK aV : Nat → Nat} {A : Nat → Prop} {cB cI cJ : ClassId} {q : Nat → Nat} {H : Heap} {locs : List Loc} {ls : Array Slot} {ρ : Int32 × MSt} {σ : MSt} (G : CX p s m args meth c D (gTy cB cI cJ) aK aV A RX5 cX5_ends 2 (some .int)) (hl : lv_has ls 2 [(0, .ref (q 0))]) (hP : va_P D vwCl (mW cB cI cJ q σ) H) (hD : va_D A (mW cB cI cJ q σ)) (hS : va_S A s.heap H locs) (hf : mm_ends_b21 σ = some ρ) : W p l e (rm_mm_ends) s m args below meth c H locs 0 0 (MQ below (cQ D (gTy cB cI cJ) A (mW cB cI cJ q ρ.2) (some (.int ρ.1))) args s 0 0 A) (F0 m 21 ls []) := by
  unfold mm_ends_b21 at hf
  obtain ⟨hx, hb, hml, hown, hT, hrt, hlk, hK, hA, hG, hE⟩ := id G
  refine lv_aload_n hx hb dX5_ends_21 rfl (lv_at hl 0 rfl) ?_
  refine gm_X5_fault (v := (mf_fault σ)) G hP dX5_ends_22 rfl ?_
  refine lv_if_le (tgt := 34) hx hb dX5_ends_25 (by decide) (fun c3 => ?_) (fun c3 => ?_)
  · have hf := (if_pos c3).symm.trans hf
    refine lv_iconst (v := (0 : Int32)) hx hb dX5_ends_34 (by decide) ?_
    refine lv_istore_n (lv' := [(1, .int (0 : Int32)), (0, .ref (q 0))]) hx hb dX5_ends_35 rfl hl (by decide) rfl (fun ls hl => ?_)
    exact W.eq (g2 := F0 m 36 ls []) rfl (mm_ends_u36 G FU (lv_sub hl [1, 0] rfl) hP hD hS hf)
  · have hf := (if_neg c3).symm.trans hf
    refine lv_aload_n hx hb dX5_ends_28 rfl (lv_at hl 0 rfl) ?_
    refine gm_X5_fault (v := (mf_fault σ)) G hP dX5_ends_29 rfl ?_
    refine lv_ineg hx hb dX5_ends_32 ?_
    cases hf
    exact ct_iret G rfl hP hD hS dX5_ends_33
set_option maxHeartbeats 4000000 in
set_option maxRecDepth 100000 in
theorem mm_ends_t0e {p : Program} {l : Launch} {e : Env} {s : State} {m : MethodId} {args : Array Value} {below : List Frame} {meth : Method} {c : Code} {D : va_G} {aK aV : Nat → Nat} {A : Nat → Prop} {cB cI cJ : ClassId} {q : Nat → Nat} {H : Heap} {locs : List Loc} {ls : Array Slot} {ρ : Int32 × MSt} {σ : MSt} (G : CX p s m args meth c D (gTy cB cI cJ) aK aV A RX5 cX5_ends 2 (some .int)) (hl : lv_has ls 2 [(0, .ref (q 0))]) (hP : va_P D vwCl (mW cB cI cJ q σ) H) (hD : va_D A (mW cB cI cJ q σ)) (hS : va_S A s.heap H locs) (hf : mm_ends σ = some ρ) : W p l e (rm_mm_ends) s m args below meth c H locs 0 0 (MQ below (cQ D (gTy cB cI cJ) A (mW cB cI cJ q ρ.2) (some (.int ρ.1))) args s 0 0 A) (F0 m 0 ls []) := by
  unfold mm_ends at hf
  obtain ⟨hx, hb, hml, hown, hT, hrt, hlk, hK, hA, hG, hE⟩ := id G
  refine lv_aload_n hx hb dX5_ends_0 rfl (lv_at hl 0 rfl) ?_
  refine gm_X5_freshMany (v := (mf_freshMany σ)) G hP dX5_ends_1 rfl ?_
  refine lv_aload_n hx hb dX5_ends_4 rfl (lv_at hl 0 rfl) ?_
  refine gm_X5_room (v := (mf_room σ)) G hP dX5_ends_5 rfl ?_
  refine lv_icmp_le (tgt := 21) hx hb dX5_ends_8 (by decide) (fun c1 => ?_) (fun c1 => ?_)
  · have hf := (if_pos c1).symm.trans hf
    exact W.eq (g2 := F0 m 21 ls []) rfl (mm_ends_t21 G (lv_sub hl [0] rfl) hP hD hS hf)
  · have hf := (if_neg c1).symm.trans hf
    refine lv_aload_n hx hb dX5_ends_11 rfl (lv_at hl 0 rfl) ?_
    refine lv_iconst (v := (5 : Int32)) hx hb dX5_ends_12 (by decide) ?_
    refine lv_aload_n hx hb dX5_ends_13 rfl (lv_at hl 0 rfl) ?_
    refine gm_X5_taped (v := (mf_taped σ)) G hP dX5_ends_14 rfl ?_
    obtain ⟨x2, hx2, hf⟩ := bd_some hf
    refine vM (As := [.int (5 : Int32), .int (mf_taped σ)]) (rest := []) G kX5_90 (c_mm_wrong hx2) hP hD hS ⟨rfl, rfl, Nat.le_of_ble_eq_true rfl, Nat.le_of_ble_eq_true rfl⟩ ⟨Nat.zero_le _, Nat.zero_le _⟩ rfl hl.1 (Nat.le_of_ble_eq_true rfl) dX5_ends_17 (fun H locs hP hD hS => ?_)
    refine W.eq (g2 := F0 m 20 ls [.int (bI x2.1)]) rfl ?_
    refine lv_pop hx hb dX5_ends_20 rfl ?_
    exact W.eq (g2 := F0 m 21 ls []) rfl (mm_ends_t21 G (lv_sub hl [0] rfl) hP hD hS hf)
set_option maxHeartbeats 4000000 in
set_option maxRecDepth 100000 in
theorem c_mm_ends {l : Launch} {D : va_G} {aK aV : Nat → Nat} {cB cI cJ : ClassId} {q : Nat → Nat} {ρ : Int32 × MSt} {σ : MSt} (hf : mm_ends σ = some ρ) : CT l D (gTy cB cI cJ) aK aV yX5_ends (wM yX5_ends cX5_ends 2 (some .int)) (rm_mm_ends) 0 0 [.ref (q 0)] (mW cB cI cJ q σ) (some (.int ρ.1)) (mW cB cI cJ q ρ.2) := by
  refine CT.of (by decide) rfl ?_
  intro p e s m below meth c A G hnm hP hD hS
  have hl := lv_entry [.ref (q 0)] (n := 2) (Nat.le_of_ble_eq_true rfl)
  rw [lg_entry_eq]
  generalize (lg_sl [.ref (q 0)] ++ List.replicate (2 - (lg_sl [.ref (q 0)]).length) Slot.unset).toArray = ls at hl ⊢
  exact mm_ends_t0e G hl hP hD hS hf
