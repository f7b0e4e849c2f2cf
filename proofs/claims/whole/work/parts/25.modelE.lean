/-! THE REFERENCE: writing (printed by program wip/gen) -/
def mm_put_b21 (σ : MSt) : Option (MSt) := some (ms_freshMany σ ((mf_freshMany σ) + (1 : Int32)))
def mm_put (p0 : Int32) (σ : MSt) : Option (MSt) := (if (6000 : Int32) ≤ (mf_freshMany σ) then mm_put_b21  σ else ck (mf_freshMany σ) 6000 (mm_put_b21  (ms_fresh σ (upd (mf_fresh σ) ((mf_freshMany σ)).toNatClampNeg (vp_nar .byte ((Int32.toInt8 p0).toInt32))))))
abbrev rm_mm_put : Room := { frames := 0, cells := 0, slots := 0, locals := 0 }
set_option maxHeartbeats 4000000 in
set_option maxRecDepth 100000 in
theorem mm_put_t21 {p : Program} {l : Launch} {e : Env} {s : State} {m : MethodId} {args : Array Value} {below : List Frame} {meth : Method} {c : Code} {D : va_G} {aK aV : Nat → Nat} {A : Nat → Prop} {cB cI cJ : ClassId} {q : Nat → Nat} {H : Heap} {locs : List Loc} {ls : Array Slot} {ρ : MSt} {σ : MSt} (G : CX p s m args meth c D (gTy cB cI cJ) aK aV A RX5 cX5_put 2 none) (hl : lv_has ls 2 [(0, .ref (q 0))]) (hP : va_P D vwCl (mW cB cI cJ q σ) H) (hD : va_D A (mW cB cI cJ q σ)) (hS : va_S A s.heap H locs) (hf : mm_put_b21 σ = some ρ) : W p l e (rm_mm_put) s m args below meth c H locs 0 0 (MQ below (cQ D (gTy cB cI cJ) A (mW cB cI cJ q ρ) none) args s 0 0 A) (F0 m 21 ls []) := by
  unfold mm_put_b21 at hf
  obtain ⟨hx, hb, hml, hown, hT, hrt, hlk, hK, hA, hG, hE⟩ := id G
  refine lv_aload_n hx hb dX5_put_21 rfl (lv_at hl 0 rfl) ?_
  refine lv_dup hx hb dX5_put_22 rfl ?_
  refine gm_X5_freshMany (v := (mf_freshMany σ)) G hP dX5_put_23 rfl ?_
  refine lv_iconst (v := (1 : Int32)) hx hb dX5_put_26 (by decide) ?_
  refine lv_iadd hx hb dX5_put_27 ?_
  refine pm_X5_freshMany (v := ((mf_freshMany σ) + (1 : Int32))) G hP hD hS dX5_put_28 (fun H locs hP hD hS => ?_)
  cases hf
  exact ct_vret G hP hD hS dX5_put_31
set_option maxHeartbeats 4000000 in
set_option maxRecDepth 100000 in
theorem mm_put_t0e {p : Program} {l : Launch} {e : Env} {s : State} {m : MethodId} {args : Array Value} {below : List Frame} {meth : Method} {c : Code} {D : va_G} {aK aV : Nat → Nat} {A : Nat → Prop} {cB cI cJ : ClassId} {q : Nat → Nat} {H : Heap} {locs : List Loc} {ls : Array Slot} {ρ : MSt} {p0 : Int32} {σ : MSt} (G : CX p s m args meth c D (gTy cB cI cJ) aK aV A RX5 cX5_put 2 none) (hl : lv_has ls 2 [(0, .ref (q 0)), (1, .int p0)]) (hP : va_P D vwCl (mW cB cI cJ q σ) H) (hD : va_D A (mW cB cI cJ q σ)) (hS : va_S A s.heap H locs) (hf : mm_put p0 σ = some ρ) : W p l e (rm_mm_put) s m args below meth c H locs 0 0 (MQ below (cQ D (gTy cB cI cJ) A (mW cB cI cJ q ρ) none) args s 0 0 A) (F0 m 0 ls []) := by
  unfold mm_put at hf
  obtain ⟨hx, hb, hml, hown, hT, hrt, hlk, hK, hA, hG, hE⟩ := id G
  refine lv_aload_n hx hb dX5_put_0 rfl (lv_at hl 0 rfl) ?_
  refine gm_X5_freshMany (v := (mf_freshMany σ)) G hP dX5_put_1 rfl ?_
  refine lv_sipush (v := (6000 : Int32)) hx hb dX5_put_4 (by decide) ?_
  refine lv_icmp_ge (tgt := 21) hx hb dX5_put_7 (by decide) (fun c1 => ?_) (fun c1 => ?_)
  · have hf := (if_pos c1).symm.trans hf
    exact W.eq (g2 := F0 m 21 ls []) rfl (mm_put_t21 G (lv_sub hl [0] rfl) hP hD hS hf)
  · have hf := (if_neg c1).symm.trans hf
    refine lv_aload_n hx hb dX5_put_10 rfl (lv_at hl 0 rfl) ?_
    refine gm_X5_fresh G hP dX5_put_11 ?_
    refine lv_aload_n hx hb dX5_put_14 rfl (lv_at hl 0 rfl) ?_
    refine gm_X5_freshMany (v := (mf_freshMany σ)) G hP dX5_put_15 rfl ?_
    refine lv_iload_n hx hb dX5_put_18 rfl (lv_at hl 1 rfl) ?_
    refine lv_i2b (v := ((Int32.toInt8 p0).toInt32)) hx hb dX5_put_19 rfl ?_
    obtain ⟨hi2, hf⟩ := ck_some hf
    refine sm_fresh (f := (mf_fresh σ)) G hP hD hS hi2 dX5_put_20 rfl (fun H locs hP hD hS => ?_)
    exact W.eq (g2 := F0 m 21 ls []) rfl (mm_put_t21 G (lv_sub hl [0] rfl) hP hD hS hf)
set_option maxHeartbeats 4000000 in
set_option maxRecDepth 100000 in
theorem c_mm_put {l : Launch} {D : va_G} {aK aV : Nat → Nat} {cB cI cJ : ClassId} {q : Nat → Nat} {ρ : MSt} {p0 : Int32} {σ : MSt} (hf : mm_put p0 σ = some ρ) : CT l D (gTy cB cI cJ) aK aV yX5_put (wM yX5_put cX5_put 2 none) (rm_mm_put) 0 0 [.ref (q 0), .int p0] (mW cB cI cJ q σ) none (mW cB cI cJ q ρ) := by
  refine CT.of (by decide) rfl ?_
  intro p e s m below meth c A G hnm hP hD hS
  have hl := lv_entry [.ref (q 0), .int p0] (n := 2) (Nat.le_of_ble_eq_true rfl)
  rw [lg_entry_eq]
  generalize (lg_sl [.ref (q 0), .int p0] ++ List.replicate (2 - (lg_sl [.ref (q 0), .int p0]).length) Slot.unset).toArray = ls at hl ⊢
  exact mm_put_t0e G hl hP hD hS hf
def mm_ends_b36 (k36 : Int32 → MSt → Option (Int32 × MSt)) (a1 : Int32) (σ : MSt) : Option (Int32 × MSt) := (if (mf_freshMany σ) ≤ a1 then some ((mf_freshMany σ), (ms_writtenMany σ (mf_freshMany σ))) else ck a1 6000 (ck a1 6000 (lt (a1 + (1 : Int32)) (fun (v7 : Int32) => k36 v7 (ms_written σ (upd (mf_written σ) (a1).toNatClampNeg (vp_nar .byte ((mf_fresh σ) (a1).toNatClampNeg))))))))
def mm_ends_L36 : Nat → Int32 → MSt → Option (Int32 × MSt)
  | 0, _, _ => none
  | n + 1, a1, σ => mm_ends_b36 (mm_ends_L36 n) a1 σ
def mm_ends_b21 (σ : MSt) : Option (Int32 × MSt) := (if (mf_fault σ) ≤ 0 then mm_ends_L36 FU (0 : Int32) σ else some ((-(mf_fault σ)), σ))
def mm_ends (σ : MSt) : Option (Int32 × MSt) := (if (mf_freshMany σ) ≤ (mf_room σ) then mm_ends_b21  σ else bd (mm_wrong (5 : Int32) (mf_taped σ) σ) (fun (x2 : Bool × MSt) => mm_ends_b21  x2.2))
abbrev rm_mm_ends : Room := { frames := 1, cells := 0, slots := 0, locals := 22 }
set_option maxHeartbeats 4000000 in
set_option maxRecDepth 100000 in
theorem mm_ends_t36 {p : Program} {l : Launch} {e : Env} {s : State} {m : MethodId} {args : Array Value} {below : List Frame} {meth : Method} {c : Code} {D : va_G} {aK aV : Nat → Nat} {A : Nat → Prop} {cB cI cJ : ClassId} {q : Nat → Nat} {H : Heap} {locs : List Loc} {ls : Array Slot} {ρ : Int32 × MSt} {k36 : Int32 → MSt → Option (Int32 × MSt)} {a1 : Int32} {σ : MSt} (G : CX p s m args meth c D (gTy cB cI cJ) aK aV A RX5 cX5_ends 2 (some .int)) (hk36 : ∀ (a1 : Int32) (σ : MSt) (H : Heap) (locs : List Loc) (ls : Array Slot), lv_has ls 2 [(0, .ref (q 0)), (1, .int a1)] → va_P D vwCl (mW cB cI cJ q σ) H → va_D A (mW cB cI cJ q σ) → va_S A s.heap H locs → k36 a1 σ = some ρ → W p l e (rm_mm_ends) s m args below meth c H locs 0 0 (MQ below (cQ D (gTy cB cI cJ) A (mW cB cI cJ q ρ.2) (some (.int ρ.1))) args s 0 0 A) (F0 m 36 ls [])) (hl : lv_has ls 2 [(0, .ref (q 0)), (1, .int a1)]) (hP : va_P D vwCl (mW cB cI cJ q σ) H) (hD : va_D A (mW cB cI cJ q σ)) (hS : va_S A s.heap H locs) (hf : mm_ends_b36 k36 a1 σ = some ρ) : W p l e (rm_mm_ends) s m args below meth c H locs 0 0 (MQ below (cQ D (gTy cB cI cJ) A (mW cB cI cJ q ρ.2) (some (.int ρ.1))) args s 0 0 A) (F0 m 36 ls []) := by
  unfold mm_ends_b36 at hf
  obtain ⟨hx, hb, hml, hown, hT, hrt, hlk, hK, hA, hG, hE⟩ := id G
  refine lv_iload_n hx hb dX5_ends_36 rfl (lv_at hl 1 rfl) ?_
  refine lv_aload_n hx hb dX5_ends_37 rfl (lv_at hl 0 rfl) ?_
  refine gm_X5_freshMany (v := (mf_freshMany σ)) G hP dX5_ends_38 rfl ?_
  refine lv_icmp_ge (tgt := 62) hx hb dX5_ends_41 (by decide) (fun c4 => ?_) (fun c4 => ?_)
  · have hf := (if_pos c4).symm.trans hf
    refine lv_aload_n hx hb dX5_ends_62 rfl (lv_at hl 0 rfl) ?_
    refine lv_aload_n hx hb dX5_ends_63 rfl (lv_at hl 0 rfl) ?_
    refine gm_X5_freshMany (v := (mf_freshMany σ)) G hP dX5_ends_64 rfl ?_
    refine pm_X5_writtenMany (v := (mf_freshMany σ)) G hP hD hS dX5_ends_67 (fun H locs hP hD hS => ?_)
    refine lv_aload_n hx hb dX5_ends_70 rfl (lv_at hl 0 rfl) ?_
    refine gm_X5_writtenMany (v := (mf_freshMany σ)) G hP dX5_ends_71 (mG_writtenMany_writtenMany _ _) ?_
    cases hf
    exact ct_iret G rfl hP hD hS dX5_ends_74
  · have hf := (if_neg c4).symm.trans hf
    refine lv_aload_n hx hb dX5_ends_44 rfl (lv_at hl 0 rfl) ?_
    refine gm_X5_written G hP dX5_ends_45 ?_
    refine lv_iload_n hx hb dX5_ends_48 rfl (lv_at hl 1 rfl) ?_
    refine lv_aload_n hx hb dX5_ends_49 rfl (lv_at hl 0 rfl) ?_
    refine gm_X5_fresh G hP dX5_ends_50 ?_
    refine lv_iload_n hx hb dX5_ends_53 rfl (lv_at hl 1 rfl) ?_
    obtain ⟨hi5, hf⟩ := ck_some hf
    refine lm_fresh (f := (mf_fresh σ)) G hP hi5 dX5_ends_54 rfl ?_
    obtain ⟨hi6, hf⟩ := ck_some hf
    refine sm_written (f := (mf_written σ)) G hP hD hS hi6 dX5_ends_55 rfl (fun H locs hP hD hS => ?_)
    obtain ⟨v7, ev7⟩ : ∃ y : Int32, y = (a1 + (1 : Int32)) := ⟨_, rfl⟩
    have hf := lt_eq hf ev7
    refine lv_iinc (v := v7) (lv' := [(1, .int v7), (0, .ref (q 0))]) hx hb dX5_ends_56 hl (k := 1) rfl (by rw [ev7]; rfl) (by decide) rfl (fun ls hl => ?_)
    refine lv_goto (tgt := 36) hx hb dX5_ends_59 (by decide) ?_
    exact W.eq (g2 := F0 m 36 ls []) rfl (hk36 _ _ _ _ _ (lv_sub hl [1, 0] rfl) hP hD hS hf)
set_option maxHeartbeats 4000000 in
set_option maxRecDepth 100000 in
theorem mm_ends_u36 {p : Program} {l : Launch} {e : Env} {s : State} {m : MethodId} {args : Array Value} {below : List Frame} {meth : Method} {c : Code} {D : va_G} {aK aV : Nat → Nat} {A : Nat → Prop} {cB cI cJ : ClassId} {q : Nat → Nat} {ρ : Int32 × MSt} (G : CX p s m args meth c D (gTy cB cI cJ) aK aV A RX5 cX5_ends 2 (some .int)) : ∀ (n : Nat) {a1 : Int32} {σ : MSt} {H : Heap} {locs : List Loc} {ls : Array Slot} (hl : lv_has ls 2 [(0, .ref (q 0)), (1, .int a1)]) (hP : va_P D vwCl (mW cB cI cJ q σ) H) (hD : va_D A (mW cB cI cJ q σ)) (hS : va_S A s.heap H locs) (hf : mm_ends_L36 n a1 σ = some ρ), W p l e (rm_mm_ends) s m args below meth c H locs 0 0 (MQ below (cQ D (gTy cB cI cJ) A (mW cB cI cJ q ρ.2) (some (.int ρ.1))) args s 0 0 A) (F0 m 36 ls []) := by
  intro n
  induction n with
  | zero =>
    intros
    rename_i hf
    cases hf
  | succ n ih =>
    intro a1 σ H locs ls hl hP hD hS hf
    exact mm_ends_t36 G (fun _ _ H locs ls hl hP hD hS hf => ih hl hP hD hS hf) hl hP hD hS hf
set_option maxHeartbeats 4000000 in
set_option maxRecDepth 100000 in
theorem mm_ends_t21 {p : Program} {l : Launch} {e : Env} {s : State} {m : MethodId} {args : Array Value} {below : List Frame} {meth : Method} {c : Code} {D : va_G} {aK aV : Nat → Nat} {A : Nat → Prop} {cB cI cJ : ClassId} {q : Nat → Nat} {H : Heap} {locs : List Loc} {ls : Array Slot} {ρ : Int32 × MSt} {σ : MSt} (G : CX p s m args meth c D (gTy cB cI cJ) aK aV A RX5 cX5_ends 2 (some .int)) (hl : lv_has ls 2 [(0, .ref (q 0))]) (hP : va_P D vwCl (mW cB cI cJ q σ) H) (hD : va_D A (mW cB cI cJ q σ)) (hS : va_S A s.heap H locs) (hf : mm_ends_b21 σ = some ρ) : W p l e (rm_mm_ends) s m args below meth c H locs 0 0 (MQ below (cQ D (gTy cB cI cJ) A (mW cB cI cJ q ρ.2) (some (.int ρ.1))) args s 0 0 A) (F0 m 21 ls []) := by
  unfold mm_ends_b21 at hf
  obtain ⟨hx, hb, hml, hown, hT, hrt, hlk, hK, hA, hG, hE⟩ := id G
  refine lv_aload_n hx hb dX5_ends_21 rfl (lv_at hl 0 rfl) ?_
  refine gm_X5_fault (v := (mf_fault σ)) G hP dX5_ends_22 rfl ?_
  refine lv_if_le (tgt := 34) hx hb dX5_ends_25 (by decide) (fun c3 => ?_) (fun c3 => ?_)
  · have hf := (if_pos c3).symm.trans hf
    refine lv_iconst (v := (0 : Int32)) hx hb dX5_ends_34 (by decide) ?_
    refine lv_istore_n (lv' := [(1, .int (0 : Int32)), (0, .ref (q 0))]) hx hb dX5_ends_35 rfl hl (by decide) rfl (fun ls hl => ?_)
    exact W.eq (g2 := F0 m 36 ls []) rfl (mm_ends_u36 G FU (lv_sub hl [1, 0] rfl) hP hD hS hf)
  · have hf := (if_neg c3).symm.trans hf
    refine lv_aload_n hx hb dX5_ends_28 rfl (lv_at hl 0 rfl) ?_
    refine gm_X5_fault (v := (mf_fault σ)) G hP dX5_ends_29 rfl ?_
    refine lv_ineg hx hb dX5_ends_32 ?_
    cases hf
    exact ct_iret G rfl hP hD hS dX5_ends_33
set_option maxHeartbeats 4000000 in
set_option maxRecDepth 100000 in
theorem mm_ends_t0e {p : Program} {l : Launch} {e : Env} {s : State} {m : MethodId} {args : Array Value} {below : List Frame} {meth : Method} {c : Code} {D : va_G} {aK aV : Nat → Nat} {A : Nat → Prop} {cB cI cJ : ClassId} {q : Nat → Nat} {H : Heap} {locs : List Loc} {ls : Array Slot} {ρ : Int32 × MSt} {σ : MSt} (G : CX p s m args meth c D (gTy cB cI cJ) aK aV A RX5 cX5_ends 2 (some .int)) (hl : lv_has ls 2 [(0, .ref (q 0))]) (hP : va_P D vwCl (mW cB cI cJ q σ) H) (hD : va_D A (mW cB cI cJ q σ)) (hS : va_S A s.heap H locs) (hf : mm_ends σ = some ρ) : W p l e (rm_mm_ends) s m args below meth c H locs 0 0 (MQ below (cQ D (gTy cB cI cJ) A (mW cB cI cJ q ρ.2) (some (.int ρ.1))) args s 0 0 A) (F0 m 0 ls []) := by
  unfold mm_ends at hf
  obtain ⟨hx, hb, hml, hown, hT, hrt, hlk, hK, hA, hG, hE⟩ := id G
  refine lv_aload_n hx hb dX5_ends_0 rfl (lv_at hl 0 rfl) ?_
  refine gm_X5_freshMany (v := (mf_freshMany σ)) G hP dX5_ends_1 rfl ?_
  refine lv_aload_n hx hb dX5_ends_4 rfl (lv_at hl 0 rfl) ?_
  refine gm_X5_room (v := (mf_room σ)) G hP dX5_ends_5 rfl ?_
  refine lv_icmp_le (tgt := 21) hx hb dX5_ends_8 (by decide) (fun c1 => ?_) (fun c1 => ?_)
  · have hf := (if_pos c1).symm.trans hf
    exact W.eq (g2 := F0 m 21 ls []) rfl (mm_ends_t21 G (lv_sub hl [0] rfl) hP hD hS hf)
  · have hf := (if_neg c1).symm.trans hf
    refine lv_aload_n hx hb dX5_ends_11 rfl (lv_at hl 0 rfl) ?_
    refine lv_iconst (v := (5 : Int32)) hx hb dX5_ends_12 (by decide) ?_
    refine lv_aload_n hx hb dX5_ends_13 rfl (lv_at hl 0 rfl) ?_
    refine gm_X5_taped (v := (mf_taped σ)) G hP dX5_ends_14 rfl ?_
    obtain ⟨x2, hx2, hf⟩ := bd_some hf
    refine vM (As := [.int (5 : Int32), .int (mf_taped σ)]) (rest := []) G kX5_90 (c_mm_wrong hx2) hP hD hS ⟨rfl, rfl, Nat.le_of_ble_eq_true rfl, Nat.le_of_ble_eq_true rfl⟩ ⟨Nat.zero_le _, Nat.zero_le _⟩ rfl hl.1 (Nat.le_of_ble_eq_true rfl) dX5_ends_17 (fun H locs hP hD hS => ?_)
    refine W.eq (g2 := F0 m 20 ls [.int (bI x2.1)]) rfl ?_
    refine lv_pop hx hb dX5_ends_20 rfl ?_
    exact W.eq (g2 := F0 m 21 ls []) rfl (mm_ends_t21 G (lv_sub hl [0] rfl) hP hD hS hf)
set_option maxHeartbeats 4000000 in
set_option maxRecDepth 100000 in
theorem c_mm_ends {l : Launch} {D : va_G} {aK aV : Nat → Nat} {cB cI cJ : ClassId} {q : Nat → Nat} {ρ : Int32 × MSt} {σ : MSt} (hf : mm_ends σ = some ρ) : CT l D (gTy cB cI cJ) aK aV yX5_ends (wM yX5_ends cX5_ends 2 (some .int)) (rm_mm_ends) 0 0 [.ref (q 0)] (mW cB cI cJ q σ) (some (.int ρ.1)) (mW cB cI cJ q ρ.2) := by
  refine CT.of (by decide) rfl ?_
  intro p e s m below meth c A G hnm hP hD hS
  have hl := lv_entry [.ref (q 0)] (n := 2) (Nat.le_of_ble_eq_true rfl)
  rw [lg_entry_eq]
  generalize (lg_sl [.ref (q 0)] ++ List.replicate (2 - (lg_sl [.ref (q 0)]).length) Slot.unset).toArray = ls at hl ⊢
  exact mm_ends_t0e G hl hP hD hS hf
def mm_puts_b135 (k135 : Int64 → Int32 → MSt → Option (MSt)) (a2 : Int64) (a5 : Int32) (σ : MSt) : Option (MSt) := (if a5 < 0 then some σ else bd (mm_put ((Int64.toInt32 (a2 >>> (Int32.toInt64 a5 &&& 63))) &&& (255 : Int32)) σ) (fun (x15 : MSt) => lt (a5 + (-8 : Int32)) (fun (v16 : Int32) => k135 a2 v16 x15)))
def mm_puts_L135 : Nat → Int64 → Int32 → MSt → Option (MSt)
  | 0, _, _, _ => none
  | n + 1, a2, a5, σ => mm_puts_b135 (mm_puts_L135 n) a2 a5 σ
def mm_puts_b121 (a2 : Int64) (a4 : Int32) (s0 : Int32) (s1 : Int32) (σ : MSt) : Option (MSt) := bd (mm_put (s1 + s0) σ) (fun (x11 : MSt) => lt (((8 : Int32) * a4) - (8 : Int32)) (fun (v12 : Int32) => mm_puts_L135 FU a2 v12 x11))
def mm_puts_b69 (a1 : Int32) (a2 : Int64) (s0 : Int32) (σ : MSt) : Option (MSt) := (if s0 = 0 then mm_puts_b121 a2 s0 (Int64.toInt32 a2) ((32 : Int32) * a1) σ else (if s0 = (1 : Int32) then mm_puts_b121 a2 s0 (24 : Int32) ((32 : Int32) * a1) σ else (if s0 = (2 : Int32) then mm_puts_b121 a2 s0 (25 : Int32) ((32 : Int32) * a1) σ else (if s0 = (4 : Int32) then mm_puts_b121 a2 s0 (26 : Int32) ((32 : Int32) * a1) σ else mm_puts_b121 a2 s0 (27 : Int32) ((32 : Int32) * a1) σ))))
def mm_puts_b54 (a1 : Int32) (a2 : Int64) (σ : MSt) : Option (MSt) := (if ((Int64.toUInt64 a2 >>> ((Int32.toInt64 (32 : Int32)).toUInt64 &&& Int64.toUInt64 63)).toInt64) = (0 : Int64) then mm_puts_b69 a1 a2 (4 : Int32) σ else mm_puts_b69 a1 a2 (8 : Int32) σ)
def mm_puts_b36 (a1 : Int32) (a2 : Int64) (σ : MSt) : Option (MSt) := (if a2 < (0 : Int64) then mm_puts_b54 a1 a2 σ else (if (65536 : Int64) ≤ a2 then mm_puts_b54 a1 a2 σ else mm_puts_b69 a1 a2 (2 : Int32) σ))
def mm_puts_b18 (a1 : Int32) (a2 : Int64) (σ : MSt) : Option (MSt) := (if a2 < (0 : Int64) then mm_puts_b36 a1 a2 σ else (if (256 : Int64) ≤ a2 then mm_puts_b36 a1 a2 σ else mm_puts_b69 a1 a2 (1 : Int32) σ))
def mm_puts (p0 : Int32) (p1 : Int64) (σ : MSt) : Option (MSt) := (if p1 < (0 : Int64) then mm_puts_b18 p0 p1 σ else (if (24 : Int64) ≤ p1 then mm_puts_b18 p0 p1 σ else mm_puts_b69 p0 p1 (0 : Int32) σ))
abbrev rm_mm_puts : Room := { frames := 1, cells := 0, slots := 0, locals := 21 }
set_option maxHeartbeats 4000000 in
set_option maxRecDepth 100000 in
theorem mm_puts_t135 {p : Program} {l : Launch} {e : Env} {s : State} {m : MethodId} {args : Array Value} {below : List Frame} {meth : Method} {c : Code} {D : va_G} {aK aV : Nat → Nat} {A : Nat → Prop} {cB cI cJ : ClassId} {q : Nat → Nat} {H : Heap} {locs : List Loc} {ls : Array Slot} {ρ : MSt} {k135 : Int64 → Int32 → MSt → Option (MSt)} {a2 : Int64} {a5 : Int32} {σ : MSt} (G : CX p s m args meth c D (gTy cB cI cJ) aK aV A RX5 cX5_puts 6 none) (hk135 : ∀ (a2 : Int64) (a5 : Int32) (σ : MSt) (H : Heap) (locs : List Loc) (ls : Array Slot), lv_has ls 6 [(0, .ref (q 0)), (2, .long a2), (5, .int a5)] → va_P D vwCl (mW cB cI cJ q σ) H → va_D A (mW cB cI cJ q σ) → va_S A s.heap H locs → k135 a2 a5 σ = some ρ → W p l e (rm_mm_puts) s m args below meth c H locs 0 0 (MQ below (cQ D (gTy cB cI cJ) A (mW cB cI cJ q ρ) none) args s 0 0 A) (F0 m 135 ls [])) (hl : lv_has ls 6 [(0, .ref (q 0)), (2, .long a2), (5, .int a5)]) (hP : va_P D vwCl (mW cB cI cJ q σ) H) (hD : va_D A (mW cB cI cJ q σ)) (hS : va_S A s.heap H locs) (hf : mm_puts_b135 k135 a2 a5 σ = some ρ) : W p l e (rm_mm_puts) s m args below meth c H locs 0 0 (MQ below (cQ D (gTy cB cI cJ) A (mW cB cI cJ q ρ) none) args s 0 0 A) (F0 m 135 ls []) := by
  unfold mm_puts_b135 at hf
  obtain ⟨hx, hb, hml, hown, hT, hrt, hlk, hK, hA, hG, hE⟩ := id G
  refine lv_iload hx hb dX5_puts_135 (lv_at hl 2 rfl) ?_
  refine lv_if_lt (tgt := 159) hx hb dX5_puts_137 (by decide) (fun c14 => ?_) (fun c14 => ?_)
  · have hf := (if_pos c14).symm.trans hf
    cases hf
    exact ct_vret G hP hD hS dX5_puts_159
  · have hf := (if_neg c14).symm.trans hf
    refine lv_aload_n hx hb dX5_puts_140 rfl (lv_at hl 0 rfl) ?_
    refine lv_lload_n hx hb dX5_puts_141 rfl (lv_at hl 1 rfl) ?_
    refine lv_iload hx hb dX5_puts_142 (lv_at hl 2 rfl) ?_
    refine lv_lshr (v := (a2 >>> (Int32.toInt64 a5 &&& 63))) hx hb dX5_puts_144 rfl ?_
    refine lv_l2i (v := (Int64.toInt32 (a2 >>> (Int32.toInt64 a5 &&& 63)))) hx hb dX5_puts_145 rfl ?_
    refine lv_sipush (v := (255 : Int32)) hx hb dX5_puts_146 (by decide) ?_
    refine lv_iand hx hb dX5_puts_149 ?_
    obtain ⟨x15, hx15, hf⟩ := bd_some hf
    refine vM (As := [.int ((Int64.toInt32 (a2 >>> (Int32.toInt64 a5 &&& 63))) &&& (255 : Int32))]) (rest := []) G kX5_219 (c_mm_put hx15) hP hD hS ⟨rfl, rfl, Nat.le_of_ble_eq_true rfl, Nat.le_of_ble_eq_true rfl⟩ ⟨Nat.zero_le _, Nat.zero_le _⟩ rfl hl.1 (Nat.le_of_ble_eq_true rfl) dX5_puts_150 (fun H locs hP hD hS => ?_)
    refine W.eq (g2 := F0 m 153 ls []) rfl ?_
    obtain ⟨v16, ev16⟩ : ∃ y : Int32, y = (a5 + (-8 : Int32)) := ⟨_, rfl⟩
    have hf := lt_eq hf ev16
    refine lv_iinc (v := v16) (lv' := [(5, .int v16), (0, .ref (q 0)), (2, .long a2)]) hx hb dX5_puts_153 hl (k := 2) rfl (by rw [ev16]; rfl) (by decide) rfl (fun ls hl => ?_)
    refine lv_goto (tgt := 135) hx hb dX5_puts_156 (by decide) ?_
    exact W.eq (g2 := F0 m 135 ls []) rfl (hk135 _ _ _ _ _ _ (lv_sub hl [1, 2, 0] rfl) hP hD hS hf)
set_option maxHeartbeats 4000000 in
set_option maxRecDepth 100000 in
theorem mm_puts_u135 {p : Program} {l : Launch} {e : Env} {s : State} {m : MethodId} {args : Array Value} {below : List Frame} {meth : Method} {c : Code} {D : va_G} {aK aV : Nat → Nat} {A : Nat → Prop} {cB cI cJ : ClassId} {q : Nat → Nat} {ρ : MSt} (G : CX p s m args meth c D (gTy cB cI cJ) aK aV A RX5 cX5_puts 6 none) : ∀ (n : Nat) {a2 : Int64} {a5 : Int32} {σ : MSt} {H : Heap} {locs : List Loc} {ls : Array Slot} (hl : lv_has ls 6 [(0, .ref (q 0)), (2, .long a2), (5, .int a5)]) (hP : va_P D vwCl (mW cB cI cJ q σ) H) (hD : va_D A (mW cB cI cJ q σ)) (hS : va_S A s.heap H locs) (hf : mm_puts_L135 n a2 a5 σ = some ρ), W p l e (rm_mm_puts) s m args below meth c H locs 0 0 (MQ below (cQ D (gTy cB cI cJ) A (mW cB cI cJ q ρ) none) args s 0 0 A) (F0 m 135 ls []) := by
  intro n
  induction n with
  | zero =>
    intros
    rename_i hf
    cases hf
  | succ n ih =>
    intro a2 a5 σ H locs ls hl hP hD hS hf
    exact mm_puts_t135 G (fun _ _ _ H locs ls hl hP hD hS hf => ih hl hP hD hS hf) hl hP hD hS hf
set_option maxHeartbeats 4000000 in
set_option maxRecDepth 100000 in
theorem mm_puts_t121 {p : Program} {l : Launch} {e : Env} {s : State} {m : MethodId} {args : Array Value} {below : List Frame} {meth : Method} {c : Code} {D : va_G} {aK aV : Nat → Nat} {A : Nat → Prop} {cB cI cJ : ClassId} {q : Nat → Nat} {H : Heap} {locs : List Loc} {ls : Array Slot} {ρ : MSt} {a2 : Int64} {a4 : Int32} {s0 : Int32} {s1 : Int32} {σ : MSt} (G : CX p s m args meth c D (gTy cB cI cJ) aK aV A RX5 cX5_puts 6 none) (hl : lv_has ls 6 [(0, .ref (q 0)), (2, .long a2), (4, .int a4)]) (hP : va_P D vwCl (mW cB cI cJ q σ) H) (hD : va_D A (mW cB cI cJ q σ)) (hS : va_S A s.heap H locs) (hf : mm_puts_b121 a2 a4 s0 s1 σ = some ρ) : W p l e (rm_mm_puts) s m args below meth c H locs 0 0 (MQ below (cQ D (gTy cB cI cJ) A (mW cB cI cJ q ρ) none) args s 0 0 A) (F0 m 121 ls [.int s0, .int s1, .ref (q 0)]) := by
  unfold mm_puts_b121 at hf
  obtain ⟨hx, hb, hml, hown, hT, hrt, hlk, hK, hA, hG, hE⟩ := id G
  refine lv_iadd hx hb dX5_puts_121 ?_
  obtain ⟨x11, hx11, hf⟩ := bd_some hf
  refine vM (As := [.int (s1 + s0)]) (rest := []) G kX5_219 (c_mm_put hx11) hP hD hS ⟨rfl, rfl, Nat.le_of_ble_eq_true rfl, Nat.le_of_ble_eq_true rfl⟩ ⟨Nat.zero_le _, Nat.zero_le _⟩ rfl hl.1 (Nat.le_of_ble_eq_true rfl) dX5_puts_122 (fun H locs hP hD hS => ?_)
  refine W.eq (g2 := F0 m 125 ls []) rfl ?_
  refine lv_bipush (v := (8 : Int32)) hx hb dX5_puts_125 (by decide) ?_
  refine lv_iload hx hb dX5_puts_127 (lv_at hl 2 rfl) ?_
  refine lv_imul hx hb dX5_puts_129 ?_
  refine lv_bipush (v := (8 : Int32)) hx hb dX5_puts_130 (by decide) ?_
  refine lv_isub hx hb dX5_puts_132 ?_
  refine lv_topi (fun v12 ev12 => ?_)
  have hf := lt_eq hf ev12
  refine lv_istore (lv' := [(5, .int v12), (0, .ref (q 0)), (2, .long a2), (4, .int a4)]) hx hb dX5_puts_133 hl (by decide) rfl (fun ls hl => ?_)
  exact W.eq (g2 := F0 m 135 ls []) rfl (mm_puts_u135 G FU (lv_sub hl [1, 2, 0] rfl) hP hD hS hf)
set_option maxHeartbeats 4000000 in
set_option maxRecDepth 100000 in
theorem mm_puts_t69 {p : Program} {l : Launch} {e : Env} {s : State} {m : MethodId} {args : Array Value} {below : List Frame} {meth : Method} {c : Code} {D : va_G} {aK aV : Nat → Nat} {A : Nat → Prop} {cB cI cJ : ClassId} {q : Nat → Nat} {H : Heap} {locs : List Loc} {ls : Array Slot} {ρ : MSt} {a1 : Int32} {a2 : Int64} {s0 : Int32} {σ : MSt} (G : CX p s m args meth c D (gTy cB cI cJ) aK aV A RX5 cX5_puts 6 none) (hl : lv_has ls 6 [(0, .ref (q 0)), (1, .int a1), (2, .long a2)]) (hP : va_P D vwCl (mW cB cI cJ q σ) H) (hD : va_D A (mW cB cI cJ q σ)) (hS : va_S A s.heap H locs) (hf : mm_puts_b69 a1 a2 s0 σ = some ρ) : W p l e (rm_mm_puts) s m args below meth c H locs 0 0 (MQ below (cQ D (gTy cB cI cJ) A (mW cB cI cJ q ρ) none) args s 0 0 A) (F0 m 69 ls [.int s0]) := by
  unfold mm_puts_b69 at hf
  obtain ⟨hx, hb, hml, hown, hT, hrt, hlk, hK, hA, hG, hE⟩ := id G
  refine lv_istore (lv' := [(4, .int s0), (0, .ref (q 0)), (1, .int a1), (2, .long a2)]) hx hb dX5_puts_69 hl (by decide) rfl (fun ls hl => ?_)
  refine lv_aload_n hx hb dX5_puts_71 rfl (lv_at hl 1 rfl) ?_
  refine lv_bipush (v := (32 : Int32)) hx hb dX5_puts_72 (by decide) ?_
  refine lv_iload_n hx hb dX5_puts_74 rfl (lv_at hl 2 rfl) ?_
  refine lv_imul hx hb dX5_puts_75 ?_
  refine lv_iload hx hb dX5_puts_76 (lv_at hl 0 rfl) ?_
  refine lv_if_ne (tgt := 86) hx hb dX5_puts_78 (by decide) (fun c5 => ?_) (fun c5 => ?_)
  · have hf := (if_neg c5).symm.trans hf
    refine lv_iload hx hb dX5_puts_86 (lv_at hl 0 rfl) ?_
    refine lv_iconst (v := (1 : Int32)) hx hb dX5_puts_88 (by decide) ?_
    refine lv_icmp_ne (tgt := 97) hx hb dX5_puts_89 (by decide) (fun c6 => ?_) (fun c6 => ?_)
    · have hf := (if_neg c6).symm.trans hf
      refine lv_iload hx hb dX5_puts_97 (lv_at hl 0 rfl) ?_
      refine lv_iconst (v := (2 : Int32)) hx hb dX5_puts_99 (by decide) ?_
      refine lv_icmp_ne (tgt := 108) hx hb dX5_puts_100 (by decide) (fun c7 => ?_) (fun c7 => ?_)
      · have hf := (if_neg c7).symm.trans hf
        refine lv_iload hx hb dX5_puts_108 (lv_at hl 0 rfl) ?_
        refine lv_iconst (v := (4 : Int32)) hx hb dX5_puts_110 (by decide) ?_
        refine lv_icmp_ne (tgt := 119) hx hb dX5_puts_111 (by decide) (fun c8 => ?_) (fun c8 => ?_)
        · have hf := (if_neg c8).symm.trans hf
          refine lv_bipush (v := (27 : Int32)) hx hb dX5_puts_119 (by decide) ?_
          exact W.eq (g2 := F0 m 121 ls [.int (27 : Int32), .int ((32 : Int32) * a1), .ref (q 0)]) rfl (mm_puts_t121 G (lv_sub hl [1, 3, 0] rfl) hP hD hS hf)
        · have hf := (if_pos c8).symm.trans hf
          refine lv_bipush (v := (26 : Int32)) hx hb dX5_puts_114 (by decide) ?_
          refine lv_goto (tgt := 121) hx hb dX5_puts_116 (by decide) ?_
          exact W.eq (g2 := F0 m 121 ls [.int (26 : Int32), .int ((32 : Int32) * a1), .ref (q 0)]) rfl (mm_puts_t121 G (lv_sub hl [1, 3, 0] rfl) hP hD hS hf)
      · have hf := (if_pos c7).symm.trans hf
        refine lv_bipush (v := (25 : Int32)) hx hb dX5_puts_103 (by decide) ?_
        refine lv_goto (tgt := 121) hx hb dX5_puts_105 (by decide) ?_
        exact W.eq (g2 := F0 m 121 ls [.int (25 : Int32), .int ((32 : Int32) * a1), .ref (q 0)]) rfl (mm_puts_t121 G (lv_sub hl [1, 3, 0] rfl) hP hD hS hf)
    · have hf := (if_pos c6).symm.trans hf
      refine lv_bipush (v := (24 : Int32)) hx hb dX5_puts_92 (by decide) ?_
      refine lv_goto (tgt := 121) hx hb dX5_puts_94 (by decide) ?_
      exact W.eq (g2 := F0 m 121 ls [.int (24 : Int32), .int ((32 : Int32) * a1), .ref (q 0)]) rfl (mm_puts_t121 G (lv_sub hl [1, 3, 0] rfl) hP hD hS hf)
  · have hf := (if_pos c5).symm.trans hf
    refine lv_lload_n hx hb dX5_puts_81 rfl (lv_at hl 3 rfl) ?_
    refine lv_l2i (v := (Int64.toInt32 a2)) hx hb dX5_puts_82 rfl ?_
    refine lv_goto (tgt := 121) hx hb dX5_puts_83 (by decide) ?_
    exact W.eq (g2 := F0 m 121 ls [.int (Int64.toInt32 a2), .int ((32 : Int32) * a1), .ref (q 0)]) rfl (mm_puts_t121 G (lv_sub hl [1, 3, 0] rfl) hP hD hS hf)
set_option maxHeartbeats 4000000 in
set_option maxRecDepth 100000 in
theorem mm_puts_t54 {p : Program} {l : Launch} {e : Env} {s : State} {m : MethodId} {args : Array Value} {below : List Frame} {meth : Method} {c : Code} {D : va_G} {aK aV : Nat → Nat} {A : Nat → Prop} {cB cI cJ : ClassId} {q : Nat → Nat} {H : Heap} {locs : List Loc} {ls : Array Slot} {ρ : MSt} {a1 : Int32} {a2 : Int64} {σ : MSt} (G : CX p s m args meth c D (gTy cB cI cJ) aK aV A RX5 cX5_puts 6 none) (hl : lv_has ls 6 [(0, .ref (q 0)), (1, .int a1), (2, .long a2)]) (hP : va_P D vwCl (mW cB cI cJ q σ) H) (hD : va_D A (mW cB cI cJ q σ)) (hS : va_S A s.heap H locs) (hf : mm_puts_b54 a1 a2 σ = some ρ) : W p l e (rm_mm_puts) s m args below meth c H locs 0 0 (MQ below (cQ D (gTy cB cI cJ) A (mW cB cI cJ q ρ) none) args s 0 0 A) (F0 m 54 ls []) := by
  unfold mm_puts_b54 at hf
  obtain ⟨hx, hb, hml, hown, hT, hrt, hlk, hK, hA, hG, hE⟩ := id G
  refine lv_lload_n hx hb dX5_puts_54 rfl (lv_at hl 2 rfl) ?_
  refine lv_bipush (v := (32 : Int32)) hx hb dX5_puts_55 (by decide) ?_
  refine lv_lushr (v := ((Int64.toUInt64 a2 >>> ((Int32.toInt64 (32 : Int32)).toUInt64 &&& Int64.toUInt64 63)).toInt64)) hx hb dX5_puts_57 rfl ?_
  refine lv_lconst (v := (0 : Int64)) hx hb dX5_puts_58 (by decide) ?_
  refine W.lcmp hx hb dX5_puts_59 ?_
  refine lv_if_ne (tgt := 67) hx hb dX5_puts_60 (by decide) (fun c13 => ?_) (fun c13 => ?_)
  · have hf := (if_neg (fun z => c13 ((lg_cmp_eq _ _).mpr z))).symm.trans hf
    refine lv_bipush (v := (8 : Int32)) hx hb dX5_puts_67 (by decide) ?_
    exact W.eq (g2 := F0 m 69 ls [.int (8 : Int32)]) rfl (mm_puts_t69 G (lv_sub hl [0, 1, 2] rfl) hP hD hS hf)
  · have hf := (if_pos ((lg_cmp_eq _ _).mp c13)).symm.trans hf
    refine lv_iconst (v := (4 : Int32)) hx hb dX5_puts_63 (by decide) ?_
    refine lv_goto (tgt := 69) hx hb dX5_puts_64 (by decide) ?_
    exact W.eq (g2 := F0 m 69 ls [.int (4 : Int32)]) rfl (mm_puts_t69 G (lv_sub hl [0, 1, 2] rfl) hP hD hS hf)
set_option maxHeartbeats 4000000 in
set_option maxRecDepth 100000 in
theorem mm_puts_t36 {p : Program} {l : Launch} {e : Env} {s : State} {m : MethodId} {args : Array Value} {below : List Frame} {meth : Method} {c : Code} {D : va_G} {aK aV : Nat → Nat} {A : Nat → Prop} {cB cI cJ : ClassId} {q : Nat → Nat} {H : Heap} {locs : List Loc} {ls : Array Slot} {ρ : MSt} {a1 : Int32} {a2 : Int64} {σ : MSt} (G : CX p s m args meth c D (gTy cB cI cJ) aK aV A RX5 cX5_puts 6 none) (hl : lv_has ls 6 [(0, .ref (q 0)), (1, .int a1), (2, .long a2)]) (hP : va_P D vwCl (mW cB cI cJ q σ) H) (hD : va_D A (mW cB cI cJ q σ)) (hS : va_S A s.heap H locs) (hf : mm_puts_b36 a1 a2 σ = some ρ) : W p l e (rm_mm_puts) s m args below meth c H locs 0 0 (MQ below (cQ D (gTy cB cI cJ) A (mW cB cI cJ q ρ) none) args s 0 0 A) (F0 m 36 ls []) := by
  unfold mm_puts_b36 at hf
  obtain ⟨hx, hb, hml, hown, hT, hrt, hlk, hK, hA, hG, hE⟩ := id G
  refine lv_lload_n hx hb dX5_puts_36 rfl (lv_at hl 2 rfl) ?_
  refine lv_lconst (v := (0 : Int64)) hx hb dX5_puts_37 (by decide) ?_
  refine W.lcmp hx hb dX5_puts_38 ?_
  refine lv_if_lt (tgt := 54) hx hb dX5_puts_39 (by decide) (fun c9 => ?_) (fun c9 => ?_)
  · have hf := (if_pos ((lg_cmp_lt _ _).mp c9)).symm.trans hf
    exact W.eq (g2 := F0 m 54 ls []) rfl (mm_puts_t54 G (lv_sub hl [0, 1, 2] rfl) hP hD hS hf)
  · have hf := (if_neg (fun z => c9 ((lg_cmp_lt _ _).mpr z))).symm.trans hf
    refine lv_lload_n hx hb dX5_puts_42 rfl (lv_at hl 2 rfl) ?_
    refine lv_ldc2 (v := (65536 : Int64)) hx hb hown (hT _ wc_X5_217) dX5_puts_43 ?_
    refine W.lcmp hx hb dX5_puts_46 ?_
    refine lv_if_ge (tgt := 54) hx hb dX5_puts_47 (by decide) (fun c10 => ?_) (fun c10 => ?_)
    · have hf := (if_pos ((lg_cmp_ge _ _).mp c10)).symm.trans hf
      exact W.eq (g2 := F0 m 54 ls []) rfl (mm_puts_t54 G (lv_sub hl [0, 1, 2] rfl) hP hD hS hf)
    · have hf := (if_neg (fun z => c10 ((lg_cmp_ge _ _).mpr z))).symm.trans hf
      refine lv_iconst (v := (2 : Int32)) hx hb dX5_puts_50 (by decide) ?_
      refine lv_goto (tgt := 69) hx hb dX5_puts_51 (by decide) ?_
      exact W.eq (g2 := F0 m 69 ls [.int (2 : Int32)]) rfl (mm_puts_t69 G (lv_sub hl [0, 1, 2] rfl) hP hD hS hf)
set_option maxHeartbeats 4000000 in
set_option maxRecDepth 100000 in
theorem mm_puts_t18 {p : Program} {l : Launch} {e : Env} {s : State} {m : MethodId} {args : Array Value} {below : List Frame} {meth : Method} {c : Code} {D : va_G} {aK aV : Nat → Nat} {A : Nat → Prop} {cB cI cJ : ClassId} {q : Nat → Nat} {H : Heap} {locs : List Loc} {ls : Array Slot} {ρ : MSt} {a1 : Int32} {a2 : Int64} {σ : MSt} (G : CX p s m args meth c D (gTy cB cI cJ) aK aV A RX5 cX5_puts 6 none) (hl : lv_has ls 6 [(0, .ref (q 0)), (1, .int a1), (2, .long a2)]) (hP : va_P D vwCl (mW cB cI cJ q σ) H) (hD : va_D A (mW cB cI cJ q σ)) (hS : va_S A s.heap H locs) (hf : mm_puts_b18 a1 a2 σ = some ρ) : W p l e (rm_mm_puts) s m args below meth c H locs 0 0 (MQ below (cQ D (gTy cB cI cJ) A (mW cB cI cJ q ρ) none) args s 0 0 A) (F0 m 18 ls []) := by
  unfold mm_puts_b18 at hf
  obtain ⟨hx, hb, hml, hown, hT, hrt, hlk, hK, hA, hG, hE⟩ := id G
  refine lv_lload_n hx hb dX5_puts_18 rfl (lv_at hl 2 rfl) ?_
  refine lv_lconst (v := (0 : Int64)) hx hb dX5_puts_19 (by decide) ?_
  refine W.lcmp hx hb dX5_puts_20 ?_
  refine lv_if_lt (tgt := 36) hx hb dX5_puts_21 (by decide) (fun c3 => ?_) (fun c3 => ?_)
  · have hf := (if_pos ((lg_cmp_lt _ _).mp c3)).symm.trans hf
    exact W.eq (g2 := F0 m 36 ls []) rfl (mm_puts_t36 G (lv_sub hl [0, 1, 2] rfl) hP hD hS hf)
  · have hf := (if_neg (fun z => c3 ((lg_cmp_lt _ _).mpr z))).symm.trans hf
    refine lv_lload_n hx hb dX5_puts_24 rfl (lv_at hl 2 rfl) ?_
    refine lv_ldc2 (v := (256 : Int64)) hx hb hown (hT _ wc_X5_215) dX5_puts_25 ?_
    refine W.lcmp hx hb dX5_puts_28 ?_
    refine lv_if_ge (tgt := 36) hx hb dX5_puts_29 (by decide) (fun c4 => ?_) (fun c4 => ?_)
    · have hf := (if_pos ((lg_cmp_ge _ _).mp c4)).symm.trans hf
      exact W.eq (g2 := F0 m 36 ls []) rfl (mm_puts_t36 G (lv_sub hl [0, 1, 2] rfl) hP hD hS hf)
    · have hf := (if_neg (fun z => c4 ((lg_cmp_ge _ _).mpr z))).symm.trans hf
      refine lv_iconst (v := (1 : Int32)) hx hb dX5_puts_32 (by decide) ?_
      refine lv_goto (tgt := 69) hx hb dX5_puts_33 (by decide) ?_
      exact W.eq (g2 := F0 m 69 ls [.int (1 : Int32)]) rfl (mm_puts_t69 G (lv_sub hl [0, 1, 2] rfl) hP hD hS hf)
set_option maxHeartbeats 4000000 in
set_option maxRecDepth 100000 in
theorem mm_puts_t0e {p : Program} {l : Launch} {e : Env} {s : State} {m : MethodId} {args : Array Value} {below : List Frame} {meth : Method} {c : Code} {D : va_G} {aK aV : Nat → Nat} {A : Nat → Prop} {cB cI cJ : ClassId} {q : Nat → Nat} {H : Heap} {locs : List Loc} {ls : Array Slot} {ρ : MSt} {p0 : Int32} {p1 : Int64} {σ : MSt} (G : CX p s m args meth c D (gTy cB cI cJ) aK aV A RX5 cX5_puts 6 none) (hl : lv_has ls 6 [(0, .ref (q 0)), (1, .int p0), (2, .long p1)]) (hP : va_P D vwCl (mW cB cI cJ q σ) H) (hD : va_D A (mW cB cI cJ q σ)) (hS : va_S A s.heap H locs) (hf : mm_puts p0 p1 σ = some ρ) : W p l e (rm_mm_puts) s m args below meth c H locs 0 0 (MQ below (cQ D (gTy cB cI cJ) A (mW cB cI cJ q ρ) none) args s 0 0 A) (F0 m 0 ls []) := by
  unfold mm_puts at hf
  obtain ⟨hx, hb, hml, hown, hT, hrt, hlk, hK, hA, hG, hE⟩ := id G
  refine lv_lload_n hx hb dX5_puts_0 rfl (lv_at hl 2 rfl) ?_
  refine lv_lconst (v := (0 : Int64)) hx hb dX5_puts_1 (by decide) ?_
  refine W.lcmp hx hb dX5_puts_2 ?_
  refine lv_if_lt (tgt := 18) hx hb dX5_puts_3 (by decide) (fun c1 => ?_) (fun c1 => ?_)
  · have hf := (if_pos ((lg_cmp_lt _ _).mp c1)).symm.trans hf
    exact W.eq (g2 := F0 m 18 ls []) rfl (mm_puts_t18 G (lv_sub hl [0, 1, 2] rfl) hP hD hS hf)
  · have hf := (if_neg (fun z => c1 ((lg_cmp_lt _ _).mpr z))).symm.trans hf
    refine lv_lload_n hx hb dX5_puts_6 rfl (lv_at hl 2 rfl) ?_
    refine lv_ldc2 (v := (24 : Int64)) hx hb hown (hT _ wc_X5_195) dX5_puts_7 ?_
    refine W.lcmp hx hb dX5_puts_10 ?_
    refine lv_if_ge (tgt := 18) hx hb dX5_puts_11 (by decide) (fun c2 => ?_) (fun c2 => ?_)
    · have hf := (if_pos ((lg_cmp_ge _ _).mp c2)).symm.trans hf
      exact W.eq (g2 := F0 m 18 ls []) rfl (mm_puts_t18 G (lv_sub hl [0, 1, 2] rfl) hP hD hS hf)
    · have hf := (if_neg (fun z => c2 ((lg_cmp_ge _ _).mpr z))).symm.trans hf
      refine lv_iconst (v := (0 : Int32)) hx hb dX5_puts_14 (by decide) ?_
      refine lv_goto (tgt := 69) hx hb dX5_puts_15 (by decide) ?_
      exact W.eq (g2 := F0 m 69 ls [.int (0 : Int32)]) rfl (mm_puts_t69 G (lv_sub hl [0, 1, 2] rfl) hP hD hS hf)
set_option maxHeartbeats 4000000 in
set_option maxRecDepth 100000 in
theorem c_mm_puts {l : Launch} {D : va_G} {aK aV : Nat → Nat} {cB cI cJ : ClassId} {q : Nat → Nat} {ρ : MSt} {p0 : Int32} {p1 : Int64} {σ : MSt} (hf : mm_puts p0 p1 σ = some ρ) : CT l D (gTy cB cI cJ) aK aV yX5_puts (wM yX5_puts cX5_puts 6 none) (rm_mm_puts) 0 0 [.ref (q 0), .int p0, .long p1] (mW cB cI cJ q σ) none (mW cB cI cJ q ρ) := by
  refine CT.of (by decide) rfl ?_
  intro p e s m below meth c A G hnm hP hD hS
  have hl := lv_entry [.ref (q 0), .int p0, .long p1] (n := 6) (Nat.le_of_ble_eq_true rfl)
  rw [lg_entry_eq]
  generalize (lg_sl [.ref (q 0), .int p0, .long p1] ++ List.replicate (6 - (lg_sl [.ref (q 0), .int p0, .long p1]).length) Slot.unset).toArray = ls at hl ⊢
  exact mm_puts_t0e G hl hP hD hS hf
def mm_putsLetters_b2 (k2 : Int32 → Int32 → MSt → Option (MSt)) (a1 : Int32) (a2 : Int32) (σ : MSt) : Option (MSt) := ck a1 4200 ((if (Int64.toInt32 ((mf_numbers σ) (a1).toNatClampNeg)) ≤ a2 then some σ else ck a1 4200 (ck (((mf_places σ) (a1).toNatClampNeg) + a2) 8200 (bd (mm_put ((mf_letters σ) ((((mf_places σ) (a1).toNatClampNeg) + a2)).toNatClampNeg) σ) (fun (x5 : MSt) => lt (a2 + (1 : Int32)) (fun (v6 : Int32) => k2 a1 v6 x5))))))
def mm_putsLetters_L2 : Nat → Int32 → Int32 → MSt → Option (MSt)
  | 0, _, _, _ => none
  | n + 1, a1, a2, σ => mm_putsLetters_b2 (mm_putsLetters_L2 n) a1 a2 σ
def mm_putsLetters (p0 : Int32) (σ : MSt) : Option (MSt) := mm_putsLetters_L2 FU p0 (0 : Int32) σ
abbrev rm_mm_putsLetters : Room := { frames := 1, cells := 0, slots := 0, locals := 21 }
set_option maxHeartbeats 4000000 in
set_option maxRecDepth 100000 in
theorem mm_putsLetters_t2 {p : Program} {l : Launch} {e : Env} {s : State} {m : MethodId} {args : Array Value} {below : List Frame} {meth : Method} {c : Code} {D : va_G} {aK aV : Nat → Nat} {A : Nat → Prop} {cB cI cJ : ClassId} {q : Nat → Nat} {H : Heap} {locs : List Loc} {ls : Array Slot} {ρ : MSt} {k2 : Int32 → Int32 → MSt → Option (MSt)} {a1 : Int32} {a2 : Int32} {σ : MSt} (G : CX p s m args meth c D (gTy cB cI cJ) aK aV A RX5 cX5_putsLetters 3 none) (hk2 : ∀ (a1 : Int32) (a2 : Int32) (σ : MSt) (H : Heap) (locs : List Loc) (ls : Array Slot), lv_has ls 3 [(0, .ref (q 0)), (1, .int a1), (2, .int a2)] → va_P D vwCl (mW cB cI cJ q σ) H → va_D A (mW cB cI cJ q σ) → va_S A s.heap H locs → k2 a1 a2 σ = some ρ → W p l e (rm_mm_putsLetters) s m args below meth c H locs 0 0 (MQ below (cQ D (gTy cB cI cJ) A (mW cB cI cJ q ρ) none) args s 0 0 A) (F0 m 2 ls [])) (hl : lv_has ls 3 [(0, .ref (q 0)), (1, .int a1), (2, .int a2)]) (hP : va_P D vwCl (mW cB cI cJ q σ) H) (hD : va_D A (mW cB cI cJ q σ)) (hS : va_S A s.heap H locs) (hf : mm_putsLetters_b2 k2 a1 a2 σ = some ρ) : W p l e (rm_mm_putsLetters) s m args below meth c H locs 0 0 (MQ below (cQ D (gTy cB cI cJ) A (mW cB cI cJ q ρ) none) args s 0 0 A) (F0 m 2 ls []) := by
  unfold mm_putsLetters_b2 at hf
  obtain ⟨hx, hb, hml, hown, hT, hrt, hlk, hK, hA, hG, hE⟩ := id G
  refine lv_iload_n hx hb dX5_putsLetters_2 rfl (lv_at hl 2 rfl) ?_
  refine lv_aload_n hx hb dX5_putsLetters_3 rfl (lv_at hl 0 rfl) ?_
  refine gm_X5_numbers G hP dX5_putsLetters_4 ?_
  refine lv_iload_n hx hb dX5_putsLetters_7 rfl (lv_at hl 1 rfl) ?_
  obtain ⟨hi1, hf⟩ := ck_some hf
  refine lm_numbers (f := (mf_numbers σ)) G hP hi1 dX5_putsLetters_8 rfl ?_
  refine lv_l2i (v := (Int64.toInt32 ((mf_numbers σ) (a1).toNatClampNeg))) hx hb dX5_putsLetters_9 rfl ?_
  refine lv_icmp_ge (tgt := 36) hx hb dX5_putsLetters_10 (by decide) (fun c2 => ?_) (fun c2 => ?_)
  · have hf := (if_pos c2).symm.trans hf
    cases hf
    exact ct_vret G hP hD hS dX5_putsLetters_36
  · have hf := (if_neg c2).symm.trans hf
    refine lv_aload_n hx hb dX5_putsLetters_13 rfl (lv_at hl 0 rfl) ?_
    refine lv_aload_n hx hb dX5_putsLetters_14 rfl (lv_at hl 0 rfl) ?_
    refine gm_X5_letters G hP dX5_putsLetters_15 ?_
    refine lv_aload_n hx hb dX5_putsLetters_18 rfl (lv_at hl 0 rfl) ?_
    refine gm_X5_places G hP dX5_putsLetters_19 ?_
    refine lv_iload_n hx hb dX5_putsLetters_22 rfl (lv_at hl 1 rfl) ?_
    obtain ⟨hi3, hf⟩ := ck_some hf
    refine lm_places (f := (mf_places σ)) G hP hi3 dX5_putsLetters_23 rfl ?_
    refine lv_iload_n hx hb dX5_putsLetters_24 rfl (lv_at hl 2 rfl) ?_
    refine lv_iadd hx hb dX5_putsLetters_25 ?_
    obtain ⟨hi4, hf⟩ := ck_some hf
    refine lm_letters (f := (mf_letters σ)) G hP hi4 dX5_putsLetters_26 rfl ?_
    obtain ⟨x5, hx5, hf⟩ := bd_some hf
    refine vM (As := [.int ((mf_letters σ) ((((mf_places σ) (a1).toNatClampNeg) + a2)).toNatClampNeg)]) (rest := []) G kX5_219 (c_mm_put hx5) hP hD hS ⟨rfl, rfl, Nat.le_of_ble_eq_true rfl, Nat.le_of_ble_eq_true rfl⟩ ⟨Nat.zero_le _, Nat.zero_le _⟩ rfl hl.1 (Nat.le_of_ble_eq_true rfl) dX5_putsLetters_27 (fun H locs hP hD hS => ?_)
    refine W.eq (g2 := F0 m 30 ls []) rfl ?_
    obtain ⟨v6, ev6⟩ : ∃ y : Int32, y = (a2 + (1 : Int32)) := ⟨_, rfl⟩
    have hf := lt_eq hf ev6
    refine lv_iinc (v := v6) (lv' := [(2, .int v6), (0, .ref (q 0)), (1, .int a1)]) hx hb dX5_putsLetters_30 hl (k := 2) rfl (by rw [ev6]; rfl) (by decide) rfl (fun ls hl => ?_)
    refine lv_goto (tgt := 2) hx hb dX5_putsLetters_33 (by decide) ?_
    exact W.eq (g2 := F0 m 2 ls []) rfl (hk2 _ _ _ _ _ _ (lv_sub hl [1, 2, 0] rfl) hP hD hS hf)
set_option maxHeartbeats 4000000 in
set_option maxRecDepth 100000 in
theorem mm_putsLetters_u2 {p : Program} {l : Launch} {e : Env} {s : State} {m : MethodId} {args : Array Value} {below : List Frame} {meth : Method} {c : Code} {D : va_G} {aK aV : Nat → Nat} {A : Nat → Prop} {cB cI cJ : ClassId} {q : Nat → Nat} {ρ : MSt} (G : CX p s m args meth c D (gTy cB cI cJ) aK aV A RX5 cX5_putsLetters 3 none) : ∀ (n : Nat) {a1 : Int32} {a2 : Int32} {σ : MSt} {H : Heap} {locs : List Loc} {ls : Array Slot} (hl : lv_has ls 3 [(0, .ref (q 0)), (1, .int a1), (2, .int a2)]) (hP : va_P D vwCl (mW cB cI cJ q σ) H) (hD : va_D A (mW cB cI cJ q σ)) (hS : va_S A s.heap H locs) (hf : mm_putsLetters_L2 n a1 a2 σ = some ρ), W p l e (rm_mm_putsLetters) s m args below meth c H locs 0 0 (MQ below (cQ D (gTy cB cI cJ) A (mW cB cI cJ q ρ) none) args s 0 0 A) (F0 m 2 ls []) := by
  intro n
  induction n with
  | zero =>
    intros
    rename_i hf
    cases hf
  | succ n ih =>
    intro a1 a2 σ H locs ls hl hP hD hS hf
    exact mm_putsLetters_t2 G (fun _ _ _ H locs ls hl hP hD hS hf => ih hl hP hD hS hf) hl hP hD hS hf
set_option maxHeartbeats 4000000 in
set_option maxRecDepth 100000 in
theorem mm_putsLetters_t0e {p : Program} {l : Launch} {e : Env} {s : State} {m : MethodId} {args : Array Value} {below : List Frame} {meth : Method} {c : Code} {D : va_G} {aK aV : Nat → Nat} {A : Nat → Prop} {cB cI cJ : ClassId} {q : Nat → Nat} {H : Heap} {locs : List Loc} {ls : Array Slot} {ρ : MSt} {p0 : Int32} {σ : MSt} (G : CX p s m args meth c D (gTy cB cI cJ) aK aV A RX5 cX5_putsLetters 3 none) (hl : lv_has ls 3 [(0, .ref (q 0)), (1, .int p0)]) (hP : va_P D vwCl (mW cB cI cJ q σ) H) (hD : va_D A (mW cB cI cJ q σ)) (hS : va_S A s.heap H locs) (hf : mm_putsLetters p0 σ = some ρ) : W p l e (rm_mm_putsLetters) s m args below meth c H locs 0 0 (MQ below (cQ D (gTy cB cI cJ) A (mW cB cI cJ q ρ) none) args s 0 0 A) (F0 m 0 ls []) := by
  unfold mm_putsLetters at hf
  obtain ⟨hx, hb, hml, hown, hT, hrt, hlk, hK, hA, hG, hE⟩ := id G
  refine lv_iconst (v := (0 : Int32)) hx hb dX5_putsLetters_0 (by decide) ?_
  refine lv_istore_n (lv' := [(2, .int (0 : Int32)), (0, .ref (q 0)), (1, .int p0)]) hx hb dX5_putsLetters_1 rfl hl (by decide) rfl (fun ls hl => ?_)
  exact W.eq (g2 := F0 m 2 ls []) rfl (mm_putsLetters_u2 G FU (lv_sub hl [1, 2, 0] rfl) hP hD hS hf)
set_option maxHeartbeats 4000000 in
set_option maxRecDepth 100000 in
theorem c_mm_putsLetters {l : Launch} {D : va_G} {aK aV : Nat → Nat} {cB cI cJ : ClassId} {q : Nat → Nat} {ρ : MSt} {p0 : Int32} {σ : MSt} (hf : mm_putsLetters p0 σ = some ρ) : CT l D (gTy cB cI cJ) aK aV yX5_putsLetters (wM yX5_putsLetters cX5_putsLetters 3 none) (rm_mm_putsLetters) 0 0 [.ref (q 0), .int p0] (mW cB cI cJ q σ) none (mW cB cI cJ q ρ) := by
  refine CT.of (by decide) rfl ?_
  intro p e s m below meth c A G hnm hP hD hS
  have hl := lv_entry [.ref (q 0), .int p0] (n := 3) (Nat.le_of_ble_eq_true rfl)
  rw [lg_entry_eq]
  generalize (lg_sl [.ref (q 0), .int p0] ++ List.replicate (3 - (lg_sl [.ref (q 0), .int p0]).length) Slot.unset).toArray = ls at hl ⊢
  exact mm_putsLetters_t0e G hl hP hD hS hf
def mm_writesCbor_b7 (k7 : Int32 → MSt → Option (Int32 × MSt)) (a1 : Int32) (σ : MSt) : Option (Int32 × MSt) := (if (mf_things σ) ≤ a1 then bd (mm_ends  σ) (fun (x2 : Int32 × MSt) => some (x2.1, x2.2)) else ck a1 4200 (ck a1 4200 (bd (mm_puts ((mf_sorts σ) (a1).toNatClampNeg) ((mf_numbers σ) (a1).toNatClampNeg) σ) (fun (x5 : MSt) => ck a1 4200 ((if ((mf_sorts x5) (a1).toNatClampNeg) = (3 : Int32) then bd (mm_putsLetters a1 x5) (fun (x9 : MSt) => lt (a1 + (1 : Int32)) (fun (v10 : Int32) => k7 v10 x9)) else lt (a1 + (1 : Int32)) (fun (v8 : Int32) => k7 v8 x5)))))))
def mm_writesCbor_L7 : Nat → Int32 → MSt → Option (Int32 × MSt)
  | 0, _, _ => none
  | n + 1, a1, σ => mm_writesCbor_b7 (mm_writesCbor_L7 n) a1 σ
def mm_writesCbor (σ : MSt) : Option (Int32 × MSt) := mm_writesCbor_L7 FU (0 : Int32) (ms_freshMany σ (0 : Int32))
abbrev rm_mm_writesCbor : Room := { frames := 2, cells := 0, slots := 0, locals := 46 }
set_option maxHeartbeats 4000000 in
set_option maxRecDepth 100000 in
theorem mm_writesCbor_t7 {p : Program} {l : Launch} {e : Env} {s : State} {m : MethodId} {args : Array Value} {below : List Frame} {meth : Method} {c : Code} {D : va_G} {aK aV : Nat → Nat} {A : Nat → Prop} {cB cI cJ : ClassId} {q : Nat → Nat} {H : Heap} {locs : List Loc} {ls : Array Slot} {ρ : Int32 × MSt} {k7 : Int32 → MSt → Option (Int32 × MSt)} {a1 : Int32} {σ : MSt} (G : CX p s m args meth c D (gTy cB cI cJ) aK aV A RX5 cX5_writesCbor 2 (some .int)) (hk7 : ∀ (a1 : Int32) (σ : MSt) (H : Heap) (locs : List Loc) (ls : Array Slot), lv_has ls 2 [(0, .ref (q 0)), (1, .int a1)] → va_P D vwCl (mW cB cI cJ q σ) H → va_D A (mW cB cI cJ q σ) → va_S A s.heap H locs → k7 a1 σ = some ρ → W p l e (rm_mm_writesCbor) s m args below meth c H locs 0 0 (MQ below (cQ D (gTy cB cI cJ) A (mW cB cI cJ q ρ.2) (some (.int ρ.1))) args s 0 0 A) (F0 m 7 ls [])) (hl : lv_has ls 2 [(0, .ref (q 0)), (1, .int a1)]) (hP : va_P D vwCl (mW cB cI cJ q σ) H) (hD : va_D A (mW cB cI cJ q σ)) (hS : va_S A s.heap H locs) (hf : mm_writesCbor_b7 k7 a1 σ = some ρ) : W p l e (rm_mm_writesCbor) s m args below meth c H locs 0 0 (MQ below (cQ D (gTy cB cI cJ) A (mW cB cI cJ q ρ.2) (some (.int ρ.1))) args s 0 0 A) (F0 m 7 ls []) := by
  unfold mm_writesCbor_b7 at hf
  obtain ⟨hx, hb, hml, hown, hT, hrt, hlk, hK, hA, hG, hE⟩ := id G
  refine lv_iload_n hx hb dX5_writesCbor_7 rfl (lv_at hl 1 rfl) ?_
  refine lv_aload_n hx hb dX5_writesCbor_8 rfl (lv_at hl 0 rfl) ?_
  refine gm_X5_things (v := (mf_things σ)) G hP dX5_writesCbor_9 rfl ?_
  refine lv_icmp_ge (tgt := 52) hx hb dX5_writesCbor_12 (by decide) (fun c1 => ?_) (fun c1 => ?_)
  · have hf := (if_pos c1).symm.trans hf
    refine lv_aload_n hx hb dX5_writesCbor_52 rfl (lv_at hl 0 rfl) ?_
    obtain ⟨x2, hx2, hf⟩ := bd_some hf
    refine vM (As := []) (rest := []) G kX5_229 (c_mm_ends hx2) hP hD hS ⟨rfl, rfl, Nat.le_of_ble_eq_true rfl, Nat.le_of_ble_eq_true rfl⟩ ⟨Nat.zero_le _, Nat.zero_le _⟩ rfl hl.1 (Nat.le_of_ble_eq_true rfl) dX5_writesCbor_53 (fun H locs hP hD hS => ?_)
    refine W.eq (g2 := F0 m 56 ls [.int x2.1]) rfl ?_
    cases hf
    exact ct_iret G rfl hP hD hS dX5_writesCbor_56
  · have hf := (if_neg c1).symm.trans hf
    refine lv_aload_n hx hb dX5_writesCbor_15 rfl (lv_at hl 0 rfl) ?_
    refine lv_aload_n hx hb dX5_writesCbor_16 rfl (lv_at hl 0 rfl) ?_
    refine gm_X5_sorts G hP dX5_writesCbor_17 ?_
    refine lv_iload_n hx hb dX5_writesCbor_20 rfl (lv_at hl 1 rfl) ?_
    obtain ⟨hi3, hf⟩ := ck_some hf
    refine lm_sorts (f := (mf_sorts σ)) G hP hi3 dX5_writesCbor_21 rfl ?_
    refine lv_aload_n hx hb dX5_writesCbor_22 rfl (lv_at hl 0 rfl) ?_
    refine gm_X5_numbers G hP dX5_writesCbor_23 ?_
    refine lv_iload_n hx hb dX5_writesCbor_26 rfl (lv_at hl 1 rfl) ?_
    obtain ⟨hi4, hf⟩ := ck_some hf
    refine lm_numbers (f := (mf_numbers σ)) G hP hi4 dX5_writesCbor_27 rfl ?_
    obtain ⟨x5, hx5, hf⟩ := bd_some hf
    refine vM (As := [.int ((mf_sorts σ) (a1).toNatClampNeg), .long ((mf_numbers σ) (a1).toNatClampNeg)]) (rest := []) G kX5_222 (c_mm_puts hx5) hP hD hS ⟨rfl, rfl, Nat.le_of_ble_eq_true rfl, Nat.le_of_ble_eq_true rfl⟩ ⟨Nat.zero_le _, Nat.zero_le _⟩ rfl hl.1 (Nat.le_of_ble_eq_true rfl) dX5_writesCbor_28 (fun H locs hP hD hS => ?_)
    refine W.eq (g2 := F0 m 31 ls []) rfl ?_
    refine lv_aload_n hx hb dX5_writesCbor_31 rfl (lv_at hl 0 rfl) ?_
    refine gm_X5_sorts G hP dX5_writesCbor_32 ?_
    refine lv_iload_n hx hb dX5_writesCbor_35 rfl (lv_at hl 1 rfl) ?_
    obtain ⟨hi6, hf⟩ := ck_some hf
    refine lm_sorts (f := (mf_sorts x5)) G hP hi6 dX5_writesCbor_36 rfl ?_
    refine lv_iconst (v := (3 : Int32)) hx hb dX5_writesCbor_37 (by decide) ?_
    refine lv_icmp_ne (tgt := 46) hx hb dX5_writesCbor_38 (by decide) (fun c7 => ?_) (fun c7 => ?_)
    · have hf := (if_neg c7).symm.trans hf
      obtain ⟨v8, ev8⟩ : ∃ y : Int32, y = (a1 + (1 : Int32)) := ⟨_, rfl⟩
      have hf := lt_eq hf ev8
      refine lv_iinc (v := v8) (lv' := [(1, .int v8), (0, .ref (q 0))]) hx hb dX5_writesCbor_46 hl (k := 1) rfl (by rw [ev8]; rfl) (by decide) rfl (fun ls hl => ?_)
      refine lv_goto (tgt := 7) hx hb dX5_writesCbor_49 (by decide) ?_
      exact W.eq (g2 := F0 m 7 ls []) rfl (hk7 _ _ _ _ _ (lv_sub hl [1, 0] rfl) hP hD hS hf)
    · have hf := (if_pos c7).symm.trans hf
      refine lv_aload_n hx hb dX5_writesCbor_41 rfl (lv_at hl 0 rfl) ?_
      refine lv_iload_n hx hb dX5_writesCbor_42 rfl (lv_at hl 1 rfl) ?_
      obtain ⟨x9, hx9, hf⟩ := bd_some hf
      refine vM (As := [.int a1]) (rest := []) G kX5_226 (c_mm_putsLetters hx9) hP hD hS ⟨rfl, rfl, Nat.le_of_ble_eq_true rfl, Nat.le_of_ble_eq_true rfl⟩ ⟨Nat.zero_le _, Nat.zero_le _⟩ rfl hl.1 (Nat.le_of_ble_eq_true rfl) dX5_writesCbor_43 (fun H locs hP hD hS => ?_)
      refine W.eq (g2 := F0 m 46 ls []) rfl ?_
      obtain ⟨v10, ev10⟩ : ∃ y : Int32, y = (a1 + (1 : Int32)) := ⟨_, rfl⟩
      have hf := lt_eq hf ev10
      refine lv_iinc (v := v10) (lv' := [(1, .int v10), (0, .ref (q 0))]) hx hb dX5_writesCbor_46 hl (k := 1) rfl (by rw [ev10]; rfl) (by decide) rfl (fun ls hl => ?_)
      refine lv_goto (tgt := 7) hx hb dX5_writesCbor_49 (by decide) ?_
      exact W.eq (g2 := F0 m 7 ls []) rfl (hk7 _ _ _ _ _ (lv_sub hl [1, 0] rfl) hP hD hS hf)
set_option maxHeartbeats 4000000 in
set_option maxRecDepth 100000 in
theorem mm_writesCbor_u7 {p : Program} {l : Launch} {e : Env} {s : State} {m : MethodId} {args : Array Value} {below : List Frame} {meth : Method} {c : Code} {D : va_G} {aK aV : Nat → Nat} {A : Nat → Prop} {cB cI cJ : ClassId} {q : Nat → Nat} {ρ : Int32 × MSt} (G : CX p s m args meth c D (gTy cB cI cJ) aK aV A RX5 cX5_writesCbor 2 (some .int)) : ∀ (n : Nat) {a1 : Int32} {σ : MSt} {H : Heap} {locs : List Loc} {ls : Array Slot} (hl : lv_has ls 2 [(0, .ref (q 0)), (1, .int a1)]) (hP : va_P D vwCl (mW cB cI cJ q σ) H) (hD : va_D A (mW cB cI cJ q σ)) (hS : va_S A s.heap H locs) (hf : mm_writesCbor_L7 n a1 σ = some ρ), W p l e (rm_mm_writesCbor) s m args below meth c H locs 0 0 (MQ below (cQ D (gTy cB cI cJ) A (mW cB cI cJ q ρ.2) (some (.int ρ.1))) args s 0 0 A) (F0 m 7 ls []) := by
  intro n
  induction n with
  | zero =>
    intros
    rename_i hf
    cases hf
  | succ n ih =>
    intro a1 σ H locs ls hl hP hD hS hf
    exact mm_writesCbor_t7 G (fun _ _ H locs ls hl hP hD hS hf => ih hl hP hD hS hf) hl hP hD hS hf
set_option maxHeartbeats 4000000 in
set_option maxRecDepth 100000 in
theorem mm_writesCbor_t0e {p : Program} {l : Launch} {e : Env} {s : State} {m : MethodId} {args : Array Value} {below : List Frame} {meth : Method} {c : Code} {D : va_G} {aK aV : Nat → Nat} {A : Nat → Prop} {cB cI cJ : ClassId} {q : Nat → Nat} {H : Heap} {locs : List Loc} {ls : Array Slot} {ρ : Int32 × MSt} {σ : MSt} (G : CX p s m args meth c D (gTy cB cI cJ) aK aV A RX5 cX5_writesCbor 2 (some .int)) (hl : lv_has ls 2 [(0, .ref (q 0))]) (hP : va_P D vwCl (mW cB cI cJ q σ) H) (hD : va_D A (mW cB cI cJ q σ)) (hS : va_S A s.heap H locs) (hf : mm_writesCbor σ = some ρ) : W p l e (rm_mm_writesCbor) s m args below meth c H locs 0 0 (MQ below (cQ D (gTy cB cI cJ) A (mW cB cI cJ q ρ.2) (some (.int ρ.1))) args s 0 0 A) (F0 m 0 ls []) := by
  unfold mm_writesCbor at hf
  obtain ⟨hx, hb, hml, hown, hT, hrt, hlk, hK, hA, hG, hE⟩ := id G
  refine lv_aload_n hx hb dX5_writesCbor_0 rfl (lv_at hl 0 rfl) ?_
  refine lv_iconst (v := (0 : Int32)) hx hb dX5_writesCbor_1 (by decide) ?_
  refine pm_X5_freshMany (v := (0 : Int32)) G hP hD hS dX5_writesCbor_2 (fun H locs hP hD hS => ?_)
  refine lv_iconst (v := (0 : Int32)) hx hb dX5_writesCbor_5 (by decide) ?_
  refine lv_istore_n (lv' := [(1, .int (0 : Int32)), (0, .ref (q 0))]) hx hb dX5_writesCbor_6 rfl hl (by decide) rfl (fun ls hl => ?_)
  exact W.eq (g2 := F0 m 7 ls []) rfl (mm_writesCbor_u7 G FU (lv_sub hl [1, 0] rfl) hP hD hS hf)
set_option maxHeartbeats 4000000 in
set_option maxRecDepth 100000 in
theorem c_mm_writesCbor {l : Launch} {D : va_G} {aK aV : Nat → Nat} {cB cI cJ : ClassId} {q : Nat → Nat} {ρ : Int32 × MSt} {σ : MSt} (hf : mm_writesCbor σ = some ρ) : CT l D (gTy cB cI cJ) aK aV yX5_writesCbor (wM yX5_writesCbor cX5_writesCbor 2 (some .int)) (rm_mm_writesCbor) 0 0 [.ref (q 0)] (mW cB cI cJ q σ) (some (.int ρ.1)) (mW cB cI cJ q ρ.2) := by
  refine CT.of (by decide) rfl ?_
  intro p e s m below meth c A G hnm hP hD hS
  have hl := lv_entry [.ref (q 0)] (n := 2) (Nat.le_of_ble_eq_true rfl)
  rw [lg_entry_eq]
  generalize (lg_sl [.ref (q 0)] ++ List.replicate (2 - (lg_sl [.ref (q 0)]).length) Slot.unset).toArray = ls at hl ⊢
  exact mm_writesCbor_t0e G hl hP hD hS hf
def mm_putsWord_b2 (sI : Nat) (k2 : Int32 → MSt → Option (MSt)) (a2 : Int32) (σ : MSt) : Option (MSt) := (if (sLen sI) ≤ a2 then some σ else ck a2 (sLn sI) (bd (mm_put (sCh sI a2) σ) (fun (x3 : MSt) => lt (a2 + (1 : Int32)) (fun (v4 : Int32) => k2 v4 x3))))
def mm_putsWord_L2 (sI : Nat) : Nat → Int32 → MSt → Option (MSt)
  | 0, _, _ => none
  | n + 1, a2, σ => mm_putsWord_b2 sI (mm_putsWord_L2 sI n) a2 σ
def mm_putsWord (sI : Nat) (σ : MSt) : Option (MSt) := mm_putsWord_L2 sI FU (0 : Int32) σ
abbrev rm_mm_putsWord : Room := { frames := 4, cells := 0, slots := 0, locals := 85 }
set_option maxHeartbeats 4000000 in
set_option maxRecDepth 100000 in
theorem mm_putsWord_t2 {p : Program} {l : Launch} {e : Env} {s : State} {m : MethodId} {args : Array Value} {below : List Frame} {meth : Method} {c : Code} {D : va_G} {aK aV : Nat → Nat} {A : Nat → Prop} {cB cI cJ : ClassId} {q : Nat → Nat} {H : Heap} {locs : List Loc} {ls : Array Slot} {ρ : MSt} {sI : Nat} (hsI : sI < 6) {k2 : Int32 → MSt → Option (MSt)} {a2 : Int32} {σ : MSt} (G : CX p s m args meth c D (gTy cB cI cJ) aK aV A RX5 cX5_putsWord 3 none) (hk2 : ∀ (a2 : Int32) (σ : MSt) (H : Heap) (locs : List Loc) (ls : Array Slot), lv_has ls 3 [(0, .ref (q 0)), (1, .ref (aK sI)), (2, .int a2)] → va_P D vwCl (mW cB cI cJ q σ) H → va_D A (mW cB cI cJ q σ) → va_S A s.heap H locs → k2 a2 σ = some ρ → W p l e (rm_mm_putsWord) s m args below meth c H locs 0 0 (MQ below (cQ D (gTy cB cI cJ) A (mW cB cI cJ q ρ) none) args s 0 0 A) (F0 m 2 ls [])) (hl : lv_has ls 3 [(0, .ref (q 0)), (1, .ref (aK sI)), (2, .int a2)]) (hP : va_P D vwCl (mW cB cI cJ q σ) H) (hD : va_D A (mW cB cI cJ q σ)) (hS : va_S A s.heap H locs) (hf : mm_putsWord_b2 sI k2 a2 σ = some ρ) : W p l e (rm_mm_putsWord) s m args below meth c H locs 0 0 (MQ below (cQ D (gTy cB cI cJ) A (mW cB cI cJ q ρ) none) args s 0 0 A) (F0 m 2 ls []) := by
  unfold mm_putsWord_b2 at hf
  obtain ⟨hx, hb, hml, hown, hT, hrt, hlk, hK, hA, hG, hE⟩ := id G
  refine lv_iload_n hx hb dX5_putsWord_2 rfl (lv_at hl 2 rfl) ?_
  refine lv_aload_n hx hb dX5_putsWord_3 rfl (lv_at hl 1 rfl) ?_
  refine ct_len (rest := [.int a2]) G kX5_152 hsI hP hD hS ⟨Nat.le_of_ble_eq_true rfl, Nat.le_of_ble_eq_true rfl⟩ ⟨Nat.zero_le _, Nat.zero_le _⟩ hl.1 (Nat.le_of_ble_eq_true rfl) dX5_putsWord_4 (fun H locs hP hS => ?_)
  refine W.eq (g2 := F0 m 7 ls [.int (sLen sI), .int a2]) rfl ?_
  refine lv_icmp_ge (tgt := 25) hx hb dX5_putsWord_7 (by decide) (fun c1 => ?_) (fun c1 => ?_)
  · have hf := (if_pos c1).symm.trans hf
    cases hf
    exact ct_vret G hP hD hS dX5_putsWord_25
  · have hf := (if_neg c1).symm.trans hf
    refine lv_aload_n hx hb dX5_putsWord_10 rfl (lv_at hl 0 rfl) ?_
    refine lv_aload_n hx hb dX5_putsWord_11 rfl (lv_at hl 1 rfl) ?_
    refine lv_iload_n hx hb dX5_putsWord_12 rfl (lv_at hl 2 rfl) ?_
    obtain ⟨hi2, hf⟩ := ck_some hf
    refine ct_cha (rest := [.ref (q 0)]) G kX5_111 hsI hi2 hP hD hS ⟨Nat.le_of_ble_eq_true rfl, Nat.le_of_ble_eq_true rfl⟩ ⟨Nat.zero_le _, Nat.zero_le _⟩ hl.1 (Nat.le_of_ble_eq_true rfl) dX5_putsWord_13 (fun H locs hP hS => ?_)
    refine W.eq (g2 := F0 m 16 ls [.int (sCh sI a2), .ref (q 0)]) rfl ?_
    obtain ⟨x3, hx3, hf⟩ := bd_some hf
    refine vM (As := [.int (sCh sI a2)]) (rest := []) G kX5_219 (c_mm_put hx3) hP hD hS ⟨rfl, rfl, Nat.le_of_ble_eq_true rfl, Nat.le_of_ble_eq_true rfl⟩ ⟨Nat.zero_le _, Nat.zero_le _⟩ rfl hl.1 (Nat.le_of_ble_eq_true rfl) dX5_putsWord_16 (fun H locs hP hD hS => ?_)
    refine W.eq (g2 := F0 m 19 ls []) rfl ?_
    obtain ⟨v4, ev4⟩ : ∃ y : Int32, y = (a2 + (1 : Int32)) := ⟨_, rfl⟩
    have hf := lt_eq hf ev4
    refine lv_iinc (v := v4) (lv' := [(2, .int v4), (0, .ref (q 0)), (1, .ref (aK sI))]) hx hb dX5_putsWord_19 hl (k := 2) rfl (by rw [ev4]; rfl) (by decide) rfl (fun ls hl => ?_)
    refine lv_goto (tgt := 2) hx hb dX5_putsWord_22 (by decide) ?_
    exact W.eq (g2 := F0 m 2 ls []) rfl (hk2 _ _ _ _ _ (lv_sub hl [1, 2, 0] rfl) hP hD hS hf)
set_option maxHeartbeats 4000000 in
set_option maxRecDepth 100000 in
theorem mm_putsWord_u2 {p : Program} {l : Launch} {e : Env} {s : State} {m : MethodId} {args : Array Value} {below : List Frame} {meth : Method} {c : Code} {D : va_G} {aK aV : Nat → Nat} {A : Nat → Prop} {cB cI cJ : ClassId} {q : Nat → Nat} {ρ : MSt} {sI : Nat} (hsI : sI < 6) (G : CX p s m args meth c D (gTy cB cI cJ) aK aV A RX5 cX5_putsWord 3 none) : ∀ (n : Nat) {a2 : Int32} {σ : MSt} {H : Heap} {locs : List Loc} {ls : Array Slot} (hl : lv_has ls 3 [(0, .ref (q 0)), (1, .ref (aK sI)), (2, .int a2)]) (hP : va_P D vwCl (mW cB cI cJ q σ) H) (hD : va_D A (mW cB cI cJ q σ)) (hS : va_S A s.heap H locs) (hf : mm_putsWord_L2 sI n a2 σ = some ρ), W p l e (rm_mm_putsWord) s m args below meth c H locs 0 0 (MQ below (cQ D (gTy cB cI cJ) A (mW cB cI cJ q ρ) none) args s 0 0 A) (F0 m 2 ls []) := by
  intro n
  induction n with
  | zero =>
    intros
    rename_i hf
    cases hf
  | succ n ih =>
    intro a2 σ H locs ls hl hP hD hS hf
    exact mm_putsWord_t2 hsI G (fun _ _ H locs ls hl hP hD hS hf => ih hl hP hD hS hf) hl hP hD hS hf
set_option maxHeartbeats 4000000 in
set_option maxRecDepth 100000 in
theorem mm_putsWord_t0e {p : Program} {l : Launch} {e : Env} {s : State} {m : MethodId} {args : Array Value} {below : List Frame} {meth : Method} {c : Code} {D : va_G} {aK aV : Nat → Nat} {A : Nat → Prop} {cB cI cJ : ClassId} {q : Nat → Nat} {H : Heap} {locs : List Loc} {ls : Array Slot} {ρ : MSt} {sI : Nat} (hsI : sI < 6) {σ : MSt} (G : CX p s m args meth c D (gTy cB cI cJ) aK aV A RX5 cX5_putsWord 3 none) (hl : lv_has ls 3 [(0, .ref (q 0)), (1, .ref (aK sI))]) (hP : va_P D vwCl (mW cB cI cJ q σ) H) (hD : va_D A (mW cB cI cJ q σ)) (hS : va_S A s.heap H locs) (hf : mm_putsWord sI σ = some ρ) : W p l e (rm_mm_putsWord) s m args below meth c H locs 0 0 (MQ below (cQ D (gTy cB cI cJ) A (mW cB cI cJ q ρ) none) args s 0 0 A) (F0 m 0 ls []) := by
  unfold mm_putsWord at hf
  obtain ⟨hx, hb, hml, hown, hT, hrt, hlk, hK, hA, hG, hE⟩ := id G
  refine lv_iconst (v := (0 : Int32)) hx hb dX5_putsWord_0 (by decide) ?_
  refine lv_istore_n (lv' := [(2, .int (0 : Int32)), (0, .ref (q 0)), (1, .ref (aK sI))]) hx hb dX5_putsWord_1 rfl hl (by decide) rfl (fun ls hl => ?_)
  exact W.eq (g2 := F0 m 2 ls []) rfl (mm_putsWord_u2 hsI G FU (lv_sub hl [1, 2, 0] rfl) hP hD hS hf)
set_option maxHeartbeats 4000000 in
set_option maxRecDepth 100000 in
theorem c_mm_putsWord {l : Launch} {D : va_G} {aK aV : Nat → Nat} {cB cI cJ : ClassId} {q : Nat → Nat} {sI : Nat} (hsI : sI < 6) {ρ : MSt} {σ : MSt} (hf : mm_putsWord sI σ = some ρ) : CT l D (gTy cB cI cJ) aK aV yX5_putsWord (wM yX5_putsWord cX5_putsWord 3 none) (rm_mm_putsWord) 0 0 [.ref (q 0), .ref (aK sI)] (mW cB cI cJ q σ) none (mW cB cI cJ q ρ) := by
  refine CT.of (by decide) rfl ?_
  intro p e s m below meth c A G hnm hP hD hS
  have hl := lv_entry [.ref (q 0), .ref (aK sI)] (n := 3) (Nat.le_of_ble_eq_true rfl)
  rw [lg_entry_eq]
  generalize (lg_sl [.ref (q 0), .ref (aK sI)] ++ List.replicate (3 - (lg_sl [.ref (q 0), .ref (aK sI)]).length) Slot.unset).toArray = ls at hl ⊢
  exact mm_putsWord_t0e hsI G hl hP hD hS hf
def mm_putsNumber_b47 (k35 : Int64 → Int32 → MSt → Option (MSt)) (a4 : Int64) (a6 : Int32) (σ : MSt) : Option (MSt) := lt (((Int64.toUInt64 a4 >>> ((Int32.toInt64 (1 : Int32)).toUInt64 &&& Int64.toUInt64 63)).toInt64) / (5 : Int64)) (fun (v9 : Int64) => ck a6 24 (lt (a6 + (1 : Int32)) (fun (v11 : Int32) => k35 v9 v11 (ms_figures σ (upd (mf_figures σ) (a6).toNatClampNeg (Int64.toInt32 (a4 - ((10 : Int64) * v9))))))))
def mm_putsNumber_b90 (k90 : Int32 → MSt → Option (MSt)) (a7 : Int32) (σ : MSt) : Option (MSt) := (if a7 < 0 then some σ else ck a7 24 (bd (mm_put ((48 : Int32) + ((mf_figures σ) (a7).toNatClampNeg)) σ) (fun (x14 : MSt) => lt (a7 + (-1 : Int32)) (fun (v15 : Int32) => k90 v15 x14))))
def mm_putsNumber_L90 : Nat → Int32 → MSt → Option (MSt)
  | 0, _, _ => none
  | n + 1, a7, σ => mm_putsNumber_b90 (mm_putsNumber_L90 n) a7 σ
def mm_putsNumber_b35 (k35 : Int64 → Int32 → MSt → Option (MSt)) (a4 : Int64) (a6 : Int32) (σ : MSt) : Option (MSt) := (if a6 = 0 then mm_putsNumber_b47 k35 a4 a6 σ else (if a4 = (0 : Int64) then lt (a6 - (1 : Int32)) (fun (v8 : Int32) => mm_putsNumber_L90 FU v8 σ) else mm_putsNumber_b47 k35 a4 a6 σ))
def mm_putsNumber_L35 : Nat → Int64 → Int32 → MSt → Option (MSt)
  | 0, _, _, _ => none
  | n + 1, a4, a6, σ => mm_putsNumber_b35 (mm_putsNumber_L35 n) a4 a6 σ
def mm_putsNumber_b19 (a1 : Int64) (a3 : Int32) (σ : MSt) : Option (MSt) := (if a3 = 0 then mm_putsNumber_L35 FU a1 (0 : Int32) σ else lt (a1 + (1 : Int64)) (fun (v5 : Int64) => mm_putsNumber_L35 FU v5 (0 : Int32) σ))
def mm_putsNumber (p0 : Int64) (p1 : Int32) (σ : MSt) : Option (MSt) := (if p1 = 0 then mm_putsNumber_b19 p0 p1 σ else (if p0 = (-1 : Int64) then bd (mm_putsWord 4  σ) (fun (x3 : MSt) => some x3) else mm_putsNumber_b19 p0 p1 σ))
abbrev rm_mm_putsNumber : Room := { frames := 5, cells := 0, slots := 0, locals := 107 }
set_option maxHeartbeats 4000000 in
set_option maxRecDepth 100000 in
theorem mm_putsNumber_t47 {p : Program} {l : Launch} {e : Env} {s : State} {m : MethodId} {args : Array Value} {below : List Frame} {meth : Method} {c : Code} {D : va_G} {aK aV : Nat → Nat} {A : Nat → Prop} {cB cI cJ : ClassId} {q : Nat → Nat} {H : Heap} {locs : List Loc} {ls : Array Slot} {ρ : MSt} {k35 : Int64 → Int32 → MSt → Option (MSt)} {a4 : Int64} {a6 : Int32} {σ : MSt} (G : CX p s m args meth c D (gTy cB cI cJ) aK aV A RX5 cX5_putsNumber 9 none) (hk35 : ∀ (a4 : Int64) (a6 : Int32) (σ : MSt) (H : Heap) (locs : List Loc) (ls : Array Slot), lv_has ls 9 [(0, .ref (q 0)), (4, .long a4), (6, .int a6)] → va_P D vwCl (mW cB cI cJ q σ) H → va_D A (mW cB cI cJ q σ) → va_S A s.heap H locs → k35 a4 a6 σ = some ρ → W p l e (rm_mm_putsNumber) s m args below meth c H locs 0 0 (MQ below (cQ D (gTy cB cI cJ) A (mW cB cI cJ q ρ) none) args s 0 0 A) (F0 m 35 ls [])) (hl : lv_has ls 9 [(0, .ref (q 0)), (4, .long a4), (6, .int a6)]) (hP : va_P D vwCl (mW cB cI cJ q σ) H) (hD : va_D A (mW cB cI cJ q σ)) (hS : va_S A s.heap H locs) (hf : mm_putsNumber_b47 k35 a4 a6 σ = some ρ) : W p l e (rm_mm_putsNumber) s m args below meth c H locs 0 0 (MQ below (cQ D (gTy cB cI cJ) A (mW cB cI cJ q ρ) none) args s 0 0 A) (F0 m 47 ls []) := by
  unfold mm_putsNumber_b47 at hf
  obtain ⟨hx, hb, hml, hown, hT, hrt, hlk, hK, hA, hG, hE⟩ := id G
  refine lv_lload hx hb dX5_putsNumber_47 (lv_at hl 1 rfl) ?_
  refine lv_iconst (v := (1 : Int32)) hx hb dX5_putsNumber_49 (by decide) ?_
  refine lv_lushr (v := ((Int64.toUInt64 a4 >>> ((Int32.toInt64 (1 : Int32)).toUInt64 &&& Int64.toUInt64 63)).toInt64)) hx hb dX5_putsNumber_50 rfl ?_
  refine lv_ldc2 (v := (5 : Int64)) hx hb hown (hT _ wc_X5_238) dX5_putsNumber_51 ?_
  refine lv_ldiv hx hb dX5_putsNumber_54 (by decide) ?_
  refine lv_topl (fun v9 ev9 => ?_)
  have hf := lt_eq hf ev9
  refine lv_lstore (lv' := [(7, .long v9), (0, .ref (q 0)), (4, .long a4), (6, .int a6)]) hx hb dX5_putsNumber_55 hl (by decide) rfl (fun ls hl => ?_)
  refine lv_aload_n hx hb dX5_putsNumber_57 rfl (lv_at hl 1 rfl) ?_
  refine gm_X5_figures G hP dX5_putsNumber_58 ?_
  refine lv_iload hx hb dX5_putsNumber_61 (lv_at hl 3 rfl) ?_
  refine lv_lload hx hb dX5_putsNumber_63 (lv_at hl 2 rfl) ?_
  refine lv_ldc2 (v := (10 : Int64)) hx hb hown (hT _ wc_X5_121) dX5_putsNumber_65 ?_
  refine lv_lload hx hb dX5_putsNumber_68 (lv_at hl 0 rfl) ?_
  refine lv_lmul hx hb dX5_putsNumber_70 ?_
  refine lv_lsub hx hb dX5_putsNumber_71 ?_
  refine lv_l2i (v := (Int64.toInt32 (a4 - ((10 : Int64) * v9)))) hx hb dX5_putsNumber_72 rfl ?_
  obtain ⟨hi10, hf⟩ := ck_some hf
  refine sm_figures (f := (mf_figures σ)) G hP hD hS hi10 dX5_putsNumber_73 rfl (fun H locs hP hD hS => ?_)
  obtain ⟨v11, ev11⟩ : ∃ y : Int32, y = (a6 + (1 : Int32)) := ⟨_, rfl⟩
  have hf := lt_eq hf ev11
  refine lv_iinc (v := v11) (lv' := [(6, .int v11), (7, .long v9), (0, .ref (q 0)), (4, .long a4)]) hx hb dX5_putsNumber_74 hl (k := 3) rfl (by rw [ev11]; rfl) (by decide) rfl (fun ls hl => ?_)
  refine lv_lload hx hb dX5_putsNumber_77 (lv_at hl 1 rfl) ?_
  refine lv_lstore (lv' := [(4, .long v9), (6, .int v11), (7, .long v9), (0, .ref (q 0))]) hx hb dX5_putsNumber_79 hl (by decide) rfl (fun ls hl => ?_)
  refine lv_goto (tgt := 35) hx hb dX5_putsNumber_81 (by decide) ?_
  exact W.eq (g2 := F0 m 35 ls []) rfl (hk35 _ _ _ _ _ _ (lv_sub hl [3, 0, 1] rfl) hP hD hS hf)
set_option maxHeartbeats 4000000 in
set_option maxRecDepth 100000 in
theorem mm_putsNumber_t90 {p : Program} {l : Launch} {e : Env} {s : State} {m : MethodId} {args : Array Value} {below : List Frame} {meth : Method} {c : Code} {D : va_G} {aK aV : Nat → Nat} {A : Nat → Prop} {cB cI cJ : ClassId} {q : Nat → Nat} {H : Heap} {locs : List Loc} {ls : Array Slot} {ρ : MSt} {k90 : Int32 → MSt → Option (MSt)} {a7 : Int32} {σ : MSt} (G : CX p s m args meth c D (gTy cB cI cJ) aK aV A RX5 cX5_putsNumber 9 none) (hk90 : ∀ (a7 : Int32) (σ : MSt) (H : Heap) (locs : List Loc) (ls : Array Slot), lv_has ls 9 [(0, .ref (q 0)), (7, .int a7)] → va_P D vwCl (mW cB cI cJ q σ) H → va_D A (mW cB cI cJ q σ) → va_S A s.heap H locs → k90 a7 σ = some ρ → W p l e (rm_mm_putsNumber) s m args below meth c H locs 0 0 (MQ below (cQ D (gTy cB cI cJ) A (mW cB cI cJ q ρ) none) args s 0 0 A) (F0 m 90 ls [])) (hl : lv_has ls 9 [(0, .ref (q 0)), (7, .int a7)]) (hP : va_P D vwCl (mW cB cI cJ q σ) H) (hD : va_D A (mW cB cI cJ q σ)) (hS : va_S A s.heap H locs) (hf : mm_putsNumber_b90 k90 a7 σ = some ρ) : W p l e (rm_mm_putsNumber) s m args below meth c H locs 0 0 (MQ below (cQ D (gTy cB cI cJ) A (mW cB cI cJ q ρ) none) args s 0 0 A) (F0 m 90 ls []) := by
  unfold mm_putsNumber_b90 at hf
  obtain ⟨hx, hb, hml, hown, hT, hrt, hlk, hK, hA, hG, hE⟩ := id G
  refine lv_iload hx hb dX5_putsNumber_90 (lv_at hl 1 rfl) ?_
  refine lv_if_lt (tgt := 115) hx hb dX5_putsNumber_92 (by decide) (fun c12 => ?_) (fun c12 => ?_)
  · have hf := (if_pos c12).symm.trans hf
    cases hf
    exact ct_vret G hP hD hS dX5_putsNumber_115
  · have hf := (if_neg c12).symm.trans hf
    refine lv_aload_n hx hb dX5_putsNumber_95 rfl (lv_at hl 0 rfl) ?_
    refine lv_bipush (v := (48 : Int32)) hx hb dX5_putsNumber_96 (by decide) ?_
    refine lv_aload_n hx hb dX5_putsNumber_98 rfl (lv_at hl 0 rfl) ?_
    refine gm_X5_figures G hP dX5_putsNumber_99 ?_
    refine lv_iload hx hb dX5_putsNumber_102 (lv_at hl 1 rfl) ?_
    obtain ⟨hi13, hf⟩ := ck_some hf
    refine lm_figures (f := (mf_figures σ)) G hP hi13 dX5_putsNumber_104 rfl ?_
    refine lv_iadd hx hb dX5_putsNumber_105 ?_
    obtain ⟨x14, hx14, hf⟩ := bd_some hf
    refine vM (As := [.int ((48 : Int32) + ((mf_figures σ) (a7).toNatClampNeg))]) (rest := []) G kX5_219 (c_mm_put hx14) hP hD hS ⟨rfl, rfl, Nat.le_of_ble_eq_true rfl, Nat.le_of_ble_eq_true rfl⟩ ⟨Nat.zero_le _, Nat.zero_le _⟩ rfl hl.1 (Nat.le_of_ble_eq_true rfl) dX5_putsNumber_106 (fun H locs hP hD hS => ?_)
    refine W.eq (g2 := F0 m 109 ls []) rfl ?_
    obtain ⟨v15, ev15⟩ : ∃ y : Int32, y = (a7 + (-1 : Int32)) := ⟨_, rfl⟩
    have hf := lt_eq hf ev15
    refine lv_iinc (v := v15) (lv' := [(7, .int v15), (0, .ref (q 0))]) hx hb dX5_putsNumber_109 hl (k := 1) rfl (by rw [ev15]; rfl) (by decide) rfl (fun ls hl => ?_)
    refine lv_goto (tgt := 90) hx hb dX5_putsNumber_112 (by decide) ?_
    exact W.eq (g2 := F0 m 90 ls []) rfl (hk90 _ _ _ _ _ (lv_sub hl [1, 0] rfl) hP hD hS hf)
set_option maxHeartbeats 4000000 in
set_option maxRecDepth 100000 in
theorem mm_putsNumber_u90 {p : Program} {l : Launch} {e : Env} {s : State} {m : MethodId} {args : Array Value} {below : List Frame} {meth : Method} {c : Code} {D : va_G} {aK aV : Nat → Nat} {A : Nat → Prop} {cB cI cJ : ClassId} {q : Nat → Nat} {ρ : MSt} (G : CX p s m args meth c D (gTy cB cI cJ) aK aV A RX5 cX5_putsNumber 9 none) : ∀ (n : Nat) {a7 : Int32} {σ : MSt} {H : Heap} {locs : List Loc} {ls : Array Slot} (hl : lv_has ls 9 [(0, .ref (q 0)), (7, .int a7)]) (hP : va_P D vwCl (mW cB cI cJ q σ) H) (hD : va_D A (mW cB cI cJ q σ)) (hS : va_S A s.heap H locs) (hf : mm_putsNumber_L90 n a7 σ = some ρ), W p l e (rm_mm_putsNumber) s m args below meth c H locs 0 0 (MQ below (cQ D (gTy cB cI cJ) A (mW cB cI cJ q ρ) none) args s 0 0 A) (F0 m 90 ls []) := by
  intro n
  induction n with
  | zero =>
    intros
    rename_i hf
    cases hf
  | succ n ih =>
    intro a7 σ H locs ls hl hP hD hS hf
    exact mm_putsNumber_t90 G (fun _ _ H locs ls hl hP hD hS hf => ih hl hP hD hS hf) hl hP hD hS hf
set_option maxHeartbeats 4000000 in
set_option maxRecDepth 100000 in
theorem mm_putsNumber_t35 {p : Program} {l : Launch} {e : Env} {s : State} {m : MethodId} {args : Array Value} {below : List Frame} {meth : Method} {c : Code} {D : va_G} {aK aV : Nat → Nat} {A : Nat → Prop} {cB cI cJ : ClassId} {q : Nat → Nat} {H : Heap} {locs : List Loc} {ls : Array Slot} {ρ : MSt} {k35 : Int64 → Int32 → MSt → Option (MSt)} {a4 : Int64} {a6 : Int32} {σ : MSt} (G : CX p s m args meth c D (gTy cB cI cJ) aK aV A RX5 cX5_putsNumber 9 none) (hk35 : ∀ (a4 : Int64) (a6 : Int32) (σ : MSt) (H : Heap) (locs : List Loc) (ls : Array Slot), lv_has ls 9 [(0, .ref (q 0)), (4, .long a4), (6, .int a6)] → va_P D vwCl (mW cB cI cJ q σ) H → va_D A (mW cB cI cJ q σ) → va_S A s.heap H locs → k35 a4 a6 σ = some ρ → W p l e (rm_mm_putsNumber) s m args below meth c H locs 0 0 (MQ below (cQ D (gTy cB cI cJ) A (mW cB cI cJ q ρ) none) args s 0 0 A) (F0 m 35 ls [])) (hl : lv_has ls 9 [(0, .ref (q 0)), (4, .long a4), (6, .int a6)]) (hP : va_P D vwCl (mW cB cI cJ q σ) H) (hD : va_D A (mW cB cI cJ q σ)) (hS : va_S A s.heap H locs) (hf : mm_putsNumber_b35 k35 a4 a6 σ = some ρ) : W p l e (rm_mm_putsNumber) s m args below meth c H locs 0 0 (MQ below (cQ D (gTy cB cI cJ) A (mW cB cI cJ q ρ) none) args s 0 0 A) (F0 m 35 ls []) := by
  unfold mm_putsNumber_b35 at hf
  obtain ⟨hx, hb, hml, hown, hT, hrt, hlk, hK, hA, hG, hE⟩ := id G
  refine lv_iload hx hb dX5_putsNumber_35 (lv_at hl 2 rfl) ?_
  refine lv_if_eq (tgt := 47) hx hb dX5_putsNumber_37 (by decide) (fun c6 => ?_) (fun c6 => ?_)
  · have hf := (if_pos c6).symm.trans hf
    exact W.eq (g2 := F0 m 47 ls []) rfl (mm_putsNumber_t47 G hk35 (lv_sub hl [0, 1, 2] rfl) hP hD hS hf)
  · have hf := (if_neg c6).symm.trans hf
    refine lv_lload hx hb dX5_putsNumber_40 (lv_at hl 1 rfl) ?_
    refine lv_lconst (v := (0 : Int64)) hx hb dX5_putsNumber_42 (by decide) ?_
    refine W.lcmp hx hb dX5_putsNumber_43 ?_
    refine lv_if_eq (tgt := 84) hx hb dX5_putsNumber_44 (by decide) (fun c7 => ?_) (fun c7 => ?_)
    · have hf := (if_pos ((lg_cmp_eq _ _).mp c7)).symm.trans hf
      refine lv_iload hx hb dX5_putsNumber_84 (lv_at hl 2 rfl) ?_
      refine lv_iconst (v := (1 : Int32)) hx hb dX5_putsNumber_86 (by decide) ?_
      refine lv_isub hx hb dX5_putsNumber_87 ?_
      refine lv_topi (fun v8 ev8 => ?_)
      have hf := lt_eq hf ev8
      refine lv_istore (lv' := [(7, .int v8), (0, .ref (q 0)), (4, .long a4), (6, .int a6)]) hx hb dX5_putsNumber_88 hl (by decide) rfl (fun ls hl => ?_)
      exact W.eq (g2 := F0 m 90 ls []) rfl (mm_putsNumber_u90 G FU (lv_sub hl [1, 0] rfl) hP hD hS hf)
    · have hf := (if_neg (fun z => c7 ((lg_cmp_eq _ _).mpr z))).symm.trans hf
      exact W.eq (g2 := F0 m 47 ls []) rfl (mm_putsNumber_t47 G hk35 (lv_sub hl [0, 1, 2] rfl) hP hD hS hf)
set_option maxHeartbeats 4000000 in
set_option maxRecDepth 100000 in
theorem mm_putsNumber_u35 {p : Program} {l : Launch} {e : Env} {s : State} {m : MethodId} {args : Array Value} {below : List Frame} {meth : Method} {c : Code} {D : va_G} {aK aV : Nat → Nat} {A : Nat → Prop} {cB cI cJ : ClassId} {q : Nat → Nat} {ρ : MSt} (G : CX p s m args meth c D (gTy cB cI cJ) aK aV A RX5 cX5_putsNumber 9 none) : ∀ (n : Nat) {a4 : Int64} {a6 : Int32} {σ : MSt} {H : Heap} {locs : List Loc} {ls : Array Slot} (hl : lv_has ls 9 [(0, .ref (q 0)), (4, .long a4), (6, .int a6)]) (hP : va_P D vwCl (mW cB cI cJ q σ) H) (hD : va_D A (mW cB cI cJ q σ)) (hS : va_S A s.heap H locs) (hf : mm_putsNumber_L35 n a4 a6 σ = some ρ), W p l e (rm_mm_putsNumber) s m args below meth c H locs 0 0 (MQ below (cQ D (gTy cB cI cJ) A (mW cB cI cJ q ρ) none) args s 0 0 A) (F0 m 35 ls []) := by
  intro n
  induction n with
  | zero =>
    intros
    rename_i hf
    cases hf
  | succ n ih =>
    intro a4 a6 σ H locs ls hl hP hD hS hf
    exact mm_putsNumber_t35 G (fun _ _ _ H locs ls hl hP hD hS hf => ih hl hP hD hS hf) hl hP hD hS hf
set_option maxHeartbeats 4000000 in
set_option maxRecDepth 100000 in
theorem mm_putsNumber_t19 {p : Program} {l : Launch} {e : Env} {s : State} {m : MethodId} {args : Array Value} {below : List Frame} {meth : Method} {c : Code} {D : va_G} {aK aV : Nat → Nat} {A : Nat → Prop} {cB cI cJ : ClassId} {q : Nat → Nat} {H : Heap} {locs : List Loc} {ls : Array Slot} {ρ : MSt} {a1 : Int64} {a3 : Int32} {σ : MSt} (G : CX p s m args meth c D (gTy cB cI cJ) aK aV A RX5 cX5_putsNumber 9 none) (hl : lv_has ls 9 [(0, .ref (q 0)), (1, .long a1), (3, .int a3)]) (hP : va_P D vwCl (mW cB cI cJ q σ) H) (hD : va_D A (mW cB cI cJ q σ)) (hS : va_S A s.heap H locs) (hf : mm_putsNumber_b19 a1 a3 σ = some ρ) : W p l e (rm_mm_putsNumber) s m args below meth c H locs 0 0 (MQ below (cQ D (gTy cB cI cJ) A (mW cB cI cJ q ρ) none) args s 0 0 A) (F0 m 19 ls []) := by
  unfold mm_putsNumber_b19 at hf
  obtain ⟨hx, hb, hml, hown, hT, hrt, hlk, hK, hA, hG, hE⟩ := id G
  refine lv_iload_n hx hb dX5_putsNumber_19 rfl (lv_at hl 2 rfl) ?_
  refine lv_if_eq (tgt := 29) hx hb dX5_putsNumber_20 (by decide) (fun c4 => ?_) (fun c4 => ?_)
  · have hf := (if_pos c4).symm.trans hf
    refine lv_lload_n hx hb dX5_putsNumber_29 rfl (lv_at hl 1 rfl) ?_
    refine lv_lstore (lv' := [(4, .long a1), (0, .ref (q 0)), (1, .long a1), (3, .int a3)]) hx hb dX5_putsNumber_30 hl (by decide) rfl (fun ls hl => ?_)
    refine lv_iconst (v := (0 : Int32)) hx hb dX5_putsNumber_32 (by decide) ?_
    refine lv_istore (lv' := [(6, .int (0 : Int32)), (4, .long a1), (0, .ref (q 0)), (1, .long a1), (3, .int a3)]) hx hb dX5_putsNumber_33 hl (by decide) rfl (fun ls hl => ?_)
    exact W.eq (g2 := F0 m 35 ls []) rfl (mm_putsNumber_u35 G FU (lv_sub hl [2, 1, 0] rfl) hP hD hS hf)
  · have hf := (if_neg c4).symm.trans hf
    refine lv_lload_n hx hb dX5_putsNumber_23 rfl (lv_at hl 1 rfl) ?_
    refine lv_lconst (v := (1 : Int64)) hx hb dX5_putsNumber_24 (by decide) ?_
    refine lv_ladd hx hb dX5_putsNumber_25 ?_
    refine lv_goto (tgt := 30) hx hb dX5_putsNumber_26 (by decide) ?_
    refine lv_topl (fun v5 ev5 => ?_)
    have hf := lt_eq hf ev5
    refine lv_lstore (lv' := [(4, .long v5), (0, .ref (q 0)), (1, .long a1), (3, .int a3)]) hx hb dX5_putsNumber_30 hl (by decide) rfl (fun ls hl => ?_)
    refine lv_iconst (v := (0 : Int32)) hx hb dX5_putsNumber_32 (by decide) ?_
    refine lv_istore (lv' := [(6, .int (0 : Int32)), (4, .long v5), (0, .ref (q 0)), (1, .long a1), (3, .int a3)]) hx hb dX5_putsNumber_33 hl (by decide) rfl (fun ls hl => ?_)
    exact W.eq (g2 := F0 m 35 ls []) rfl (mm_putsNumber_u35 G FU (lv_sub hl [2, 1, 0] rfl) hP hD hS hf)
set_option maxHeartbeats 4000000 in
set_option maxRecDepth 100000 in
theorem mm_putsNumber_t0e {p : Program} {l : Launch} {e : Env} {s : State} {m : MethodId} {args : Array Value} {below : List Frame} {meth : Method} {c : Code} {D : va_G} {aK aV : Nat → Nat} {A : Nat → Prop} {cB cI cJ : ClassId} {q : Nat → Nat} {H : Heap} {locs : List Loc} {ls : Array Slot} {ρ : MSt} {p0 : Int64} {p1 : Int32} {σ : MSt} (G : CX p s m args meth c D (gTy cB cI cJ) aK aV A RX5 cX5_putsNumber 9 none) (hl : lv_has ls 9 [(0, .ref (q 0)), (1, .long p0), (3, .int p1)]) (hP : va_P D vwCl (mW cB cI cJ q σ) H) (hD : va_D A (mW cB cI cJ q σ)) (hS : va_S A s.heap H locs) (hf : mm_putsNumber p0 p1 σ = some ρ) : W p l e (rm_mm_putsNumber) s m args below meth c H locs 0 0 (MQ below (cQ D (gTy cB cI cJ) A (mW cB cI cJ q ρ) none) args s 0 0 A) (F0 m 0 ls []) := by
  unfold mm_putsNumber at hf
  obtain ⟨hx, hb, hml, hown, hT, hrt, hlk, hK, hA, hG, hE⟩ := id G
  refine lv_iload_n hx hb dX5_putsNumber_0 rfl (lv_at hl 2 rfl) ?_
  refine lv_if_eq (tgt := 19) hx hb dX5_putsNumber_1 (by decide) (fun c1 => ?_) (fun c1 => ?_)
  · have hf := (if_pos c1).symm.trans hf
    exact W.eq (g2 := F0 m 19 ls []) rfl (mm_putsNumber_t19 G (lv_sub hl [0, 1, 2] rfl) hP hD hS hf)
  · have hf := (if_neg c1).symm.trans hf
    refine lv_lload_n hx hb dX5_putsNumber_4 rfl (lv_at hl 1 rfl) ?_
    refine lv_ldc2 (v := (-1 : Int64)) hx hb hown (hT _ wc_X5_232) dX5_putsNumber_5 ?_
    refine W.lcmp hx hb dX5_putsNumber_8 ?_
    refine lv_if_ne (tgt := 19) hx hb dX5_putsNumber_9 (by decide) (fun c2 => ?_) (fun c2 => ?_)
    · have hf := (if_neg (fun z => c2 ((lg_cmp_eq _ _).mpr z))).symm.trans hf
      exact W.eq (g2 := F0 m 19 ls []) rfl (mm_putsNumber_t19 G (lv_sub hl [0, 1, 2] rfl) hP hD hS hf)
    · have hf := (if_pos ((lg_cmp_eq _ _).mp c2)).symm.trans hf
      refine lv_aload_n hx hb dX5_putsNumber_12 rfl (lv_at hl 0 rfl) ?_
      refine va_ldcS hx hb hown (hG.1 _ (List.mem_of_getElem? (i := 10) rfl)) dX5_putsNumber_13 ?_
      obtain ⟨x3, hx3, hf⟩ := bd_some hf
      refine vM (As := [.ref (aK 4)]) (rest := []) G kX5_234 (c_mm_putsWord (by decide) hx3) hP hD hS ⟨rfl, rfl, Nat.le_of_ble_eq_true rfl, Nat.le_of_ble_eq_true rfl⟩ ⟨Nat.zero_le _, Nat.zero_le _⟩ rfl hl.1 (Nat.le_of_ble_eq_true rfl) dX5_putsNumber_15 (fun H locs hP hD hS => ?_)
      refine W.eq (g2 := F0 m 18 ls []) rfl ?_
      cases hf
      exact ct_vret G hP hD hS dX5_putsNumber_18
set_option maxHeartbeats 4000000 in
set_option maxRecDepth 100000 in
theorem c_mm_putsNumber {l : Launch} {D : va_G} {aK aV : Nat → Nat} {cB cI cJ : ClassId} {q : Nat → Nat} {ρ : MSt} {p0 : Int64} {p1 : Int32} {σ : MSt} (hf : mm_putsNumber p0 p1 σ = some ρ) : CT l D (gTy cB cI cJ) aK aV yX5_putsNumber (wM yX5_putsNumber cX5_putsNumber 9 none) (rm_mm_putsNumber) 0 0 [.ref (q 0), .long p0, .int p1] (mW cB cI cJ q σ) none (mW cB cI cJ q ρ) := by
  refine CT.of (by decide) rfl ?_
  intro p e s m below meth c A G hnm hP hD hS
  have hl := lv_entry [.ref (q 0), .long p0, .int p1] (n := 9) (Nat.le_of_ble_eq_true rfl)
  rw [lg_entry_eq]
  generalize (lg_sl [.ref (q 0), .long p0, .int p1] ++ List.replicate (9 - (lg_sl [.ref (q 0), .long p0, .int p1]).length) Slot.unset).toArray = ls at hl ⊢
  exact mm_putsNumber_t0e G hl hP hD hS hf
def mm_putsString_b168 (k8 : Int32 → Int32 → MSt → Option (MSt)) (a1 : Int32) (a2 : Int32) (a3 : Int32) (σ : MSt) : Option (MSt) := bd (mm_put a3 σ) (fun (x25 : MSt) => lt (a2 + (1 : Int32)) (fun (v26 : Int32) => k8 a1 v26 x25))
def mm_putsString_b105 (k8 : Int32 → Int32 → MSt → Option (MSt)) (a1 : Int32) (a2 : Int32) (a3 : Int32) (s0 : Int32) (σ : MSt) : Option (MSt) := (if s0 ≤ 0 then (if a3 < 0 then mm_putsString_b168 k8 a1 a2 a3 σ else (if (32 : Int32) ≤ a3 then mm_putsString_b168 k8 a1 a2 a3 σ else bd (mm_putsWord 5  σ) (fun (x18 : MSt) => bd (mm_put (eX5_shown (a3 / (16 : Int32))) x18) (fun (x19 : MSt) => bd (mm_put (eX5_shown (a3 - a3 / (16 : Int32) * (16 : Int32))) x19) (fun (x20 : MSt) => lt (a2 + (1 : Int32)) (fun (v21 : Int32) => k8 a1 v21 x20)))))) else bd (mm_put (92 : Int32) σ) (fun (x22 : MSt) => bd (mm_put s0 x22) (fun (x23 : MSt) => lt (a2 + (1 : Int32)) (fun (v24 : Int32) => k8 a1 v24 x23))))
def mm_putsString_b8 (k8 : Int32 → Int32 → MSt → Option (MSt)) (a1 : Int32) (a2 : Int32) (σ : MSt) : Option (MSt) := ck a1 4200 ((if (Int64.toInt32 ((mf_numbers σ) (a1).toNatClampNeg)) ≤ a2 then bd (mm_put (34 : Int32) σ) (fun (x4 : MSt) => some x4) else ck a1 4200 (ck (((mf_places σ) (a1).toNatClampNeg) + a2) 8200 (lt ((mf_letters σ) ((((mf_places σ) (a1).toNatClampNeg) + a2)).toNatClampNeg) (fun (v7 : Int32) => (if v7 = (34 : Int32) then mm_putsString_b105 k8 a1 a2 v7 v7 σ else (if v7 = (92 : Int32) then mm_putsString_b105 k8 a1 a2 v7 v7 σ else (if v7 = (8 : Int32) then mm_putsString_b105 k8 a1 a2 v7 (98 : Int32) σ else (if v7 = (9 : Int32) then mm_putsString_b105 k8 a1 a2 v7 (116 : Int32) σ else (if v7 = (10 : Int32) then mm_putsString_b105 k8 a1 a2 v7 (110 : Int32) σ else (if v7 = (12 : Int32) then mm_putsString_b105 k8 a1 a2 v7 (102 : Int32) σ else (if v7 = (13 : Int32) then mm_putsString_b105 k8 a1 a2 v7 (114 : Int32) σ else mm_putsString_b105 k8 a1 a2 v7 (0 : Int32) σ))))))))))))
def mm_putsString_L8 : Nat → Int32 → Int32 → MSt → Option (MSt)
  | 0, _, _, _ => none
  | n + 1, a1, a2, σ => mm_putsString_b8 (mm_putsString_L8 n) a1 a2 σ
def mm_putsString (p0 : Int32) (σ : MSt) : Option (MSt) := bd (mm_put (34 : Int32) σ) (fun (x1 : MSt) => mm_putsString_L8 FU p0 (0 : Int32) x1)
abbrev rm_mm_putsString : Room := { frames := 5, cells := 0, slots := 0, locals := 107 }
set_option maxHeartbeats 4000000 in
set_option maxRecDepth 100000 in
theorem mm_putsString_t168 {p : Program} {l : Launch} {e : Env} {s : State} {m : MethodId} {args : Array Value} {below : List Frame} {meth : Method} {c : Code} {D : va_G} {aK aV : Nat → Nat} {A : Nat → Prop} {cB cI cJ : ClassId} {q : Nat → Nat} {H : Heap} {locs : List Loc} {ls : Array Slot} {ρ : MSt} {k8 : Int32 → Int32 → MSt → Option (MSt)} {a1 : Int32} {a2 : Int32} {a3 : Int32} {σ : MSt} (G : CX p s m args meth c D (gTy cB cI cJ) aK aV A RX5 cX5_putsString 5 none) (hk8 : ∀ (a1 : Int32) (a2 : Int32) (σ : MSt) (H : Heap) (locs : List Loc) (ls : Array Slot), lv_has ls 5 [(0, .ref (q 0)), (1, .int a1), (2, .int a2)] → va_P D vwCl (mW cB cI cJ q σ) H → va_D A (mW cB cI cJ q σ) → va_S A s.heap H locs → k8 a1 a2 σ = some ρ → W p l e (rm_mm_putsString) s m args below meth c H locs 0 0 (MQ below (cQ D (gTy cB cI cJ) A (mW cB cI cJ q ρ) none) args s 0 0 A) (F0 m 8 ls [])) (hl : lv_has ls 5 [(0, .ref (q 0)), (1, .int a1), (2, .int a2), (3, .int a3)]) (hP : va_P D vwCl (mW cB cI cJ q σ) H) (hD : va_D A (mW cB cI cJ q σ)) (hS : va_S A s.heap H locs) (hf : mm_putsString_b168 k8 a1 a2 a3 σ = some ρ) : W p l e (rm_mm_putsString) s m args below meth c H locs 0 0 (MQ below (cQ D (gTy cB cI cJ) A (mW cB cI cJ q ρ) none) args s 0 0 A) (F0 m 168 ls []) := by
  unfold mm_putsString_b168 at hf
  obtain ⟨hx, hb, hml, hown, hT, hrt, hlk, hK, hA, hG, hE⟩ := id G
  refine lv_aload_n hx hb dX5_putsString_168 rfl (lv_at hl 0 rfl) ?_
  refine lv_iload_n hx hb dX5_putsString_169 rfl (lv_at hl 3 rfl) ?_
  obtain ⟨x25, hx25, hf⟩ := bd_some hf
  refine vM (As := [.int a3]) (rest := []) G kX5_219 (c_mm_put hx25) hP hD hS ⟨rfl, rfl, Nat.le_of_ble_eq_true rfl, Nat.le_of_ble_eq_true rfl⟩ ⟨Nat.zero_le _, Nat.zero_le _⟩ rfl hl.1 (Nat.le_of_ble_eq_true rfl) dX5_putsString_170 (fun H locs hP hD hS => ?_)
  refine W.eq (g2 := F0 m 173 ls []) rfl ?_
  obtain ⟨v26, ev26⟩ : ∃ y : Int32, y = (a2 + (1 : Int32)) := ⟨_, rfl⟩
  have hf := lt_eq hf ev26
  refine lv_iinc (v := v26) (lv' := [(2, .int v26), (0, .ref (q 0)), (1, .int a1), (3, .int a3)]) hx hb dX5_putsString_173 hl (k := 2) rfl (by rw [ev26]; rfl) (by decide) rfl (fun ls hl => ?_)
  refine lv_goto (tgt := 8) hx hb dX5_putsString_176 (by decide) ?_
  exact W.eq (g2 := F0 m 8 ls []) rfl (hk8 _ _ _ _ _ _ (lv_sub hl [1, 2, 0] rfl) hP hD hS hf)
set_option maxHeartbeats 4000000 in
set_option maxRecDepth 100000 in
theorem mm_putsString_t105 {p : Program} {l : Launch} {e : Env} {s : State} {m : MethodId} {args : Array Value} {below : List Frame} {meth : Method} {c : Code} {D : va_G} {aK aV : Nat → Nat} {A : Nat → Prop} {cB cI cJ : ClassId} {q : Nat → Nat} {H : Heap} {locs : List Loc} {ls : Array Slot} {ρ : MSt} {k8 : Int32 → Int32 → MSt → Option (MSt)} {a1 : Int32} {a2 : Int32} {a3 : Int32} {s0 : Int32} {σ : MSt} (G : CX p s m args meth c D (gTy cB cI cJ) aK aV A RX5 cX5_putsString 5 none) (hk8 : ∀ (a1 : Int32) (a2 : Int32) (σ : MSt) (H : Heap) (locs : List Loc) (ls : Array Slot), lv_has ls 5 [(0, .ref (q 0)), (1, .int a1), (2, .int a2)] → va_P D vwCl (mW cB cI cJ q σ) H → va_D A (mW cB cI cJ q σ) → va_S A s.heap H locs → k8 a1 a2 σ = some ρ → W p l e (rm_mm_putsString) s m args below meth c H locs 0 0 (MQ below (cQ D (gTy cB cI cJ) A (mW cB cI cJ q ρ) none) args s 0 0 A) (F0 m 8 ls [])) (hl : lv_has ls 5 [(0, .ref (q 0)), (1, .int a1), (2, .int a2), (3, .int a3)]) (hP : va_P D vwCl (mW cB cI cJ q σ) H) (hD : va_D A (mW cB cI cJ q σ)) (hS : va_S A s.heap H locs) (hf : mm_putsString_b105 k8 a1 a2 a3 s0 σ = some ρ) : W p l e (rm_mm_putsString) s m args below meth c H locs 0 0 (MQ below (cQ D (gTy cB cI cJ) A (mW cB cI cJ q ρ) none) args s 0 0 A) (F0 m 105 ls [.int s0]) := by
  unfold mm_putsString_b105 at hf
  obtain ⟨hx, hb, hml, hown, hT, hrt, hlk, hK, hA, hG, hE⟩ := id G
  refine lv_istore (lv' := [(4, .int s0), (0, .ref (q 0)), (1, .int a1), (2, .int a2), (3, .int a3)]) hx hb dX5_putsString_105 hl (by decide) rfl (fun ls hl => ?_)
  refine lv_iload hx hb dX5_putsString_107 (lv_at hl 0 rfl) ?_
  refine lv_if_le (tgt := 127) hx hb dX5_putsString_109 (by decide) (fun c15 => ?_) (fun c15 => ?_)
  · have hf := (if_pos c15).symm.trans hf
    refine lv_iload_n hx hb dX5_putsString_127 rfl (lv_at hl 4 rfl) ?_
    refine lv_if_lt (tgt := 168) hx hb dX5_putsString_128 (by decide) (fun c16 => ?_) (fun c16 => ?_)
    · have hf := (if_pos c16).symm.trans hf
      exact W.eq (g2 := F0 m 168 ls []) rfl (mm_putsString_t168 G hk8 (lv_sub hl [1, 2, 3, 4] rfl) hP hD hS hf)
    · have hf := (if_neg c16).symm.trans hf
      refine lv_iload_n hx hb dX5_putsString_131 rfl (lv_at hl 4 rfl) ?_
      refine lv_bipush (v := (32 : Int32)) hx hb dX5_putsString_132 (by decide) ?_
      refine lv_icmp_ge (tgt := 168) hx hb dX5_putsString_134 (by decide) (fun c17 => ?_) (fun c17 => ?_)
      · have hf := (if_pos c17).symm.trans hf
        exact W.eq (g2 := F0 m 168 ls []) rfl (mm_putsString_t168 G hk8 (lv_sub hl [1, 2, 3, 4] rfl) hP hD hS hf)
      · have hf := (if_neg c17).symm.trans hf
        refine lv_aload_n hx hb dX5_putsString_137 rfl (lv_at hl 1 rfl) ?_
        refine va_ldcS hx hb hown (hG.1 _ (List.mem_of_getElem? (i := 11) rfl)) dX5_putsString_138 ?_
        obtain ⟨x18, hx18, hf⟩ := bd_some hf
        refine vM (As := [.ref (aK 5)]) (rest := []) G kX5_234 (c_mm_putsWord (by decide) hx18) hP hD hS ⟨rfl, rfl, Nat.le_of_ble_eq_true rfl, Nat.le_of_ble_eq_true rfl⟩ ⟨Nat.zero_le _, Nat.zero_le _⟩ rfl hl.1 (Nat.le_of_ble_eq_true rfl) dX5_putsString_140 (fun H locs hP hD hS => ?_)
        refine W.eq (g2 := F0 m 143 ls []) rfl ?_
        refine lv_aload_n hx hb dX5_putsString_143 rfl (lv_at hl 1 rfl) ?_
        refine lv_iload_n hx hb dX5_putsString_144 rfl (lv_at hl 4 rfl) ?_
        refine lv_bipush (v := (16 : Int32)) hx hb dX5_putsString_145 (by decide) ?_
        refine lv_idiv hx hb dX5_putsString_147 (by decide) ?_
        refine ct_s0 (As := [.int (a3 / (16 : Int32))]) (rest := [.ref (q 0)]) G kX5_242 (c_eX5_shown (a3 / (16 : Int32))) hP hD hS ⟨rfl, rfl, Nat.le_of_ble_eq_true rfl, Nat.le_of_ble_eq_true rfl⟩ ⟨Nat.zero_le _, Nat.zero_le _⟩ rfl hl.1 (Nat.le_of_ble_eq_true rfl) dX5_putsString_148 (fun H locs hP hS => ?_)
        refine W.eq (g2 := F0 m 151 ls [.int (eX5_shown (a3 / (16 : Int32))), .ref (q 0)]) rfl ?_
        obtain ⟨x19, hx19, hf⟩ := bd_some hf
        refine vM (As := [.int (eX5_shown (a3 / (16 : Int32)))]) (rest := []) G kX5_219 (c_mm_put hx19) hP hD hS ⟨rfl, rfl, Nat.le_of_ble_eq_true rfl, Nat.le_of_ble_eq_true rfl⟩ ⟨Nat.zero_le _, Nat.zero_le _⟩ rfl hl.1 (Nat.le_of_ble_eq_true rfl) dX5_putsString_151 (fun H locs hP hD hS => ?_)
        refine W.eq (g2 := F0 m 154 ls []) rfl ?_
        refine lv_aload_n hx hb dX5_putsString_154 rfl (lv_at hl 1 rfl) ?_
        refine lv_iload_n hx hb dX5_putsString_155 rfl (lv_at hl 4 rfl) ?_
        refine lv_bipush (v := (16 : Int32)) hx hb dX5_putsString_156 (by decide) ?_
        refine lv_irem hx hb dX5_putsString_158 (by decide) ?_
        refine ct_s0 (As := [.int (a3 - a3 / (16 : Int32) * (16 : Int32))]) (rest := [.ref (q 0)]) G kX5_242 (c_eX5_shown (a3 - a3 / (16 : Int32) * (16 : Int32))) hP hD hS ⟨rfl, rfl, Nat.le_of_ble_eq_true rfl, Nat.le_of_ble_eq_true rfl⟩ ⟨Nat.zero_le _, Nat.zero_le _⟩ rfl hl.1 (Nat.le_of_ble_eq_true rfl) dX5_putsString_159 (fun H locs hP hS => ?_)
        refine W.eq (g2 := F0 m 162 ls [.int (eX5_shown (a3 - a3 / (16 : Int32) * (16 : Int32))), .ref (q 0)]) rfl ?_
        obtain ⟨x20, hx20, hf⟩ := bd_some hf
        refine vM (As := [.int (eX5_shown (a3 - a3 / (16 : Int32) * (16 : Int32)))]) (rest := []) G kX5_219 (c_mm_put hx20) hP hD hS ⟨rfl, rfl, Nat.le_of_ble_eq_true rfl, Nat.le_of_ble_eq_true rfl⟩ ⟨Nat.zero_le _, Nat.zero_le _⟩ rfl hl.1 (Nat.le_of_ble_eq_true rfl) dX5_putsString_162 (fun H locs hP hD hS => ?_)
        refine W.eq (g2 := F0 m 165 ls []) rfl ?_
        refine lv_goto (tgt := 173) hx hb dX5_putsString_165 (by decide) ?_
        obtain ⟨v21, ev21⟩ : ∃ y : Int32, y = (a2 + (1 : Int32)) := ⟨_, rfl⟩
        have hf := lt_eq hf ev21
        refine lv_iinc (v := v21) (lv' := [(2, .int v21), (4, .int s0), (0, .ref (q 0)), (1, .int a1), (3, .int a3)]) hx hb dX5_putsString_173 hl (k := 3) rfl (by rw [ev21]; rfl) (by decide) rfl (fun ls hl => ?_)
        refine lv_goto (tgt := 8) hx hb dX5_putsString_176 (by decide) ?_
        exact W.eq (g2 := F0 m 8 ls []) rfl (hk8 _ _ _ _ _ _ (lv_sub hl [2, 3, 0] rfl) hP hD hS hf)
  · have hf := (if_neg c15).symm.trans hf
    refine lv_aload_n hx hb dX5_putsString_112 rfl (lv_at hl 1 rfl) ?_
    refine lv_bipush (v := (92 : Int32)) hx hb dX5_putsString_113 (by decide) ?_
    obtain ⟨x22, hx22, hf⟩ := bd_some hf
    refine vM (As := [.int (92 : Int32)]) (rest := []) G kX5_219 (c_mm_put hx22) hP hD hS ⟨rfl, rfl, Nat.le_of_ble_eq_true rfl, Nat.le_of_ble_eq_true rfl⟩ ⟨Nat.zero_le _, Nat.zero_le _⟩ rfl hl.1 (Nat.le_of_ble_eq_true rfl) dX5_putsString_115 (fun H locs hP hD hS => ?_)
    refine W.eq (g2 := F0 m 118 ls []) rfl ?_
    refine lv_aload_n hx hb dX5_putsString_118 rfl (lv_at hl 1 rfl) ?_
    refine lv_iload hx hb dX5_putsString_119 (lv_at hl 0 rfl) ?_
    obtain ⟨x23, hx23, hf⟩ := bd_some hf
    refine vM (As := [.int s0]) (rest := []) G kX5_219 (c_mm_put hx23) hP hD hS ⟨rfl, rfl, Nat.le_of_ble_eq_true rfl, Nat.le_of_ble_eq_true rfl⟩ ⟨Nat.zero_le _, Nat.zero_le _⟩ rfl hl.1 (Nat.le_of_ble_eq_true rfl) dX5_putsString_121 (fun H locs hP hD hS => ?_)
    refine W.eq (g2 := F0 m 124 ls []) rfl ?_
    refine lv_goto (tgt := 173) hx hb dX5_putsString_124 (by decide) ?_
    obtain ⟨v24, ev24⟩ : ∃ y : Int32, y = (a2 + (1 : Int32)) := ⟨_, rfl⟩
    have hf := lt_eq hf ev24
    refine lv_iinc (v := v24) (lv' := [(2, .int v24), (4, .int s0), (0, .ref (q 0)), (1, .int a1), (3, .int a3)]) hx hb dX5_putsString_173 hl (k := 3) rfl (by rw [ev24]; rfl) (by decide) rfl (fun ls hl => ?_)
    refine lv_goto (tgt := 8) hx hb dX5_putsString_176 (by decide) ?_
    exact W.eq (g2 := F0 m 8 ls []) rfl (hk8 _ _ _ _ _ _ (lv_sub hl [2, 3, 0] rfl) hP hD hS hf)
set_option maxHeartbeats 4000000 in
set_option maxRecDepth 100000 in
theorem mm_putsString_t8 {p : Program} {l : Launch} {e : Env} {s : State} {m : MethodId} {args : Array Value} {below : List Frame} {meth : Method} {c : Code} {D : va_G} {aK aV : Nat → Nat} {A : Nat → Prop} {cB cI cJ : ClassId} {q : Nat → Nat} {H : Heap} {locs : List Loc} {ls : Array Slot} {ρ : MSt} {k8 : Int32 → Int32 → MSt → Option (MSt)} {a1 : Int32} {a2 : Int32} {σ : MSt} (G : CX p s m args meth c D (gTy cB cI cJ) aK aV A RX5 cX5_putsString 5 none) (hk8 : ∀ (a1 : Int32) (a2 : Int32) (σ : MSt) (H : Heap) (locs : List Loc) (ls : Array Slot), lv_has ls 5 [(0, .ref (q 0)), (1, .int a1), (2, .int a2)] → va_P D vwCl (mW cB cI cJ q σ) H → va_D A (mW cB cI cJ q σ) → va_S A s.heap H locs → k8 a1 a2 σ = some ρ → W p l e (rm_mm_putsString) s m args below meth c H locs 0 0 (MQ below (cQ D (gTy cB cI cJ) A (mW cB cI cJ q ρ) none) args s 0 0 A) (F0 m 8 ls [])) (hl : lv_has ls 5 [(0, .ref (q 0)), (1, .int a1), (2, .int a2)]) (hP : va_P D vwCl (mW cB cI cJ q σ) H) (hD : va_D A (mW cB cI cJ q σ)) (hS : va_S A s.heap H locs) (hf : mm_putsString_b8 k8 a1 a2 σ = some ρ) : W p l e (rm_mm_putsString) s m args below meth c H locs 0 0 (MQ below (cQ D (gTy cB cI cJ) A (mW cB cI cJ q ρ) none) args s 0 0 A) (F0 m 8 ls []) := by
  unfold mm_putsString_b8 at hf
  obtain ⟨hx, hb, hml, hown, hT, hrt, hlk, hK, hA, hG, hE⟩ := id G
  refine lv_iload_n hx hb dX5_putsString_8 rfl (lv_at hl 2 rfl) ?_
  refine lv_aload_n hx hb dX5_putsString_9 rfl (lv_at hl 0 rfl) ?_
  refine gm_X5_numbers G hP dX5_putsString_10 ?_
  refine lv_iload_n hx hb dX5_putsString_13 rfl (lv_at hl 1 rfl) ?_
  obtain ⟨hi2, hf⟩ := ck_some hf
  refine lm_numbers (f := (mf_numbers σ)) G hP hi2 dX5_putsString_14 rfl ?_
  refine lv_l2i (v := (Int64.toInt32 ((mf_numbers σ) (a1).toNatClampNeg))) hx hb dX5_putsString_15 rfl ?_
  refine lv_icmp_ge (tgt := 179) hx hb dX5_putsString_16 (by decide) (fun c3 => ?_) (fun c3 => ?_)
  · have hf := (if_pos c3).symm.trans hf
    refine lv_aload_n hx hb dX5_putsString_179 rfl (lv_at hl 0 rfl) ?_
    refine lv_bipush (v := (34 : Int32)) hx hb dX5_putsString_180 (by decide) ?_
    obtain ⟨x4, hx4, hf⟩ := bd_some hf
    refine vM (As := [.int (34 : Int32)]) (rest := []) G kX5_219 (c_mm_put hx4) hP hD hS ⟨rfl, rfl, Nat.le_of_ble_eq_true rfl, Nat.le_of_ble_eq_true rfl⟩ ⟨Nat.zero_le _, Nat.zero_le _⟩ rfl hl.1 (Nat.le_of_ble_eq_true rfl) dX5_putsString_182 (fun H locs hP hD hS => ?_)
    refine W.eq (g2 := F0 m 185 ls []) rfl ?_
    cases hf
    exact ct_vret G hP hD hS dX5_putsString_185
  · have hf := (if_neg c3).symm.trans hf
    refine lv_aload_n hx hb dX5_putsString_19 rfl (lv_at hl 0 rfl) ?_
    refine gm_X5_letters G hP dX5_putsString_20 ?_
    refine lv_aload_n hx hb dX5_putsString_23 rfl (lv_at hl 0 rfl) ?_
    refine gm_X5_places G hP dX5_putsString_24 ?_
    refine lv_iload_n hx hb dX5_putsString_27 rfl (lv_at hl 1 rfl) ?_
    obtain ⟨hi5, hf⟩ := ck_some hf
    refine lm_places (f := (mf_places σ)) G hP hi5 dX5_putsString_28 rfl ?_
    refine lv_iload_n hx hb dX5_putsString_29 rfl (lv_at hl 2 rfl) ?_
    refine lv_iadd hx hb dX5_putsString_30 ?_
    obtain ⟨hi6, hf⟩ := ck_some hf
    refine lm_letters (f := (mf_letters σ)) G hP hi6 dX5_putsString_31 rfl ?_
    refine lv_topi (fun v7 ev7 => ?_)
    have hf := lt_eq hf ev7
    refine lv_istore_n (lv' := [(3, .int v7), (0, .ref (q 0)), (1, .int a1), (2, .int a2)]) hx hb dX5_putsString_32 rfl hl (by decide) rfl (fun ls hl => ?_)
    refine lv_iload_n hx hb dX5_putsString_33 rfl (lv_at hl 0 rfl) ?_
    refine lv_bipush (v := (34 : Int32)) hx hb dX5_putsString_34 (by decide) ?_
    refine lv_icmp_eq (tgt := 45) hx hb dX5_putsString_36 (by decide) (fun c8 => ?_) (fun c8 => ?_)
    · have hf := (if_pos c8).symm.trans hf
      refine lv_iload_n hx hb dX5_putsString_45 rfl (lv_at hl 0 rfl) ?_
      refine lv_goto (tgt := 105) hx hb dX5_putsString_46 (by decide) ?_
      exact W.eq (g2 := F0 m 105 ls [.int v7]) rfl (mm_putsString_t105 G hk8 (lv_sub hl [1, 2, 3, 0] rfl) hP hD hS hf)
    · have hf := (if_neg c8).symm.trans hf
      refine lv_iload_n hx hb dX5_putsString_39 rfl (lv_at hl 0 rfl) ?_
      refine lv_bipush (v := (92 : Int32)) hx hb dX5_putsString_40 (by decide) ?_
      refine lv_icmp_ne (tgt := 49) hx hb dX5_putsString_42 (by decide) (fun c9 => ?_) (fun c9 => ?_)
      · have hf := (if_neg c9).symm.trans hf
        refine lv_iload_n hx hb dX5_putsString_49 rfl (lv_at hl 0 rfl) ?_
        refine lv_bipush (v := (8 : Int32)) hx hb dX5_putsString_50 (by decide) ?_
        refine lv_icmp_ne (tgt := 60) hx hb dX5_putsString_52 (by decide) (fun c10 => ?_) (fun c10 => ?_)
        · have hf := (if_neg c10).symm.trans hf
          refine lv_iload_n hx hb dX5_putsString_60 rfl (lv_at hl 0 rfl) ?_
          refine lv_bipush (v := (9 : Int32)) hx hb dX5_putsString_61 (by decide) ?_
          refine lv_icmp_ne (tgt := 71) hx hb dX5_putsString_63 (by decide) (fun c11 => ?_) (fun c11 => ?_)
          · have hf := (if_neg c11).symm.trans hf
            refine lv_iload_n hx hb dX5_putsString_71 rfl (lv_at hl 0 rfl) ?_
            refine lv_bipush (v := (10 : Int32)) hx hb dX5_putsString_72 (by decide) ?_
            refine lv_icmp_ne (tgt := 82) hx hb dX5_putsString_74 (by decide) (fun c12 => ?_) (fun c12 => ?_)
            · have hf := (if_neg c12).symm.trans hf
              refine lv_iload_n hx hb dX5_putsString_82 rfl (lv_at hl 0 rfl) ?_
              refine lv_bipush (v := (12 : Int32)) hx hb dX5_putsString_83 (by decide) ?_
              refine lv_icmp_ne (tgt := 93) hx hb dX5_putsString_85 (by decide) (fun c13 => ?_) (fun c13 => ?_)
              · have hf := (if_neg c13).symm.trans hf
                refine lv_iload_n hx hb dX5_putsString_93 rfl (lv_at hl 0 rfl) ?_
                refine lv_bipush (v := (13 : Int32)) hx hb dX5_putsString_94 (by decide) ?_
                refine lv_icmp_ne (tgt := 104) hx hb dX5_putsString_96 (by decide) (fun c14 => ?_) (fun c14 => ?_)
                · have hf := (if_neg c14).symm.trans hf
                  refine lv_iconst (v := (0 : Int32)) hx hb dX5_putsString_104 (by decide) ?_
                  exact W.eq (g2 := F0 m 105 ls [.int (0 : Int32)]) rfl (mm_putsString_t105 G hk8 (lv_sub hl [1, 2, 3, 0] rfl) hP hD hS hf)
                · have hf := (if_pos c14).symm.trans hf
                  refine lv_bipush (v := (114 : Int32)) hx hb dX5_putsString_99 (by decide) ?_
                  refine lv_goto (tgt := 105) hx hb dX5_putsString_101 (by decide) ?_
                  exact W.eq (g2 := F0 m 105 ls [.int (114 : Int32)]) rfl (mm_putsString_t105 G hk8 (lv_sub hl [1, 2, 3, 0] rfl) hP hD hS hf)
              · have hf := (if_pos c13).symm.trans hf
                refine lv_bipush (v := (102 : Int32)) hx hb dX5_putsString_88 (by decide) ?_
                refine lv_goto (tgt := 105) hx hb dX5_putsString_90 (by decide) ?_
                exact W.eq (g2 := F0 m 105 ls [.int (102 : Int32)]) rfl (mm_putsString_t105 G hk8 (lv_sub hl [1, 2, 3, 0] rfl) hP hD hS hf)
            · have hf := (if_pos c12).symm.trans hf
              refine lv_bipush (v := (110 : Int32)) hx hb dX5_putsString_77 (by decide) ?_
              refine lv_goto (tgt := 105) hx hb dX5_putsString_79 (by decide) ?_
              exact W.eq (g2 := F0 m 105 ls [.int (110 : Int32)]) rfl (mm_putsString_t105 G hk8 (lv_sub hl [1, 2, 3, 0] rfl) hP hD hS hf)
          · have hf := (if_pos c11).symm.trans hf
            refine lv_bipush (v := (116 : Int32)) hx hb dX5_putsString_66 (by decide) ?_
            refine lv_goto (tgt := 105) hx hb dX5_putsString_68 (by decide) ?_
            exact W.eq (g2 := F0 m 105 ls [.int (116 : Int32)]) rfl (mm_putsString_t105 G hk8 (lv_sub hl [1, 2, 3, 0] rfl) hP hD hS hf)
        · have hf := (if_pos c10).symm.trans hf
          refine lv_bipush (v := (98 : Int32)) hx hb dX5_putsString_55 (by decide) ?_
          refine lv_goto (tgt := 105) hx hb dX5_putsString_57 (by decide) ?_
          exact W.eq (g2 := F0 m 105 ls [.int (98 : Int32)]) rfl (mm_putsString_t105 G hk8 (lv_sub hl [1, 2, 3, 0] rfl) hP hD hS hf)
      · have hf := (if_pos c9).symm.trans hf
        refine lv_iload_n hx hb dX5_putsString_45 rfl (lv_at hl 0 rfl) ?_
        refine lv_goto (tgt := 105) hx hb dX5_putsString_46 (by decide) ?_
        exact W.eq (g2 := F0 m 105 ls [.int v7]) rfl (mm_putsString_t105 G hk8 (lv_sub hl [1, 2, 3, 0] rfl) hP hD hS hf)
set_option maxHeartbeats 4000000 in
set_option maxRecDepth 100000 in
theorem mm_putsString_u8 {p : Program} {l : Launch} {e : Env} {s : State} {m : MethodId} {args : Array Value} {below : List Frame} {meth : Method} {c : Code} {D : va_G} {aK aV : Nat → Nat} {A : Nat → Prop} {cB cI cJ : ClassId} {q : Nat → Nat} {ρ : MSt} (G : CX p s m args meth c D (gTy cB cI cJ) aK aV A RX5 cX5_putsString 5 none) : ∀ (n : Nat) {a1 : Int32} {a2 : Int32} {σ : MSt} {H : Heap} {locs : List Loc} {ls : Array Slot} (hl : lv_has ls 5 [(0, .ref (q 0)), (1, .int a1), (2, .int a2)]) (hP : va_P D vwCl (mW cB cI cJ q σ) H) (hD : va_D A (mW cB cI cJ q σ)) (hS : va_S A s.heap H locs) (hf : mm_putsString_L8 n a1 a2 σ = some ρ), W p l e (rm_mm_putsString) s m args below meth c H locs 0 0 (MQ below (cQ D (gTy cB cI cJ) A (mW cB cI cJ q ρ) none) args s 0 0 A) (F0 m 8 ls []) := by
  intro n
  induction n with
  | zero =>
    intros
    rename_i hf
    cases hf
  | succ n ih =>
    intro a1 a2 σ H locs ls hl hP hD hS hf
    exact mm_putsString_t8 G (fun _ _ _ H locs ls hl hP hD hS hf => ih hl hP hD hS hf) hl hP hD hS hf
set_option maxHeartbeats 4000000 in
set_option maxRecDepth 100000 in
theorem mm_putsString_t0e {p : Program} {l : Launch} {e : Env} {s : State} {m : MethodId} {args : Array Value} {below : List Frame} {meth : Method} {c : Code} {D : va_G} {aK aV : Nat → Nat} {A : Nat → Prop} {cB cI cJ : ClassId} {q : Nat → Nat} {H : Heap} {locs : List Loc} {ls : Array Slot} {ρ : MSt} {p0 : Int32} {σ : MSt} (G : CX p s m args meth c D (gTy cB cI cJ) aK aV A RX5 cX5_putsString 5 none) (hl : lv_has ls 5 [(0, .ref (q 0)), (1, .int p0)]) (hP : va_P D vwCl (mW cB cI cJ q σ) H) (hD : va_D A (mW cB cI cJ q σ)) (hS : va_S A s.heap H locs) (hf : mm_putsString p0 σ = some ρ) : W p l e (rm_mm_putsString) s m args below meth c H locs 0 0 (MQ below (cQ D (gTy cB cI cJ) A (mW cB cI cJ q ρ) none) args s 0 0 A) (F0 m 0 ls []) := by
  unfold mm_putsString at hf
  obtain ⟨hx, hb, hml, hown, hT, hrt, hlk, hK, hA, hG, hE⟩ := id G
  refine lv_aload_n hx hb dX5_putsString_0 rfl (lv_at hl 0 rfl) ?_
  refine lv_bipush (v := (34 : Int32)) hx hb dX5_putsString_1 (by decide) ?_
  obtain ⟨x1, hx1, hf⟩ := bd_some hf
  refine vM (As := [.int (34 : Int32)]) (rest := []) G kX5_219 (c_mm_put hx1) hP hD hS ⟨rfl, rfl, Nat.le_of_ble_eq_true rfl, Nat.le_of_ble_eq_true rfl⟩ ⟨Nat.zero_le _, Nat.zero_le _⟩ rfl hl.1 (Nat.le_of_ble_eq_true rfl) dX5_putsString_3 (fun H locs hP hD hS => ?_)
  refine W.eq (g2 := F0 m 6 ls []) rfl ?_
  refine lv_iconst (v := (0 : Int32)) hx hb dX5_putsString_6 (by decide) ?_
  refine lv_istore_n (lv' := [(2, .int (0 : Int32)), (0, .ref (q 0)), (1, .int p0)]) hx hb dX5_putsString_7 rfl hl (by decide) rfl (fun ls hl => ?_)
  exact W.eq (g2 := F0 m 8 ls []) rfl (mm_putsString_u8 G FU (lv_sub hl [1, 2, 0] rfl) hP hD hS hf)
set_option maxHeartbeats 4000000 in
set_option maxRecDepth 100000 in
theorem c_mm_putsString {l : Launch} {D : va_G} {aK aV : Nat → Nat} {cB cI cJ : ClassId} {q : Nat → Nat} {ρ : MSt} {p0 : Int32} {σ : MSt} (hf : mm_putsString p0 σ = some ρ) : CT l D (gTy cB cI cJ) aK aV yX5_putsString (wM yX5_putsString cX5_putsString 5 none) (rm_mm_putsString) 0 0 [.ref (q 0), .int p0] (mW cB cI cJ q σ) none (mW cB cI cJ q ρ) := by
  refine CT.of (by decide) rfl ?_
  intro p e s m below meth c A G hnm hP hD hS
  have hl := lv_entry [.ref (q 0), .int p0] (n := 5) (Nat.le_of_ble_eq_true rfl)
  rw [lg_entry_eq]
  generalize (lg_sl [.ref (q 0), .int p0] ++ List.replicate (5 - (lg_sl [.ref (q 0), .int p0]).length) Slot.unset).toArray = ls at hl ⊢
  exact mm_putsString_t0e G hl hP hD hS hf
def mm_putsThing_b207 (s0 : Int64) (s1 : Int32) (σ : MSt) : Option (MSt) := ck s1 64 (some (ms_open (ms_openLeft σ (vp_updL (mf_openLeft σ) (s1).toNatClampNeg s0)) ((mf_open σ) + (1 : Int32))))
def mm_putsThing_b157 (a1 : Int32) (s0 : Int32) (σ : MSt) : Option (MSt) := bd (mm_put s0 σ) (fun (x23 : MSt) => ck (mf_open x23) 64 (ck a1 4200 ((if ((mf_sorts x23) (a1).toNatClampNeg) = (5 : Int32) then ck a1 4200 (mm_putsThing_b207 ((2 : Int64) * ((mf_numbers x23) (a1).toNatClampNeg)) (mf_open x23) (ms_openThing x23 (upd (mf_openThing x23) ((mf_open x23)).toNatClampNeg a1))) else ck a1 4200 (mm_putsThing_b207 ((mf_numbers x23) (a1).toNatClampNeg) (mf_open x23) (ms_openThing x23 (upd (mf_openThing x23) ((mf_open x23)).toNatClampNeg a1)))))))
def mm_putsThing_b139 (a1 : Int32) (σ : MSt) : Option (MSt) := ck a1 4200 ((if ((mf_sorts σ) (a1).toNatClampNeg) = (5 : Int32) then mm_putsThing_b157 a1 (123 : Int32) σ else mm_putsThing_b157 a1 (91 : Int32) σ))
def mm_putsThing_b133 (σ : MSt) : Option (MSt) := bd (mm_putsWord 2  σ) (fun (x22 : MSt) => some x22)
def mm_putsThing (p0 : Int32) (σ : MSt) : Option (MSt) := ck p0 4200 ((if ((mf_sorts σ) (p0).toNatClampNeg) = (0 : Int32) then ck p0 4200 (bd (mm_putsNumber ((mf_numbers σ) (p0).toNatClampNeg) (0 : Int32) σ) (fun (x4 : MSt) => some x4)) else (if ((mf_sorts σ) (p0).toNatClampNeg) = (1 : Int32) then bd (mm_put (45 : Int32) σ) (fun (x6 : MSt) => ck p0 4200 (bd (mm_putsNumber ((mf_numbers x6) (p0).toNatClampNeg) (1 : Int32) x6) (fun (x8 : MSt) => some x8))) else (if ((mf_sorts σ) (p0).toNatClampNeg) = (2 : Int32) then mm_putsThing_b139 p0 σ else (if ((mf_sorts σ) (p0).toNatClampNeg) = (3 : Int32) then bd (mm_putsString p0 σ) (fun (x11 : MSt) => some x11) else (if ((mf_sorts σ) (p0).toNatClampNeg) = (4 : Int32) then mm_putsThing_b139 p0 σ else (if ((mf_sorts σ) (p0).toNatClampNeg) = (5 : Int32) then mm_putsThing_b139 p0 σ else (if ((mf_sorts σ) (p0).toNatClampNeg) = (6 : Int32) then mm_putsThing_b139 p0 σ else (if ((mf_sorts σ) (p0).toNatClampNeg) = (7 : Int32) then ck p0 4200 ((if ((mf_numbers σ) (p0).toNatClampNeg) = (20 : Int64) then mm_putsThing_b133  σ else ck p0 4200 ((if ((mf_numbers σ) (p0).toNatClampNeg) = (21 : Int64) then mm_putsThing_b133  σ else mm_putsThing_b133  σ)))) else mm_putsThing_b139 p0 σ)))))))))
abbrev rm_mm_putsThing : Room := { frames := 6, cells := 0, slots := 0, locals := 135 }
set_option maxHeartbeats 4000000 in
set_option maxRecDepth 100000 in
theorem mm_putsThing_t207 {p : Program} {l : Launch} {e : Env} {s : State} {m : MethodId} {args : Array Value} {below : List Frame} {meth : Method} {c : Code} {D : va_G} {aK aV : Nat → Nat} {A : Nat → Prop} {cB cI cJ : ClassId} {q : Nat → Nat} {H : Heap} {locs : List Loc} {ls : Array Slot} {ρ : MSt} {s0 : Int64} {s1 : Int32} {σ : MSt} (G : CX p s m args meth c D (gTy cB cI cJ) aK aV A RX5 cX5_putsThing 2 none) (hl : lv_has ls 2 [(0, .ref (q 0))]) (hP : va_P D vwCl (mW cB cI cJ q σ) H) (hD : va_D A (mW cB cI cJ q σ)) (hS : va_S A s.heap H locs) (hf : mm_putsThing_b207 s0 s1 σ = some ρ) : W p l e (rm_mm_putsThing) s m args below meth c H locs 0 0 (MQ below (cQ D (gTy cB cI cJ) A (mW cB cI cJ q ρ) none) args s 0 0 A) (F0 m 207 ls [.long s0, .int s1, .ref (q 8)]) := by
  unfold mm_putsThing_b207 at hf
  obtain ⟨hx, hb, hml, hown, hT, hrt, hlk, hK, hA, hG, hE⟩ := id G
  obtain ⟨hi29, hf⟩ := ck_some hf
  refine sm_openLeft (f := (mf_openLeft σ)) G hP hD hS hi29 dX5_putsThing_207 rfl (fun H locs hP hD hS => ?_)
  refine lv_aload_n hx hb dX5_putsThing_208 rfl (lv_at hl 0 rfl) ?_
  refine lv_dup hx hb dX5_putsThing_209 rfl ?_
  refine gm_X5_open (v := (mf_open σ)) G hP dX5_putsThing_210 (mG_open_openLeft _ _) ?_
  refine lv_iconst (v := (1 : Int32)) hx hb dX5_putsThing_213 (by decide) ?_
  refine lv_iadd hx hb dX5_putsThing_214 ?_
  refine pm_X5_open (v := ((mf_open σ) + (1 : Int32))) G hP hD hS dX5_putsThing_215 (fun H locs hP hD hS => ?_)
  cases hf
  exact ct_vret G hP hD hS dX5_putsThing_218
set_option maxHeartbeats 4000000 in
set_option maxRecDepth 100000 in
theorem mm_putsThing_t157 {p : Program} {l : Launch} {e : Env} {s : State} {m : MethodId} {args : Array Value} {below : List Frame} {meth : Method} {c : Code} {D : va_G} {aK aV : Nat → Nat} {A : Nat → Prop} {cB cI cJ : ClassId} {q : Nat → Nat} {H : Heap} {locs : List Loc} {ls : Array Slot} {ρ : MSt} {a1 : Int32} {s0 : Int32} {σ : MSt} (G : CX p s m args meth c D (gTy cB cI cJ) aK aV A RX5 cX5_putsThing 2 none) (hl : lv_has ls 2 [(0, .ref (q 0)), (1, .int a1)]) (hP : va_P D vwCl (mW cB cI cJ q σ) H) (hD : va_D A (mW cB cI cJ q σ)) (hS : va_S A s.heap H locs) (hf : mm_putsThing_b157 a1 s0 σ = some ρ) : W p l e (rm_mm_putsThing) s m args below meth c H locs 0 0 (MQ below (cQ D (gTy cB cI cJ) A (mW cB cI cJ q ρ) none) args s 0 0 A) (F0 m 157 ls [.int s0, .ref (q 0)]) := by
  unfold mm_putsThing_b157 at hf
  obtain ⟨hx, hb, hml, hown, hT, hrt, hlk, hK, hA, hG, hE⟩ := id G
  obtain ⟨x23, hx23, hf⟩ := bd_some hf
  refine vM (As := [.int s0]) (rest := []) G kX5_219 (c_mm_put hx23) hP hD hS ⟨rfl, rfl, Nat.le_of_ble_eq_true rfl, Nat.le_of_ble_eq_true rfl⟩ ⟨Nat.zero_le _, Nat.zero_le _⟩ rfl hl.1 (Nat.le_of_ble_eq_true rfl) dX5_putsThing_157 (fun H locs hP hD hS => ?_)
  refine W.eq (g2 := F0 m 160 ls []) rfl ?_
  refine lv_aload_n hx hb dX5_putsThing_160 rfl (lv_at hl 0 rfl) ?_
  refine gm_X5_openThing G hP dX5_putsThing_161 ?_
  refine lv_aload_n hx hb dX5_putsThing_164 rfl (lv_at hl 0 rfl) ?_
  refine gm_X5_open (v := (mf_open x23)) G hP dX5_putsThing_165 rfl ?_
  refine lv_iload_n hx hb dX5_putsThing_168 rfl (lv_at hl 1 rfl) ?_
  obtain ⟨hi24, hf⟩ := ck_some hf
  refine sm_openThing (f := (mf_openThing x23)) G hP hD hS hi24 dX5_putsThing_169 rfl (fun H locs hP hD hS => ?_)
  refine lv_aload_n hx hb dX5_putsThing_170 rfl (lv_at hl 0 rfl) ?_
  refine gm_X5_openLeft G hP dX5_putsThing_171 ?_
  refine lv_aload_n hx hb dX5_putsThing_174 rfl (lv_at hl 0 rfl) ?_
  refine gm_X5_open (v := (mf_open x23)) G hP dX5_putsThing_175 (mG_open_openThing _ _) ?_
  refine lv_aload_n hx hb dX5_putsThing_178 rfl (lv_at hl 0 rfl) ?_
  refine gm_X5_sorts G hP dX5_putsThing_179 ?_
  refine lv_iload_n hx hb dX5_putsThing_182 rfl (lv_at hl 1 rfl) ?_
  obtain ⟨hi25, hf⟩ := ck_some hf
  refine lm_sorts (f := (mf_sorts x23)) G hP hi25 dX5_putsThing_183 (mG_sorts_openThing _ _) ?_
  refine lv_iconst (v := (5 : Int32)) hx hb dX5_putsThing_184 (by decide) ?_
  refine lv_icmp_ne (tgt := 201) hx hb dX5_putsThing_185 (by decide) (fun c26 => ?_) (fun c26 => ?_)
  · have hf := (if_neg c26).symm.trans hf
    refine lv_aload_n hx hb dX5_putsThing_201 rfl (lv_at hl 0 rfl) ?_
    refine gm_X5_numbers G hP dX5_putsThing_202 ?_
    refine lv_iload_n hx hb dX5_putsThing_205 rfl (lv_at hl 1 rfl) ?_
    obtain ⟨hi27, hf⟩ := ck_some hf
    refine lm_numbers (f := (mf_numbers x23)) G hP hi27 dX5_putsThing_206 (mG_numbers_openThing _ _) ?_
    exact W.eq (g2 := F0 m 207 ls [.long ((mf_numbers x23) (a1).toNatClampNeg), .int (mf_open x23), .ref (q 8)]) rfl (mm_putsThing_t207 G (lv_sub hl [0] rfl) hP hD hS hf)
  · have hf := (if_pos c26).symm.trans hf
    refine lv_ldc2 (v := (2 : Int64)) hx hb hown (hT _ wc_X5_210) dX5_putsThing_188 ?_
    refine lv_aload_n hx hb dX5_putsThing_191 rfl (lv_at hl 0 rfl) ?_
    refine gm_X5_numbers G hP dX5_putsThing_192 ?_
    refine lv_iload_n hx hb dX5_putsThing_195 rfl (lv_at hl 1 rfl) ?_
    obtain ⟨hi28, hf⟩ := ck_some hf
    refine lm_numbers (f := (mf_numbers x23)) G hP hi28 dX5_putsThing_196 (mG_numbers_openThing _ _) ?_
    refine lv_lmul hx hb dX5_putsThing_197 ?_
    refine lv_goto (tgt := 207) hx hb dX5_putsThing_198 (by decide) ?_
    exact W.eq (g2 := F0 m 207 ls [.long ((2 : Int64) * ((mf_numbers x23) (a1).toNatClampNeg)), .int (mf_open x23), .ref (q 8)]) rfl (mm_putsThing_t207 G (lv_sub hl [0] rfl) hP hD hS hf)
set_option maxHeartbeats 4000000 in
set_option maxRecDepth 100000 in
theorem mm_putsThing_t139 {p : Program} {l : Launch} {e : Env} {s : State} {m : MethodId} {args : Array Value} {below : List Frame} {meth : Method} {c : Code} {D : va_G} {aK aV : Nat → Nat} {A : Nat → Prop} {cB cI cJ : ClassId} {q : Nat → Nat} {H : Heap} {locs : List Loc} {ls : Array Slot} {ρ : MSt} {a1 : Int32} {σ : MSt} (G : CX p s m args meth c D (gTy cB cI cJ) aK aV A RX5 cX5_putsThing 2 none) (hl : lv_has ls 2 [(0, .ref (q 0)), (1, .int a1)]) (hP : va_P D vwCl (mW cB cI cJ q σ) H) (hD : va_D A (mW cB cI cJ q σ)) (hS : va_S A s.heap H locs) (hf : mm_putsThing_b139 a1 σ = some ρ) : W p l e (rm_mm_putsThing) s m args below meth c H locs 0 0 (MQ below (cQ D (gTy cB cI cJ) A (mW cB cI cJ q ρ) none) args s 0 0 A) (F0 m 139 ls []) := by
  unfold mm_putsThing_b139 at hf
  obtain ⟨hx, hb, hml, hown, hT, hrt, hlk, hK, hA, hG, hE⟩ := id G
  refine lv_aload_n hx hb dX5_putsThing_139 rfl (lv_at hl 0 rfl) ?_
  refine lv_aload_n hx hb dX5_putsThing_140 rfl (lv_at hl 0 rfl) ?_
  refine gm_X5_sorts G hP dX5_putsThing_141 ?_
  refine lv_iload_n hx hb dX5_putsThing_144 rfl (lv_at hl 1 rfl) ?_
  obtain ⟨hi20, hf⟩ := ck_some hf
  refine lm_sorts (f := (mf_sorts σ)) G hP hi20 dX5_putsThing_145 rfl ?_
  refine lv_iconst (v := (5 : Int32)) hx hb dX5_putsThing_146 (by decide) ?_
  refine lv_icmp_ne (tgt := 155) hx hb dX5_putsThing_147 (by decide) (fun c21 => ?_) (fun c21 => ?_)
  · have hf := (if_neg c21).symm.trans hf
    refine lv_bipush (v := (91 : Int32)) hx hb dX5_putsThing_155 (by decide) ?_
    exact W.eq (g2 := F0 m 157 ls [.int (91 : Int32), .ref (q 0)]) rfl (mm_putsThing_t157 G (lv_sub hl [0, 1] rfl) hP hD hS hf)
  · have hf := (if_pos c21).symm.trans hf
    refine lv_bipush (v := (123 : Int32)) hx hb dX5_putsThing_150 (by decide) ?_
    refine lv_goto (tgt := 157) hx hb dX5_putsThing_152 (by decide) ?_
    exact W.eq (g2 := F0 m 157 ls [.int (123 : Int32), .ref (q 0)]) rfl (mm_putsThing_t157 G (lv_sub hl [0, 1] rfl) hP hD hS hf)
set_option maxHeartbeats 4000000 in
set_option maxRecDepth 100000 in
theorem mm_putsThing_t133 {p : Program} {l : Launch} {e : Env} {s : State} {m : MethodId} {args : Array Value} {below : List Frame} {meth : Method} {c : Code} {D : va_G} {aK aV : Nat → Nat} {A : Nat → Prop} {cB cI cJ : ClassId} {q : Nat → Nat} {H : Heap} {locs : List Loc} {ls : Array Slot} {ρ : MSt} {σ : MSt} (G : CX p s m args meth c D (gTy cB cI cJ) aK aV A RX5 cX5_putsThing 2 none) (hl : lv_has ls 2 []) (hP : va_P D vwCl (mW cB cI cJ q σ) H) (hD : va_D A (mW cB cI cJ q σ)) (hS : va_S A s.heap H locs) (hf : mm_putsThing_b133 σ = some ρ) : W p l e (rm_mm_putsThing) s m args below meth c H locs 0 0 (MQ below (cQ D (gTy cB cI cJ) A (mW cB cI cJ q ρ) none) args s 0 0 A) (F0 m 133 ls [.ref (aK 2), .ref (q 0)]) := by
  unfold mm_putsThing_b133 at hf
  obtain ⟨hx, hb, hml, hown, hT, hrt, hlk, hK, hA, hG, hE⟩ := id G
  obtain ⟨x22, hx22, hf⟩ := bd_some hf
  refine vM (As := [.ref (aK 2)]) (rest := []) G kX5_234 (c_mm_putsWord (by decide) hx22) hP hD hS ⟨rfl, rfl, Nat.le_of_ble_eq_true rfl, Nat.le_of_ble_eq_true rfl⟩ ⟨Nat.zero_le _, Nat.zero_le _⟩ rfl hl.1 (Nat.le_of_ble_eq_true rfl) dX5_putsThing_133 (fun H locs hP hD hS => ?_)
  refine W.eq (g2 := F0 m 136 ls []) rfl ?_
  refine lv_goto (tgt := 218) hx hb dX5_putsThing_136 (by decide) ?_
  cases hf
  exact ct_vret G hP hD hS dX5_putsThing_218
set_option maxHeartbeats 4000000 in
set_option maxRecDepth 100000 in
theorem mm_putsThing_t0e {p : Program} {l : Launch} {e : Env} {s : State} {m : MethodId} {args : Array Value} {below : List Frame} {meth : Method} {c : Code} {D : va_G} {aK aV : Nat → Nat} {A : Nat → Prop} {cB cI cJ : ClassId} {q : Nat → Nat} {H : Heap} {locs : List Loc} {ls : Array Slot} {ρ : MSt} {p0 : Int32} {σ : MSt} (G : CX p s m args meth c D (gTy cB cI cJ) aK aV A RX5 cX5_putsThing 2 none) (hl : lv_has ls 2 [(0, .ref (q 0)), (1, .int p0)]) (hP : va_P D vwCl (mW cB cI cJ q σ) H) (hD : va_D A (mW cB cI cJ q σ)) (hS : va_S A s.heap H locs) (hf : mm_putsThing p0 σ = some ρ) : W p l e (rm_mm_putsThing) s m args below meth c H locs 0 0 (MQ below (cQ D (gTy cB cI cJ) A (mW cB cI cJ q ρ) none) args s 0 0 A) (F0 m 0 ls []) := by
  unfold mm_putsThing at hf
  obtain ⟨hx, hb, hml, hown, hT, hrt, hlk, hK, hA, hG, hE⟩ := id G
  refine lv_aload_n hx hb dX5_putsThing_0 rfl (lv_at hl 0 rfl) ?_
  refine gm_X5_sorts G hP dX5_putsThing_1 ?_
  refine lv_iload_n hx hb dX5_putsThing_4 rfl (lv_at hl 1 rfl) ?_
  obtain ⟨hi1, hf⟩ := ck_some hf
  refine lm_sorts (f := (mf_sorts σ)) G hP hi1 dX5_putsThing_5 rfl ?_
  by_cases c2 : ((mf_sorts σ) (p0).toNatClampNeg) = (0 : Int32)
  · have hf := (if_pos c2).symm.trans hf
    refine lv_tableIn (off := 46) (tgt := 52) hx hb dX5_putsThing_6 (by rw [c2]; decide) (by rw [c2]; decide) (by rw [c2]; rfl) (by decide) ?_
    refine lv_aload_n hx hb dX5_putsThing_52 rfl (lv_at hl 0 rfl) ?_
    refine lv_aload_n hx hb dX5_putsThing_53 rfl (lv_at hl 0 rfl) ?_
    refine gm_X5_numbers G hP dX5_putsThing_54 ?_
    refine lv_iload_n hx hb dX5_putsThing_57 rfl (lv_at hl 1 rfl) ?_
    obtain ⟨hi3, hf⟩ := ck_some hf
    refine lm_numbers (f := (mf_numbers σ)) G hP hi3 dX5_putsThing_58 rfl ?_
    refine lv_iconst (v := (0 : Int32)) hx hb dX5_putsThing_59 (by decide) ?_
    obtain ⟨x4, hx4, hf⟩ := bd_some hf
    refine vM (As := [.long ((mf_numbers σ) (p0).toNatClampNeg), .int (0 : Int32)]) (rest := []) G kX5_245 (c_mm_putsNumber hx4) hP hD hS ⟨rfl, rfl, Nat.le_of_ble_eq_true rfl, Nat.le_of_ble_eq_true rfl⟩ ⟨Nat.zero_le _, Nat.zero_le _⟩ rfl hl.1 (Nat.le_of_ble_eq_true rfl) dX5_putsThing_60 (fun H locs hP hD hS => ?_)
    refine W.eq (g2 := F0 m 63 ls []) rfl ?_
    refine lv_goto (tgt := 218) hx hb dX5_putsThing_63 (by decide) ?_
    cases hf
    exact ct_vret G hP hD hS dX5_putsThing_218
  · have hf := (if_neg c2).symm.trans hf
    by_cases c5 : ((mf_sorts σ) (p0).toNatClampNeg) = (1 : Int32)
    · have hf := (if_pos c5).symm.trans hf
      refine lv_tableIn (off := 60) (tgt := 66) hx hb dX5_putsThing_6 (by rw [c5]; decide) (by rw [c5]; decide) (by rw [c5]; rfl) (by decide) ?_
      refine lv_aload_n hx hb dX5_putsThing_66 rfl (lv_at hl 0 rfl) ?_
      refine lv_bipush (v := (45 : Int32)) hx hb dX5_putsThing_67 (by decide) ?_
      obtain ⟨x6, hx6, hf⟩ := bd_some hf
      refine vM (As := [.int (45 : Int32)]) (rest := []) G kX5_219 (c_mm_put hx6) hP hD hS ⟨rfl, rfl, Nat.le_of_ble_eq_true rfl, Nat.le_of_ble_eq_true rfl⟩ ⟨Nat.zero_le _, Nat.zero_le _⟩ rfl hl.1 (Nat.le_of_ble_eq_true rfl) dX5_putsThing_69 (fun H locs hP hD hS => ?_)
      refine W.eq (g2 := F0 m 72 ls []) rfl ?_
      refine lv_aload_n hx hb dX5_putsThing_72 rfl (lv_at hl 0 rfl) ?_
      refine lv_aload_n hx hb dX5_putsThing_73 rfl (lv_at hl 0 rfl) ?_
      refine gm_X5_numbers G hP dX5_putsThing_74 ?_
      refine lv_iload_n hx hb dX5_putsThing_77 rfl (lv_at hl 1 rfl) ?_
      obtain ⟨hi7, hf⟩ := ck_some hf
      refine lm_numbers (f := (mf_numbers x6)) G hP hi7 dX5_putsThing_78 rfl ?_
      refine lv_iconst (v := (1 : Int32)) hx hb dX5_putsThing_79 (by decide) ?_
      obtain ⟨x8, hx8, hf⟩ := bd_some hf
      refine vM (As := [.long ((mf_numbers x6) (p0).toNatClampNeg), .int (1 : Int32)]) (rest := []) G kX5_245 (c_mm_putsNumber hx8) hP hD hS ⟨rfl, rfl, Nat.le_of_ble_eq_true rfl, Nat.le_of_ble_eq_true rfl⟩ ⟨Nat.zero_le _, Nat.zero_le _⟩ rfl hl.1 (Nat.le_of_ble_eq_true rfl) dX5_putsThing_80 (fun H locs hP hD hS => ?_)
      refine W.eq (g2 := F0 m 83 ls []) rfl ?_
      refine lv_goto (tgt := 218) hx hb dX5_putsThing_83 (by decide) ?_
      cases hf
      exact ct_vret G hP hD hS dX5_putsThing_218
    · have hf := (if_neg c5).symm.trans hf
      by_cases c9 : ((mf_sorts σ) (p0).toNatClampNeg) = (2 : Int32)
      · have hf := (if_pos c9).symm.trans hf
        refine lv_tableIn (off := 133) (tgt := 139) hx hb dX5_putsThing_6 (by rw [c9]; decide) (by rw [c9]; decide) (by rw [c9]; rfl) (by decide) ?_
        exact W.eq (g2 := F0 m 139 ls []) rfl (mm_putsThing_t139 G (lv_sub hl [0, 1] rfl) hP hD hS hf)
      · have hf := (if_neg c9).symm.trans hf
        by_cases c10 : ((mf_sorts σ) (p0).toNatClampNeg) = (3 : Int32)
        · have hf := (if_pos c10).symm.trans hf
          refine lv_tableIn (off := 80) (tgt := 86) hx hb dX5_putsThing_6 (by rw [c10]; decide) (by rw [c10]; decide) (by rw [c10]; rfl) (by decide) ?_
          refine lv_aload_n hx hb dX5_putsThing_86 rfl (lv_at hl 0 rfl) ?_
          refine lv_iload_n hx hb dX5_putsThing_87 rfl (lv_at hl 1 rfl) ?_
          obtain ⟨x11, hx11, hf⟩ := bd_some hf
          refine vM (As := [.int p0]) (rest := []) G kX5_249 (c_mm_putsString hx11) hP hD hS ⟨rfl, rfl, Nat.le_of_ble_eq_true rfl, Nat.le_of_ble_eq_true rfl⟩ ⟨Nat.zero_le _, Nat.zero_le _⟩ rfl hl.1 (Nat.le_of_ble_eq_true rfl) dX5_putsThing_88 (fun H locs hP hD hS => ?_)
          refine W.eq (g2 := F0 m 91 ls []) rfl ?_
          refine lv_goto (tgt := 218) hx hb dX5_putsThing_91 (by decide) ?_
          cases hf
          exact ct_vret G hP hD hS dX5_putsThing_218
        · have hf := (if_neg c10).symm.trans hf
          by_cases c12 : ((mf_sorts σ) (p0).toNatClampNeg) = (4 : Int32)
          · have hf := (if_pos c12).symm.trans hf
            refine lv_tableIn (off := 133) (tgt := 139) hx hb dX5_putsThing_6 (by rw [c12]; decide) (by rw [c12]; decide) (by rw [c12]; rfl) (by decide) ?_
            exact W.eq (g2 := F0 m 139 ls []) rfl (mm_putsThing_t139 G (lv_sub hl [0, 1] rfl) hP hD hS hf)
          · have hf := (if_neg c12).symm.trans hf
            by_cases c13 : ((mf_sorts σ) (p0).toNatClampNeg) = (5 : Int32)
            · have hf := (if_pos c13).symm.trans hf
              refine lv_tableIn (off := 133) (tgt := 139) hx hb dX5_putsThing_6 (by rw [c13]; decide) (by rw [c13]; decide) (by rw [c13]; rfl) (by decide) ?_
              exact W.eq (g2 := F0 m 139 ls []) rfl (mm_putsThing_t139 G (lv_sub hl [0, 1] rfl) hP hD hS hf)
            · have hf := (if_neg c13).symm.trans hf
              by_cases c14 : ((mf_sorts σ) (p0).toNatClampNeg) = (6 : Int32)
              · have hf := (if_pos c14).symm.trans hf
                refine lv_tableIn (off := 133) (tgt := 139) hx hb dX5_putsThing_6 (by rw [c14]; decide) (by rw [c14]; decide) (by rw [c14]; rfl) (by decide) ?_
                exact W.eq (g2 := F0 m 139 ls []) rfl (mm_putsThing_t139 G (lv_sub hl [0, 1] rfl) hP hD hS hf)
              · have hf := (if_neg c14).symm.trans hf
                by_cases c15 : ((mf_sorts σ) (p0).toNatClampNeg) = (7 : Int32)
                · have hf := (if_pos c15).symm.trans hf
                  refine lv_tableIn (off := 88) (tgt := 94) hx hb dX5_putsThing_6 (by rw [c15]; decide) (by rw [c15]; decide) (by rw [c15]; rfl) (by decide) ?_
                  refine lv_aload_n hx hb dX5_putsThing_94 rfl (lv_at hl 0 rfl) ?_
                  refine lv_aload_n hx hb dX5_putsThing_95 rfl (lv_at hl 0 rfl) ?_
                  refine gm_X5_numbers G hP dX5_putsThing_96 ?_
                  refine lv_iload_n hx hb dX5_putsThing_99 rfl (lv_at hl 1 rfl) ?_
                  obtain ⟨hi16, hf⟩ := ck_some hf
                  refine lm_numbers (f := (mf_numbers σ)) G hP hi16 dX5_putsThing_100 rfl ?_
                  refine lv_ldc2 (v := (20 : Int64)) hx hb hown (hT _ wc_X5_252) dX5_putsThing_101 ?_
                  refine W.lcmp hx hb dX5_putsThing_104 ?_
                  refine lv_if_ne (tgt := 113) hx hb dX5_putsThing_105 (by decide) (fun c17 => ?_) (fun c17 => ?_)
                  · have hf := (if_neg (fun z => c17 ((lg_cmp_eq _ _).mpr z))).symm.trans hf
                    refine lv_aload_n hx hb dX5_putsThing_113 rfl (lv_at hl 0 rfl) ?_
                    refine gm_X5_numbers G hP dX5_putsThing_114 ?_
                    refine lv_iload_n hx hb dX5_putsThing_117 rfl (lv_at hl 1 rfl) ?_
                    obtain ⟨hi18, hf⟩ := ck_some hf
                    refine lm_numbers (f := (mf_numbers σ)) G hP hi18 dX5_putsThing_118 rfl ?_
                    refine lv_ldc2 (v := (21 : Int64)) hx hb hown (hT _ wc_X5_254) dX5_putsThing_119 ?_
                    refine W.lcmp hx hb dX5_putsThing_122 ?_
                    refine lv_if_ne (tgt := 131) hx hb dX5_putsThing_123 (by decide) (fun c19 => ?_) (fun c19 => ?_)
                    · have hf := (if_neg (fun z => c19 ((lg_cmp_eq _ _).mpr z))).symm.trans hf
                      refine va_ldcS hx hb hown (hG.1 _ (List.mem_of_getElem? (i := 9) rfl)) dX5_putsThing_131 ?_
                      exact W.eq (g2 := F0 m 133 ls [.ref (aK 2), .ref (q 0)]) rfl (mm_putsThing_t133 G (lv_sub hl [] rfl) hP hD hS hf)
                    · have hf := (if_pos ((lg_cmp_eq _ _).mp c19)).symm.trans hf
                      refine va_ldcS hx hb hown (hG.1 _ (List.mem_of_getElem? (i := 8) rfl)) dX5_putsThing_126 ?_
                      refine lv_goto (tgt := 133) hx hb dX5_putsThing_128 (by decide) ?_
                      exact W.eq (g2 := F0 m 133 ls [.ref (aK 1), .ref (q 0)]) rfl (mm_putsThing_t133 G (lv_sub hl [] rfl) hP hD hS hf)
                  · have hf := (if_pos ((lg_cmp_eq _ _).mp c17)).symm.trans hf
                    refine va_ldcS hx hb hown (hG.1 _ (List.mem_of_getElem? (i := 7) rfl)) dX5_putsThing_108 ?_
                    refine lv_goto (tgt := 133) hx hb dX5_putsThing_110 (by decide) ?_
                    exact W.eq (g2 := F0 m 133 ls [.ref (aK 0), .ref (q 0)]) rfl (mm_putsThing_t133 G (lv_sub hl [] rfl) hP hD hS hf)
                · have hf := (if_neg c15).symm.trans hf
                  have nc2 := sw_n c2 (by decide : ((0 : Int32)).toInt = 0)
                  have nc5 := sw_n c5 (by decide : ((1 : Int32)).toInt = 1)
                  have nc9 := sw_n c9 (by decide : ((2 : Int32)).toInt = 2)
                  have nc10 := sw_n c10 (by decide : ((3 : Int32)).toInt = 3)
                  have nc12 := sw_n c12 (by decide : ((4 : Int32)).toInt = 4)
                  have nc13 := sw_n c13 (by decide : ((5 : Int32)).toInt = 5)
                  have nc14 := sw_n c14 (by decide : ((6 : Int32)).toInt = 6)
                  have nc15 := sw_n c15 (by decide : ((7 : Int32)).toInt = 7)
                  refine lv_tableOut (tgt := 139) hx hb dX5_putsThing_6 (by omega) (by decide) ?_
                  exact W.eq (g2 := F0 m 139 ls []) rfl (mm_putsThing_t139 G (lv_sub hl [0, 1] rfl) hP hD hS hf)
set_option maxHeartbeats 4000000 in
set_option maxRecDepth 100000 in
theorem c_mm_putsThing {l : Launch} {D : va_G} {aK aV : Nat → Nat} {cB cI cJ : ClassId} {q : Nat → Nat} {ρ : MSt} {p0 : Int32} {σ : MSt} (hf : mm_putsThing p0 σ = some ρ) : CT l D (gTy cB cI cJ) aK aV yX5_putsThing (wM yX5_putsThing cX5_putsThing 2 none) (rm_mm_putsThing) 0 0 [.ref (q 0), .int p0] (mW cB cI cJ q σ) none (mW cB cI cJ q ρ) := by
  refine CT.of (by decide) rfl ?_
  intro p e s m below meth c A G hnm hP hD hS
  have hl := lv_entry [.ref (q 0), .int p0] (n := 2) (Nat.le_of_ble_eq_true rfl)
  rw [lg_entry_eq]
  generalize (lg_sl [.ref (q 0), .int p0] ++ List.replicate (2 - (lg_sl [.ref (q 0), .int p0]).length) Slot.unset).toArray = ls at hl ⊢
  exact mm_putsThing_t0e G hl hP hD hS hf
def mm_writesJson_b233 (k12 : Int32 → MSt → Option (Int32 × MSt)) (k174 : Int32 → MSt → Option (Int32 × MSt)) (a1 : Int32) (s0 : Int32) (σ : MSt) : Option (Int32 × MSt) := bd (mm_put s0 σ) (fun (x24 : MSt) => k174 a1 x24)
def mm_writesJson_b174 (k12 : Int32 → MSt → Option (Int32 × MSt)) (k174 : Int32 → MSt → Option (Int32 × MSt)) (a1 : Int32) (σ : MSt) : Option (Int32 × MSt) := (if (mf_open σ) ≤ 0 then lt (a1 + (1 : Int32)) (fun (v13 : Int32) => k12 v13 σ) else ck ((mf_open σ) - (1 : Int32)) 64 ((if ((mf_openLeft σ) (((mf_open σ) - (1 : Int32))).toNatClampNeg) = (0 : Int64) then ck ((mf_open σ) - (1 : Int32)) 64 (ck ((mf_openThing σ) (((mf_open σ) - (1 : Int32))).toNatClampNeg) 4200 ((if ((mf_sorts σ) (((mf_openThing σ) (((mf_open σ) - (1 : Int32))).toNatClampNeg)).toNatClampNeg) = (5 : Int32) then mm_writesJson_b233 k12 k174 a1 (125 : Int32) (ms_open σ ((mf_open σ) - (1 : Int32))) else mm_writesJson_b233 k12 k174 a1 (93 : Int32) (ms_open σ ((mf_open σ) - (1 : Int32)))))) else lt (a1 + (1 : Int32)) (fun (v16 : Int32) => k12 v16 σ))))
def mm_writesJson_L174 (k12 : Int32 → MSt → Option (Int32 × MSt)) : Nat → Int32 → MSt → Option (Int32 × MSt)
  | 0, _, _ => none
  | n + 1, a1, σ => mm_writesJson_b174 k12 (mm_writesJson_L174 k12 n) a1 σ
def mm_writesJson_b169 (k12 : Int32 → MSt → Option (Int32 × MSt)) (a1 : Int32) (σ : MSt) : Option (Int32 × MSt) := bd (mm_putsThing a1 σ) (fun (x8 : MSt) => mm_writesJson_L174 k12 FU a1 x8)
def mm_writesJson_b154 (k12 : Int32 → MSt → Option (Int32 × MSt)) (a1 : Int32) (σ : MSt) : Option (Int32 × MSt) := ck ((mf_open σ) - (1 : Int32)) 64 (ck ((mf_open σ) - (1 : Int32)) 64 (mm_writesJson_b169 k12 a1 (ms_openLeft σ (vp_updL (mf_openLeft σ) (((mf_open σ) - (1 : Int32))).toNatClampNeg (((mf_openLeft σ) (((mf_open σ) - (1 : Int32))).toNatClampNeg) - (1 : Int64))))))
def mm_writesJson_b127 (k12 : Int32 → MSt → Option (Int32 × MSt)) (a1 : Int32) (a4 : Int32) (s0 : Int32) (σ : MSt) : Option (Int32 × MSt) := (if a4 = 0 then (if s0 = 0 then bd (mm_put (44 : Int32) σ) (fun (x28 : MSt) => mm_writesJson_b154 k12 a1 x28) else mm_writesJson_b154 k12 a1 σ) else bd (mm_put (58 : Int32) σ) (fun (x29 : MSt) => mm_writesJson_b154 k12 a1 x29))
def mm_writesJson_b118 (k12 : Int32 → MSt → Option (Int32 × MSt)) (a1 : Int32) (a4 : Int32) (s0 : Int64) (s1 : Int64) (σ : MSt) : Option (Int32 × MSt) := (if s1 = s0 then mm_writesJson_b127 k12 a1 a4 (1 : Int32) σ else mm_writesJson_b127 k12 a1 a4 (0 : Int32) σ)
def mm_writesJson_b82 (k12 : Int32 → MSt → Option (Int32 × MSt)) (a1 : Int32) (a2 : Int32) (a3 : Int32) (s0 : Int32) (σ : MSt) : Option (Int32 × MSt) := ck ((mf_open σ) - (1 : Int32)) 64 ((if a3 = 0 then ck a2 4200 (mm_writesJson_b118 k12 a1 s0 ((mf_numbers σ) (a2).toNatClampNeg) ((mf_openLeft σ) (((mf_open σ) - (1 : Int32))).toNatClampNeg) σ) else ck a2 4200 (mm_writesJson_b118 k12 a1 s0 ((2 : Int64) * ((mf_numbers σ) (a2).toNatClampNeg)) ((mf_openLeft σ) (((mf_open σ) - (1 : Int32))).toNatClampNeg) σ)))
def mm_writesJson_b54 (k12 : Int32 → MSt → Option (Int32 × MSt)) (a1 : Int32) (a2 : Int32) (s0 : Int32) (σ : MSt) : Option (Int32 × MSt) := (if s0 = 0 then mm_writesJson_b82 k12 a1 a2 s0 (0 : Int32) σ else ck ((mf_open σ) - (1 : Int32)) 64 ((if (((mf_openLeft σ) (((mf_open σ) - (1 : Int32))).toNatClampNeg) &&& (1 : Int64)) = (1 : Int64) then mm_writesJson_b82 k12 a1 a2 s0 (1 : Int32) σ else mm_writesJson_b82 k12 a1 a2 s0 (0 : Int32) σ)))
def mm_writesJson_b12 (k12 : Int32 → MSt → Option (Int32 × MSt)) (a1 : Int32) (σ : MSt) : Option (Int32 × MSt) := (if (mf_things σ) ≤ a1 then bd (mm_ends  σ) (fun (x2 : Int32 × MSt) => some (x2.1, x2.2)) else (if (mf_open σ) ≤ 0 then mm_writesJson_b169 k12 a1 σ else ck ((mf_open σ) - (1 : Int32)) 64 (lt ((mf_openThing σ) (((mf_open σ) - (1 : Int32))).toNatClampNeg) (fun (v5 : Int32) => ck v5 4200 ((if ((mf_sorts σ) (v5).toNatClampNeg) = (5 : Int32) then mm_writesJson_b54 k12 a1 v5 (1 : Int32) σ else mm_writesJson_b54 k12 a1 v5 (0 : Int32) σ))))))
def mm_writesJson_L12 : Nat → Int32 → MSt → Option (Int32 × MSt)
  | 0, _, _ => none
  | n + 1, a1, σ => mm_writesJson_b12 (mm_writesJson_L12 n) a1 σ
def mm_writesJson (σ : MSt) : Option (Int32 × MSt) := mm_writesJson_L12 FU (0 : Int32) (ms_open (ms_freshMany σ (0 : Int32)) (0 : Int32))
abbrev rm_mm_writesJson : Room := { frames := 7, cells := 0, slots := 0, locals := 156 }
set_option maxHeartbeats 4000000 in
set_option maxRecDepth 100000 in
theorem mm_writesJson_t233 {p : Program} {l : Launch} {e : Env} {s : State} {m : MethodId} {args : Array Value} {below : List Frame} {meth : Method} {c : Code} {D : va_G} {aK aV : Nat → Nat} {A : Nat → Prop} {cB cI cJ : ClassId} {q : Nat → Nat} {H : Heap} {locs : List Loc} {ls : Array Slot} {ρ : Int32 × MSt} {k12 : Int32 → MSt → Option (Int32 × MSt)} {k174 : Int32 → MSt → Option (Int32 × MSt)} {a1 : Int32} {s0 : Int32} {σ : MSt} (G : CX p s m args meth c D (gTy cB cI cJ) aK aV A RX5 cX5_writesJson 6 (some .int)) (hk12 : ∀ (a1 : Int32) (σ : MSt) (H : Heap) (locs : List Loc) (ls : Array Slot), lv_has ls 6 [(0, .ref (q 0)), (1, .int a1)] → va_P D vwCl (mW cB cI cJ q σ) H → va_D A (mW cB cI cJ q σ) → va_S A s.heap H locs → k12 a1 σ = some ρ → W p l e (rm_mm_writesJson) s m args below meth c H locs 0 0 (MQ below (cQ D (gTy cB cI cJ) A (mW cB cI cJ q ρ.2) (some (.int ρ.1))) args s 0 0 A) (F0 m 12 ls [])) (hk174 : ∀ (a1 : Int32) (σ : MSt) (H : Heap) (locs : List Loc) (ls : Array Slot), lv_has ls 6 [(0, .ref (q 0)), (1, .int a1)] → va_P D vwCl (mW cB cI cJ q σ) H → va_D A (mW cB cI cJ q σ) → va_S A s.heap H locs → k174 a1 σ = some ρ → W p l e (rm_mm_writesJson) s m args below meth c H locs 0 0 (MQ below (cQ D (gTy cB cI cJ) A (mW cB cI cJ q ρ.2) (some (.int ρ.1))) args s 0 0 A) (F0 m 174 ls [])) (hl : lv_has ls 6 [(0, .ref (q 0)), (1, .int a1)]) (hP : va_P D vwCl (mW cB cI cJ q σ) H) (hD : va_D A (mW cB cI cJ q σ)) (hS : va_S A s.heap H locs) (hf : mm_writesJson_b233 k12 k174 a1 s0 σ = some ρ) : W p l e (rm_mm_writesJson) s m args below meth c H locs 0 0 (MQ below (cQ D (gTy cB cI cJ) A (mW cB cI cJ q ρ.2) (some (.int ρ.1))) args s 0 0 A) (F0 m 233 ls [.int s0, .ref (q 0)]) := by
  unfold mm_writesJson_b233 at hf
  obtain ⟨hx, hb, hml, hown, hT, hrt, hlk, hK, hA, hG, hE⟩ := id G
  obtain ⟨x24, hx24, hf⟩ := bd_some hf
  refine vM (As := [.int s0]) (rest := []) G kX5_219 (c_mm_put hx24) hP hD hS ⟨rfl, rfl, Nat.le_of_ble_eq_true rfl, Nat.le_of_ble_eq_true rfl⟩ ⟨Nat.zero_le _, Nat.zero_le _⟩ rfl hl.1 (Nat.le_of_ble_eq_true rfl) dX5_writesJson_233 (fun H locs hP hD hS => ?_)
  refine W.eq (g2 := F0 m 236 ls []) rfl ?_
  refine lv_goto (tgt := 174) hx hb dX5_writesJson_236 (by decide) ?_
  exact W.eq (g2 := F0 m 174 ls []) rfl (hk174 _ _ _ _ _ (lv_sub hl [0, 1] rfl) hP hD hS hf)
set_option maxHeartbeats 4000000 in
set_option maxRecDepth 100000 in
theorem mm_writesJson_t174 {p : Program} {l : Launch} {e : Env} {s : State} {m : MethodId} {args : Array Value} {below : List Frame} {meth : Method} {c : Code} {D : va_G} {aK aV : Nat → Nat} {A : Nat → Prop} {cB cI cJ : ClassId} {q : Nat → Nat} {H : Heap} {locs : List Loc} {ls : Array Slot} {ρ : Int32 × MSt} {k12 : Int32 → MSt → Option (Int32 × MSt)} {k174 : Int32 → MSt → Option (Int32 × MSt)} {a1 : Int32} {σ : MSt} (G : CX p s m args meth c D (gTy cB cI cJ) aK aV A RX5 cX5_writesJson 6 (some .int)) (hk12 : ∀ (a1 : Int32) (σ : MSt) (H : Heap) (locs : List Loc) (ls : Array Slot), lv_has ls 6 [(0, .ref (q 0)), (1, .int a1)] → va_P D vwCl (mW cB cI cJ q σ) H → va_D A (mW cB cI cJ q σ) → va_S A s.heap H locs → k12 a1 σ = some ρ → W p l e (rm_mm_writesJson) s m args below meth c H locs 0 0 (MQ below (cQ D (gTy cB cI cJ) A (mW cB cI cJ q ρ.2) (some (.int ρ.1))) args s 0 0 A) (F0 m 12 ls [])) (hk174 : ∀ (a1 : Int32) (σ : MSt) (H : Heap) (locs : List Loc) (ls : Array Slot), lv_has ls 6 [(0, .ref (q 0)), (1, .int a1)] → va_P D vwCl (mW cB cI cJ q σ) H → va_D A (mW cB cI cJ q σ) → va_S A s.heap H locs → k174 a1 σ = some ρ → W p l e (rm_mm_writesJson) s m args below meth c H locs 0 0 (MQ below (cQ D (gTy cB cI cJ) A (mW cB cI cJ q ρ.2) (some (.int ρ.1))) args s 0 0 A) (F0 m 174 ls [])) (hl : lv_has ls 6 [(0, .ref (q 0)), (1, .int a1)]) (hP : va_P D vwCl (mW cB cI cJ q σ) H) (hD : va_D A (mW cB cI cJ q σ)) (hS : va_S A s.heap H locs) (hf : mm_writesJson_b174 k12 k174 a1 σ = some ρ) : W p l e (rm_mm_writesJson) s m args below meth c H locs 0 0 (MQ below (cQ D (gTy cB cI cJ) A (mW cB cI cJ q ρ.2) (some (.int ρ.1))) args s 0 0 A) (F0 m 174 ls []) := by
  unfold mm_writesJson_b174 at hf
  obtain ⟨hx, hb, hml, hown, hT, hrt, hlk, hK, hA, hG, hE⟩ := id G
  refine lv_aload_n hx hb dX5_writesJson_174 rfl (lv_at hl 0 rfl) ?_
  refine gm_X5_open (v := (mf_open σ)) G hP dX5_writesJson_175 rfl ?_
  refine lv_if_le (tgt := 239) hx hb dX5_writesJson_178 (by decide) (fun c12 => ?_) (fun c12 => ?_)
  · have hf := (if_pos c12).symm.trans hf
    obtain ⟨v13, ev13⟩ : ∃ y : Int32, y = (a1 + (1 : Int32)) := ⟨_, rfl⟩
    have hf := lt_eq hf ev13
    refine lv_iinc (v := v13) (lv' := [(1, .int v13), (0, .ref (q 0))]) hx hb dX5_writesJson_239 hl (k := 1) rfl (by rw [ev13]; rfl) (by decide) rfl (fun ls hl => ?_)
    refine lv_goto (tgt := 12) hx hb dX5_writesJson_242 (by decide) ?_
    exact W.eq (g2 := F0 m 12 ls []) rfl (hk12 _ _ _ _ _ (lv_sub hl [1, 0] rfl) hP hD hS hf)
  · have hf := (if_neg c12).symm.trans hf
    refine lv_aload_n hx hb dX5_writesJson_181 rfl (lv_at hl 0 rfl) ?_
    refine gm_X5_openLeft G hP dX5_writesJson_182 ?_
    refine lv_aload_n hx hb dX5_writesJson_185 rfl (lv_at hl 0 rfl) ?_
    refine gm_X5_open (v := (mf_open σ)) G hP dX5_writesJson_186 rfl ?_
    refine lv_iconst (v := (1 : Int32)) hx hb dX5_writesJson_189 (by decide) ?_
    refine lv_isub hx hb dX5_writesJson_190 ?_
    obtain ⟨hi14, hf⟩ := ck_some hf
    refine lm_openLeft (f := (mf_openLeft σ)) G hP hi14 dX5_writesJson_191 rfl ?_
    refine lv_lconst (v := (0 : Int64)) hx hb dX5_writesJson_192 (by decide) ?_
    refine W.lcmp hx hb dX5_writesJson_193 ?_
    refine lv_if_ne (tgt := 239) hx hb dX5_writesJson_194 (by decide) (fun c15 => ?_) (fun c15 => ?_)
    · have hf := (if_neg (fun z => c15 ((lg_cmp_eq _ _).mpr z))).symm.trans hf
      obtain ⟨v16, ev16⟩ : ∃ y : Int32, y = (a1 + (1 : Int32)) := ⟨_, rfl⟩
      have hf := lt_eq hf ev16
      refine lv_iinc (v := v16) (lv' := [(1, .int v16), (0, .ref (q 0))]) hx hb dX5_writesJson_239 hl (k := 1) rfl (by rw [ev16]; rfl) (by decide) rfl (fun ls hl => ?_)
      refine lv_goto (tgt := 12) hx hb dX5_writesJson_242 (by decide) ?_
      exact W.eq (g2 := F0 m 12 ls []) rfl (hk12 _ _ _ _ _ (lv_sub hl [1, 0] rfl) hP hD hS hf)
    · have hf := (if_pos ((lg_cmp_eq _ _).mp c15)).symm.trans hf
      refine lv_aload_n hx hb dX5_writesJson_197 rfl (lv_at hl 0 rfl) ?_
      refine lv_dup hx hb dX5_writesJson_198 rfl ?_
      refine gm_X5_open (v := (mf_open σ)) G hP dX5_writesJson_199 rfl ?_
      refine lv_iconst (v := (1 : Int32)) hx hb dX5_writesJson_202 (by decide) ?_
      refine lv_isub hx hb dX5_writesJson_203 ?_
      refine pm_X5_open (v := ((mf_open σ) - (1 : Int32))) G hP hD hS dX5_writesJson_204 (fun H locs hP hD hS => ?_)
      refine lv_aload_n hx hb dX5_writesJson_207 rfl (lv_at hl 0 rfl) ?_
      refine lv_aload_n hx hb dX5_writesJson_208 rfl (lv_at hl 0 rfl) ?_
      refine gm_X5_sorts G hP dX5_writesJson_209 ?_
      refine lv_aload_n hx hb dX5_writesJson_212 rfl (lv_at hl 0 rfl) ?_
      refine gm_X5_openThing G hP dX5_writesJson_213 ?_
      refine lv_aload_n hx hb dX5_writesJson_216 rfl (lv_at hl 0 rfl) ?_
      refine gm_X5_open (v := ((mf_open σ) - (1 : Int32))) G hP dX5_writesJson_217 (mG_open_open _ _) ?_
      obtain ⟨hi17, hf⟩ := ck_some hf
      refine lm_openThing (f := (mf_openThing σ)) G hP hi17 dX5_writesJson_220 (mG_openThing_open _ _) ?_
      obtain ⟨hi18, hf⟩ := ck_some hf
      refine lm_sorts (f := (mf_sorts σ)) G hP hi18 dX5_writesJson_221 (mG_sorts_open _ _) ?_
      refine lv_iconst (v := (5 : Int32)) hx hb dX5_writesJson_222 (by decide) ?_
      refine lv_icmp_ne (tgt := 231) hx hb dX5_writesJson_223 (by decide) (fun c19 => ?_) (fun c19 => ?_)
      · have hf := (if_neg c19).symm.trans hf
        refine lv_bipush (v := (93 : Int32)) hx hb dX5_writesJson_231 (by decide) ?_
        exact W.eq (g2 := F0 m 233 ls [.int (93 : Int32), .ref (q 0)]) rfl (mm_writesJson_t233 G hk12 hk174 (lv_sub hl [0, 1] rfl) hP hD hS hf)
      · have hf := (if_pos c19).symm.trans hf
        refine lv_bipush (v := (125 : Int32)) hx hb dX5_writesJson_226 (by decide) ?_
        refine lv_goto (tgt := 233) hx hb dX5_writesJson_228 (by decide) ?_
        exact W.eq (g2 := F0 m 233 ls [.int (125 : Int32), .ref (q 0)]) rfl (mm_writesJson_t233 G hk12 hk174 (lv_sub hl [0, 1] rfl) hP hD hS hf)
set_option maxHeartbeats 4000000 in
set_option maxRecDepth 100000 in
theorem mm_writesJson_u174 {p : Program} {l : Launch} {e : Env} {s : State} {m : MethodId} {args : Array Value} {below : List Frame} {meth : Method} {c : Code} {D : va_G} {aK aV : Nat → Nat} {A : Nat → Prop} {cB cI cJ : ClassId} {q : Nat → Nat} {ρ : Int32 × MSt} {k12 : Int32 → MSt → Option (Int32 × MSt)} (G : CX p s m args meth c D (gTy cB cI cJ) aK aV A RX5 cX5_writesJson 6 (some .int)) (hk12 : ∀ (a1 : Int32) (σ : MSt) (H : Heap) (locs : List Loc) (ls : Array Slot), lv_has ls 6 [(0, .ref (q 0)), (1, .int a1)] → va_P D vwCl (mW cB cI cJ q σ) H → va_D A (mW cB cI cJ q σ) → va_S A s.heap H locs → k12 a1 σ = some ρ → W p l e (rm_mm_writesJson) s m args below meth c H locs 0 0 (MQ below (cQ D (gTy cB cI cJ) A (mW cB cI cJ q ρ.2) (some (.int ρ.1))) args s 0 0 A) (F0 m 12 ls [])) : ∀ (n : Nat) {a1 : Int32} {σ : MSt} {H : Heap} {locs : List Loc} {ls : Array Slot} (hl : lv_has ls 6 [(0, .ref (q 0)), (1, .int a1)]) (hP : va_P D vwCl (mW cB cI cJ q σ) H) (hD : va_D A (mW cB cI cJ q σ)) (hS : va_S A s.heap H locs) (hf : mm_writesJson_L174 k12 n a1 σ = some ρ), W p l e (rm_mm_writesJson) s m args below meth c H locs 0 0 (MQ below (cQ D (gTy cB cI cJ) A (mW cB cI cJ q ρ.2) (some (.int ρ.1))) args s 0 0 A) (F0 m 174 ls []) := by
  intro n
  induction n with
  | zero =>
    intros
    rename_i hf
    cases hf
  | succ n ih =>
    intro a1 σ H locs ls hl hP hD hS hf
    exact mm_writesJson_t174 G hk12 (fun _ _ H locs ls hl hP hD hS hf => ih hl hP hD hS hf) hl hP hD hS hf
set_option maxHeartbeats 4000000 in
set_option maxRecDepth 100000 in
theorem mm_writesJson_t169 {p : Program} {l : Launch} {e : Env} {s : State} {m : MethodId} {args : Array Value} {below : List Frame} {meth : Method} {c : Code} {D : va_G} {aK aV : Nat → Nat} {A : Nat → Prop} {cB cI cJ : ClassId} {q : Nat → Nat} {H : Heap} {locs : List Loc} {ls : Array Slot} {ρ : Int32 × MSt} {k12 : Int32 → MSt → Option (Int32 × MSt)} {a1 : Int32} {σ : MSt} (G : CX p s m args meth c D (gTy cB cI cJ) aK aV A RX5 cX5_writesJson 6 (some .int)) (hk12 : ∀ (a1 : Int32) (σ : MSt) (H : Heap) (locs : List Loc) (ls : Array Slot), lv_has ls 6 [(0, .ref (q 0)), (1, .int a1)] → va_P D vwCl (mW cB cI cJ q σ) H → va_D A (mW cB cI cJ q σ) → va_S A s.heap H locs → k12 a1 σ = some ρ → W p l e (rm_mm_writesJson) s m args below meth c H locs 0 0 (MQ below (cQ D (gTy cB cI cJ) A (mW cB cI cJ q ρ.2) (some (.int ρ.1))) args s 0 0 A) (F0 m 12 ls [])) (hl : lv_has ls 6 [(0, .ref (q 0)), (1, .int a1)]) (hP : va_P D vwCl (mW cB cI cJ q σ) H) (hD : va_D A (mW cB cI cJ q σ)) (hS : va_S A s.heap H locs) (hf : mm_writesJson_b169 k12 a1 σ = some ρ) : W p l e (rm_mm_writesJson) s m args below meth c H locs 0 0 (MQ below (cQ D (gTy cB cI cJ) A (mW cB cI cJ q ρ.2) (some (.int ρ.1))) args s 0 0 A) (F0 m 169 ls []) := by
  unfold mm_writesJson_b169 at hf
  obtain ⟨hx, hb, hml, hown, hT, hrt, hlk, hK, hA, hG, hE⟩ := id G
  refine lv_aload_n hx hb dX5_writesJson_169 rfl (lv_at hl 0 rfl) ?_
  refine lv_iload_n hx hb dX5_writesJson_170 rfl (lv_at hl 1 rfl) ?_
  obtain ⟨x8, hx8, hf⟩ := bd_some hf
  refine vM (As := [.int a1]) (rest := []) G kX5_256 (c_mm_putsThing hx8) hP hD hS ⟨rfl, rfl, Nat.le_of_ble_eq_true rfl, Nat.le_of_ble_eq_true rfl⟩ ⟨Nat.zero_le _, Nat.zero_le _⟩ rfl hl.1 (Nat.le_of_ble_eq_true rfl) dX5_writesJson_171 (fun H locs hP hD hS => ?_)
  refine W.eq (g2 := F0 m 174 ls []) rfl ?_
  exact W.eq (g2 := F0 m 174 ls []) rfl (mm_writesJson_u174 G hk12 FU (lv_sub hl [0, 1] rfl) hP hD hS hf)
set_option maxHeartbeats 4000000 in
set_option maxRecDepth 100000 in
theorem mm_writesJson_t154 {p : Program} {l : Launch} {e : Env} {s : State} {m : MethodId} {args : Array Value} {below : List Frame} {meth : Method} {c : Code} {D : va_G} {aK aV : Nat → Nat} {A : Nat → Prop} {cB cI cJ : ClassId} {q : Nat → Nat} {H : Heap} {locs : List Loc} {ls : Array Slot} {ρ : Int32 × MSt} {k12 : Int32 → MSt → Option (Int32 × MSt)} {a1 : Int32} {σ : MSt} (G : CX p s m args meth c D (gTy cB cI cJ) aK aV A RX5 cX5_writesJson 6 (some .int)) (hk12 : ∀ (a1 : Int32) (σ : MSt) (H : Heap) (locs : List Loc) (ls : Array Slot), lv_has ls 6 [(0, .ref (q 0)), (1, .int a1)] → va_P D vwCl (mW cB cI cJ q σ) H → va_D A (mW cB cI cJ q σ) → va_S A s.heap H locs → k12 a1 σ = some ρ → W p l e (rm_mm_writesJson) s m args below meth c H locs 0 0 (MQ below (cQ D (gTy cB cI cJ) A (mW cB cI cJ q ρ.2) (some (.int ρ.1))) args s 0 0 A) (F0 m 12 ls [])) (hl : lv_has ls 6 [(0, .ref (q 0)), (1, .int a1)]) (hP : va_P D vwCl (mW cB cI cJ q σ) H) (hD : va_D A (mW cB cI cJ q σ)) (hS : va_S A s.heap H locs) (hf : mm_writesJson_b154 k12 a1 σ = some ρ) : W p l e (rm_mm_writesJson) s m args below meth c H locs 0 0 (MQ below (cQ D (gTy cB cI cJ) A (mW cB cI cJ q ρ.2) (some (.int ρ.1))) args s 0 0 A) (F0 m 154 ls []) := by
  unfold mm_writesJson_b154 at hf
  obtain ⟨hx, hb, hml, hown, hT, hrt, hlk, hK, hA, hG, hE⟩ := id G
  refine lv_aload_n hx hb dX5_writesJson_154 rfl (lv_at hl 0 rfl) ?_
  refine gm_X5_openLeft G hP dX5_writesJson_155 ?_
  refine lv_aload_n hx hb dX5_writesJson_158 rfl (lv_at hl 0 rfl) ?_
  refine gm_X5_open (v := (mf_open σ)) G hP dX5_writesJson_159 rfl ?_
  refine lv_iconst (v := (1 : Int32)) hx hb dX5_writesJson_162 (by decide) ?_
  refine lv_isub hx hb dX5_writesJson_163 ?_
  refine lv_dup2_11 hx hb dX5_writesJson_164 rfl rfl ?_
  obtain ⟨hi30, hf⟩ := ck_some hf
  refine lm_openLeft (f := (mf_openLeft σ)) G hP hi30 dX5_writesJson_165 rfl ?_
  refine lv_lconst (v := (1 : Int64)) hx hb dX5_writesJson_166 (by decide) ?_
  refine lv_lsub hx hb dX5_writesJson_167 ?_
  obtain ⟨hi31, hf⟩ := ck_some hf
  refine sm_openLeft (f := (mf_openLeft σ)) G hP hD hS hi31 dX5_writesJson_168 rfl (fun H locs hP hD hS => ?_)
  exact W.eq (g2 := F0 m 169 ls []) rfl (mm_writesJson_t169 G hk12 (lv_sub hl [0, 1] rfl) hP hD hS hf)
set_option maxHeartbeats 4000000 in
set_option maxRecDepth 100000 in
theorem mm_writesJson_t127 {p : Program} {l : Launch} {e : Env} {s : State} {m : MethodId} {args : Array Value} {below : List Frame} {meth : Method} {c : Code} {D : va_G} {aK aV : Nat → Nat} {A : Nat → Prop} {cB cI cJ : ClassId} {q : Nat → Nat} {H : Heap} {locs : List Loc} {ls : Array Slot} {ρ : Int32 × MSt} {k12 : Int32 → MSt → Option (Int32 × MSt)} {a1 : Int32} {a4 : Int32} {s0 : Int32} {σ : MSt} (G : CX p s m args meth c D (gTy cB cI cJ) aK aV A RX5 cX5_writesJson 6 (some .int)) (hk12 : ∀ (a1 : Int32) (σ : MSt) (H : Heap) (locs : List Loc) (ls : Array Slot), lv_has ls 6 [(0, .ref (q 0)), (1, .int a1)] → va_P D vwCl (mW cB cI cJ q σ) H → va_D A (mW cB cI cJ q σ) → va_S A s.heap H locs → k12 a1 σ = some ρ → W p l e (rm_mm_writesJson) s m args below meth c H locs 0 0 (MQ below (cQ D (gTy cB cI cJ) A (mW cB cI cJ q ρ.2) (some (.int ρ.1))) args s 0 0 A) (F0 m 12 ls [])) (hl : lv_has ls 6 [(0, .ref (q 0)), (1, .int a1), (4, .int a4)]) (hP : va_P D vwCl (mW cB cI cJ q σ) H) (hD : va_D A (mW cB cI cJ q σ)) (hS : va_S A s.heap H locs) (hf : mm_writesJson_b127 k12 a1 a4 s0 σ = some ρ) : W p l e (rm_mm_writesJson) s m args below meth c H locs 0 0 (MQ below (cQ D (gTy cB cI cJ) A (mW cB cI cJ q ρ.2) (some (.int ρ.1))) args s 0 0 A) (F0 m 127 ls [.int s0]) := by
  unfold mm_writesJson_b127 at hf
  obtain ⟨hx, hb, hml, hown, hT, hrt, hlk, hK, hA, hG, hE⟩ := id G
  refine lv_istore (lv' := [(5, .int s0), (0, .ref (q 0)), (1, .int a1), (4, .int a4)]) hx hb dX5_writesJson_127 hl (by decide) rfl (fun ls hl => ?_)
  refine lv_iload hx hb dX5_writesJson_129 (lv_at hl 3 rfl) ?_
  refine lv_if_eq (tgt := 143) hx hb dX5_writesJson_131 (by decide) (fun c26 => ?_) (fun c26 => ?_)
  · have hf := (if_pos c26).symm.trans hf
    refine lv_iload hx hb dX5_writesJson_143 (lv_at hl 0 rfl) ?_
    refine lv_if_ne (tgt := 154) hx hb dX5_writesJson_145 (by decide) (fun c27 => ?_) (fun c27 => ?_)
    · have hf := (if_neg c27).symm.trans hf
      exact W.eq (g2 := F0 m 154 ls []) rfl (mm_writesJson_t154 G hk12 (lv_sub hl [1, 2] rfl) hP hD hS hf)
    · have hf := (if_pos c27).symm.trans hf
      refine lv_aload_n hx hb dX5_writesJson_148 rfl (lv_at hl 1 rfl) ?_
      refine lv_bipush (v := (44 : Int32)) hx hb dX5_writesJson_149 (by decide) ?_
      obtain ⟨x28, hx28, hf⟩ := bd_some hf
      refine vM (As := [.int (44 : Int32)]) (rest := []) G kX5_219 (c_mm_put hx28) hP hD hS ⟨rfl, rfl, Nat.le_of_ble_eq_true rfl, Nat.le_of_ble_eq_true rfl⟩ ⟨Nat.zero_le _, Nat.zero_le _⟩ rfl hl.1 (Nat.le_of_ble_eq_true rfl) dX5_writesJson_151 (fun H locs hP hD hS => ?_)
      refine W.eq (g2 := F0 m 154 ls []) rfl ?_
      exact W.eq (g2 := F0 m 154 ls []) rfl (mm_writesJson_t154 G hk12 (lv_sub hl [1, 2] rfl) hP hD hS hf)
  · have hf := (if_neg c26).symm.trans hf
    refine lv_aload_n hx hb dX5_writesJson_134 rfl (lv_at hl 1 rfl) ?_
    refine lv_bipush (v := (58 : Int32)) hx hb dX5_writesJson_135 (by decide) ?_
    obtain ⟨x29, hx29, hf⟩ := bd_some hf
    refine vM (As := [.int (58 : Int32)]) (rest := []) G kX5_219 (c_mm_put hx29) hP hD hS ⟨rfl, rfl, Nat.le_of_ble_eq_true rfl, Nat.le_of_ble_eq_true rfl⟩ ⟨Nat.zero_le _, Nat.zero_le _⟩ rfl hl.1 (Nat.le_of_ble_eq_true rfl) dX5_writesJson_137 (fun H locs hP hD hS => ?_)
    refine W.eq (g2 := F0 m 140 ls []) rfl ?_
    refine lv_goto (tgt := 154) hx hb dX5_writesJson_140 (by decide) ?_
    exact W.eq (g2 := F0 m 154 ls []) rfl (mm_writesJson_t154 G hk12 (lv_sub hl [1, 2] rfl) hP hD hS hf)
set_option maxHeartbeats 4000000 in
set_option maxRecDepth 100000 in
theorem mm_writesJson_t118 {p : Program} {l : Launch} {e : Env} {s : State} {m : MethodId} {args : Array Value} {below : List Frame} {meth : Method} {c : Code} {D : va_G} {aK aV : Nat → Nat} {A : Nat → Prop} {cB cI cJ : ClassId} {q : Nat → Nat} {H : Heap} {locs : List Loc} {ls : Array Slot} {ρ : Int32 × MSt} {k12 : Int32 → MSt → Option (Int32 × MSt)} {a1 : Int32} {a4 : Int32} {s0 : Int64} {s1 : Int64} {σ : MSt} (G : CX p s m args meth c D (gTy cB cI cJ) aK aV A RX5 cX5_writesJson 6 (some .int)) (hk12 : ∀ (a1 : Int32) (σ : MSt) (H : Heap) (locs : List Loc) (ls : Array Slot), lv_has ls 6 [(0, .ref (q 0)), (1, .int a1)] → va_P D vwCl (mW cB cI cJ q σ) H → va_D A (mW cB cI cJ q σ) → va_S A s.heap H locs → k12 a1 σ = some ρ → W p l e (rm_mm_writesJson) s m args below meth c H locs 0 0 (MQ below (cQ D (gTy cB cI cJ) A (mW cB cI cJ q ρ.2) (some (.int ρ.1))) args s 0 0 A) (F0 m 12 ls [])) (hl : lv_has ls 6 [(0, .ref (q 0)), (1, .int a1), (4, .int a4)]) (hP : va_P D vwCl (mW cB cI cJ q σ) H) (hD : va_D A (mW cB cI cJ q σ)) (hS : va_S A s.heap H locs) (hf : mm_writesJson_b118 k12 a1 a4 s0 s1 σ = some ρ) : W p l e (rm_mm_writesJson) s m args below meth c H locs 0 0 (MQ below (cQ D (gTy cB cI cJ) A (mW cB cI cJ q ρ.2) (some (.int ρ.1))) args s 0 0 A) (F0 m 118 ls [.long s0, .long s1]) := by
  unfold mm_writesJson_b118 at hf
  obtain ⟨hx, hb, hml, hown, hT, hrt, hlk, hK, hA, hG, hE⟩ := id G
  refine W.lcmp hx hb dX5_writesJson_118 ?_
  refine lv_if_ne (tgt := 126) hx hb dX5_writesJson_119 (by decide) (fun c25 => ?_) (fun c25 => ?_)
  · have hf := (if_neg (fun z => c25 ((lg_cmp_eq _ _).mpr z))).symm.trans hf
    refine lv_iconst (v := (0 : Int32)) hx hb dX5_writesJson_126 (by decide) ?_
    exact W.eq (g2 := F0 m 127 ls [.int (0 : Int32)]) rfl (mm_writesJson_t127 G hk12 (lv_sub hl [0, 1, 2] rfl) hP hD hS hf)
  · have hf := (if_pos ((lg_cmp_eq _ _).mp c25)).symm.trans hf
    refine lv_iconst (v := (1 : Int32)) hx hb dX5_writesJson_122 (by decide) ?_
    refine lv_goto (tgt := 127) hx hb dX5_writesJson_123 (by decide) ?_
    exact W.eq (g2 := F0 m 127 ls [.int (1 : Int32)]) rfl (mm_writesJson_t127 G hk12 (lv_sub hl [0, 1, 2] rfl) hP hD hS hf)
set_option maxHeartbeats 4000000 in
set_option maxRecDepth 100000 in
theorem mm_writesJson_t82 {p : Program} {l : Launch} {e : Env} {s : State} {m : MethodId} {args : Array Value} {below : List Frame} {meth : Method} {c : Code} {D : va_G} {aK aV : Nat → Nat} {A : Nat → Prop} {cB cI cJ : ClassId} {q : Nat → Nat} {H : Heap} {locs : List Loc} {ls : Array Slot} {ρ : Int32 × MSt} {k12 : Int32 → MSt → Option (Int32 × MSt)} {a1 : Int32} {a2 : Int32} {a3 : Int32} {s0 : Int32} {σ : MSt} (G : CX p s m args meth c D (gTy cB cI cJ) aK aV A RX5 cX5_writesJson 6 (some .int)) (hk12 : ∀ (a1 : Int32) (σ : MSt) (H : Heap) (locs : List Loc) (ls : Array Slot), lv_has ls 6 [(0, .ref (q 0)), (1, .int a1)] → va_P D vwCl (mW cB cI cJ q σ) H → va_D A (mW cB cI cJ q σ) → va_S A s.heap H locs → k12 a1 σ = some ρ → W p l e (rm_mm_writesJson) s m args below meth c H locs 0 0 (MQ below (cQ D (gTy cB cI cJ) A (mW cB cI cJ q ρ.2) (some (.int ρ.1))) args s 0 0 A) (F0 m 12 ls [])) (hl : lv_has ls 6 [(0, .ref (q 0)), (1, .int a1), (2, .int a2), (3, .int a3)]) (hP : va_P D vwCl (mW cB cI cJ q σ) H) (hD : va_D A (mW cB cI cJ q σ)) (hS : va_S A s.heap H locs) (hf : mm_writesJson_b82 k12 a1 a2 a3 s0 σ = some ρ) : W p l e (rm_mm_writesJson) s m args below meth c H locs 0 0 (MQ below (cQ D (gTy cB cI cJ) A (mW cB cI cJ q ρ.2) (some (.int ρ.1))) args s 0 0 A) (F0 m 82 ls [.int s0]) := by
  unfold mm_writesJson_b82 at hf
  obtain ⟨hx, hb, hml, hown, hT, hrt, hlk, hK, hA, hG, hE⟩ := id G
  refine lv_istore (lv' := [(4, .int s0), (0, .ref (q 0)), (1, .int a1), (2, .int a2), (3, .int a3)]) hx hb dX5_writesJson_82 hl (by decide) rfl (fun ls hl => ?_)
  refine lv_aload_n hx hb dX5_writesJson_84 rfl (lv_at hl 1 rfl) ?_
  refine gm_X5_openLeft G hP dX5_writesJson_85 ?_
  refine lv_aload_n hx hb dX5_writesJson_88 rfl (lv_at hl 1 rfl) ?_
  refine gm_X5_open (v := (mf_open σ)) G hP dX5_writesJson_89 rfl ?_
  refine lv_iconst (v := (1 : Int32)) hx hb dX5_writesJson_92 (by decide) ?_
  refine lv_isub hx hb dX5_writesJson_93 ?_
  obtain ⟨hi20, hf⟩ := ck_some hf
  refine lm_openLeft (f := (mf_openLeft σ)) G hP hi20 dX5_writesJson_94 rfl ?_
  refine lv_iload_n hx hb dX5_writesJson_95 rfl (lv_at hl 4 rfl) ?_
  refine lv_if_eq (tgt := 112) hx hb dX5_writesJson_96 (by decide) (fun c21 => ?_) (fun c21 => ?_)
  · have hf := (if_pos c21).symm.trans hf
    refine lv_aload_n hx hb dX5_writesJson_112 rfl (lv_at hl 1 rfl) ?_
    refine gm_X5_numbers G hP dX5_writesJson_113 ?_
    refine lv_iload_n hx hb dX5_writesJson_116 rfl (lv_at hl 3 rfl) ?_
    obtain ⟨hi22, hf⟩ := ck_some hf
    refine lm_numbers (f := (mf_numbers σ)) G hP hi22 dX5_writesJson_117 rfl ?_
    exact W.eq (g2 := F0 m 118 ls [.long ((mf_numbers σ) (a2).toNatClampNeg), .long ((mf_openLeft σ) (((mf_open σ) - (1 : Int32))).toNatClampNeg)]) rfl (mm_writesJson_t118 G hk12 (lv_sub hl [1, 2, 0] rfl) hP hD hS hf)
  · have hf := (if_neg c21).symm.trans hf
    refine lv_ldc2 (v := (2 : Int64)) hx hb hown (hT _ wc_X5_210) dX5_writesJson_99 ?_
    refine lv_aload_n hx hb dX5_writesJson_102 rfl (lv_at hl 1 rfl) ?_
    refine gm_X5_numbers G hP dX5_writesJson_103 ?_
    refine lv_iload_n hx hb dX5_writesJson_106 rfl (lv_at hl 3 rfl) ?_
    obtain ⟨hi23, hf⟩ := ck_some hf
    refine lm_numbers (f := (mf_numbers σ)) G hP hi23 dX5_writesJson_107 rfl ?_
    refine lv_lmul hx hb dX5_writesJson_108 ?_
    refine lv_goto (tgt := 118) hx hb dX5_writesJson_109 (by decide) ?_
    exact W.eq (g2 := F0 m 118 ls [.long ((2 : Int64) * ((mf_numbers σ) (a2).toNatClampNeg)), .long ((mf_openLeft σ) (((mf_open σ) - (1 : Int32))).toNatClampNeg)]) rfl (mm_writesJson_t118 G hk12 (lv_sub hl [1, 2, 0] rfl) hP hD hS hf)
set_option maxHeartbeats 4000000 in
set_option maxRecDepth 100000 in
theorem mm_writesJson_t54 {p : Program} {l : Launch} {e : Env} {s : State} {m : MethodId} {args : Array Value} {below : List Frame} {meth : Method} {c : Code} {D : va_G} {aK aV : Nat → Nat} {A : Nat → Prop} {cB cI cJ : ClassId} {q : Nat → Nat} {H : Heap} {locs : List Loc} {ls : Array Slot} {ρ : Int32 × MSt} {k12 : Int32 → MSt → Option (Int32 × MSt)} {a1 : Int32} {a2 : Int32} {s0 : Int32} {σ : MSt} (G : CX p s m args meth c D (gTy cB cI cJ) aK aV A RX5 cX5_writesJson 6 (some .int)) (hk12 : ∀ (a1 : Int32) (σ : MSt) (H : Heap) (locs : List Loc) (ls : Array Slot), lv_has ls 6 [(0, .ref (q 0)), (1, .int a1)] → va_P D vwCl (mW cB cI cJ q σ) H → va_D A (mW cB cI cJ q σ) → va_S A s.heap H locs → k12 a1 σ = some ρ → W p l e (rm_mm_writesJson) s m args below meth c H locs 0 0 (MQ below (cQ D (gTy cB cI cJ) A (mW cB cI cJ q ρ.2) (some (.int ρ.1))) args s 0 0 A) (F0 m 12 ls [])) (hl : lv_has ls 6 [(0, .ref (q 0)), (1, .int a1), (2, .int a2)]) (hP : va_P D vwCl (mW cB cI cJ q σ) H) (hD : va_D A (mW cB cI cJ q σ)) (hS : va_S A s.heap H locs) (hf : mm_writesJson_b54 k12 a1 a2 s0 σ = some ρ) : W p l e (rm_mm_writesJson) s m args below meth c H locs 0 0 (MQ below (cQ D (gTy cB cI cJ) A (mW cB cI cJ q ρ.2) (some (.int ρ.1))) args s 0 0 A) (F0 m 54 ls [.int s0]) := by
  unfold mm_writesJson_b54 at hf
  obtain ⟨hx, hb, hml, hown, hT, hrt, hlk, hK, hA, hG, hE⟩ := id G
  refine lv_istore_n (lv' := [(3, .int s0), (0, .ref (q 0)), (1, .int a1), (2, .int a2)]) hx hb dX5_writesJson_54 rfl hl (by decide) rfl (fun ls hl => ?_)
  refine lv_iload_n hx hb dX5_writesJson_55 rfl (lv_at hl 0 rfl) ?_
  refine lv_if_eq (tgt := 81) hx hb dX5_writesJson_56 (by decide) (fun c9 => ?_) (fun c9 => ?_)
  · have hf := (if_pos c9).symm.trans hf
    refine lv_iconst (v := (0 : Int32)) hx hb dX5_writesJson_81 (by decide) ?_
    exact W.eq (g2 := F0 m 82 ls [.int (0 : Int32)]) rfl (mm_writesJson_t82 G hk12 (lv_sub hl [1, 2, 3, 0] rfl) hP hD hS hf)
  · have hf := (if_neg c9).symm.trans hf
    refine lv_aload_n hx hb dX5_writesJson_59 rfl (lv_at hl 1 rfl) ?_
    refine gm_X5_openLeft G hP dX5_writesJson_60 ?_
    refine lv_aload_n hx hb dX5_writesJson_63 rfl (lv_at hl 1 rfl) ?_
    refine gm_X5_open (v := (mf_open σ)) G hP dX5_writesJson_64 rfl ?_
    refine lv_iconst (v := (1 : Int32)) hx hb dX5_writesJson_67 (by decide) ?_
    refine lv_isub hx hb dX5_writesJson_68 ?_
    obtain ⟨hi10, hf⟩ := ck_some hf
    refine lm_openLeft (f := (mf_openLeft σ)) G hP hi10 dX5_writesJson_69 rfl ?_
    refine lv_lconst (v := (1 : Int64)) hx hb dX5_writesJson_70 (by decide) ?_
    refine lv_land hx hb dX5_writesJson_71 ?_
    refine lv_lconst (v := (1 : Int64)) hx hb dX5_writesJson_72 (by decide) ?_
    refine W.lcmp hx hb dX5_writesJson_73 ?_
    refine lv_if_ne (tgt := 81) hx hb dX5_writesJson_74 (by decide) (fun c11 => ?_) (fun c11 => ?_)
    · have hf := (if_neg (fun z => c11 ((lg_cmp_eq _ _).mpr z))).symm.trans hf
      refine lv_iconst (v := (0 : Int32)) hx hb dX5_writesJson_81 (by decide) ?_
      exact W.eq (g2 := F0 m 82 ls [.int (0 : Int32)]) rfl (mm_writesJson_t82 G hk12 (lv_sub hl [1, 2, 3, 0] rfl) hP hD hS hf)
    · have hf := (if_pos ((lg_cmp_eq _ _).mp c11)).symm.trans hf
      refine lv_iconst (v := (1 : Int32)) hx hb dX5_writesJson_77 (by decide) ?_
      refine lv_goto (tgt := 82) hx hb dX5_writesJson_78 (by decide) ?_
      exact W.eq (g2 := F0 m 82 ls [.int (1 : Int32)]) rfl (mm_writesJson_t82 G hk12 (lv_sub hl [1, 2, 3, 0] rfl) hP hD hS hf)
set_option maxHeartbeats 4000000 in
set_option maxRecDepth 100000 in
theorem mm_writesJson_t12 {p : Program} {l : Launch} {e : Env} {s : State} {m : MethodId} {args : Array Value} {below : List Frame} {meth : Method} {c : Code} {D : va_G} {aK aV : Nat → Nat} {A : Nat → Prop} {cB cI cJ : ClassId} {q : Nat → Nat} {H : Heap} {locs : List Loc} {ls : Array Slot} {ρ : Int32 × MSt} {k12 : Int32 → MSt → Option (Int32 × MSt)} {a1 : Int32} {σ : MSt} (G : CX p s m args meth c D (gTy cB cI cJ) aK aV A RX5 cX5_writesJson 6 (some .int)) (hk12 : ∀ (a1 : Int32) (σ : MSt) (H : Heap) (locs : List Loc) (ls : Array Slot), lv_has ls 6 [(0, .ref (q 0)), (1, .int a1)] → va_P D vwCl (mW cB cI cJ q σ) H → va_D A (mW cB cI cJ q σ) → va_S A s.heap H locs → k12 a1 σ = some ρ → W p l e (rm_mm_writesJson) s m args below meth c H locs 0 0 (MQ below (cQ D (gTy cB cI cJ) A (mW cB cI cJ q ρ.2) (some (.int ρ.1))) args s 0 0 A) (F0 m 12 ls [])) (hl : lv_has ls 6 [(0, .ref (q 0)), (1, .int a1)]) (hP : va_P D vwCl (mW cB cI cJ q σ) H) (hD : va_D A (mW cB cI cJ q σ)) (hS : va_S A s.heap H locs) (hf : mm_writesJson_b12 k12 a1 σ = some ρ) : W p l e (rm_mm_writesJson) s m args below meth c H locs 0 0 (MQ below (cQ D (gTy cB cI cJ) A (mW cB cI cJ q ρ.2) (some (.int ρ.1))) args s 0 0 A) (F0 m 12 ls []) := by
  unfold mm_writesJson_b12 at hf
  obtain ⟨hx, hb, hml, hown, hT, hrt, hlk, hK, hA, hG, hE⟩ := id G
  refine lv_iload_n hx hb dX5_writesJson_12 rfl (lv_at hl 1 rfl) ?_
  refine lv_aload_n hx hb dX5_writesJson_13 rfl (lv_at hl 0 rfl) ?_
  refine gm_X5_things (v := (mf_things σ)) G hP dX5_writesJson_14 rfl ?_
  refine lv_icmp_ge (tgt := 245) hx hb dX5_writesJson_17 (by decide) (fun c1 => ?_) (fun c1 => ?_)
  · have hf := (if_pos c1).symm.trans hf
    refine lv_aload_n hx hb dX5_writesJson_245 rfl (lv_at hl 0 rfl) ?_
    obtain ⟨x2, hx2, hf⟩ := bd_some hf
    refine vM (As := []) (rest := []) G kX5_229 (c_mm_ends hx2) hP hD hS ⟨rfl, rfl, Nat.le_of_ble_eq_true rfl, Nat.le_of_ble_eq_true rfl⟩ ⟨Nat.zero_le _, Nat.zero_le _⟩ rfl hl.1 (Nat.le_of_ble_eq_true rfl) dX5_writesJson_246 (fun H locs hP hD hS => ?_)
    refine W.eq (g2 := F0 m 249 ls [.int x2.1]) rfl ?_
    cases hf
    exact ct_iret G rfl hP hD hS dX5_writesJson_249
  · have hf := (if_neg c1).symm.trans hf
    refine lv_aload_n hx hb dX5_writesJson_20 rfl (lv_at hl 0 rfl) ?_
    refine gm_X5_open (v := (mf_open σ)) G hP dX5_writesJson_21 rfl ?_
    refine lv_if_le (tgt := 169) hx hb dX5_writesJson_24 (by decide) (fun c3 => ?_) (fun c3 => ?_)
    · have hf := (if_pos c3).symm.trans hf
      exact W.eq (g2 := F0 m 169 ls []) rfl (mm_writesJson_t169 G hk12 (lv_sub hl [0, 1] rfl) hP hD hS hf)
    · have hf := (if_neg c3).symm.trans hf
      refine lv_aload_n hx hb dX5_writesJson_27 rfl (lv_at hl 0 rfl) ?_
      refine gm_X5_openThing G hP dX5_writesJson_28 ?_
      refine lv_aload_n hx hb dX5_writesJson_31 rfl (lv_at hl 0 rfl) ?_
      refine gm_X5_open (v := (mf_open σ)) G hP dX5_writesJson_32 rfl ?_
      refine lv_iconst (v := (1 : Int32)) hx hb dX5_writesJson_35 (by decide) ?_
      refine lv_isub hx hb dX5_writesJson_36 ?_
      obtain ⟨hi4, hf⟩ := ck_some hf
      refine lm_openThing (f := (mf_openThing σ)) G hP hi4 dX5_writesJson_37 rfl ?_
      refine lv_topi (fun v5 ev5 => ?_)
      have hf := lt_eq hf ev5
      refine lv_istore_n (lv' := [(2, .int v5), (0, .ref (q 0)), (1, .int a1)]) hx hb dX5_writesJson_38 rfl hl (by decide) rfl (fun ls hl => ?_)
      refine lv_aload_n hx hb dX5_writesJson_39 rfl (lv_at hl 1 rfl) ?_
      refine gm_X5_sorts G hP dX5_writesJson_40 ?_
      refine lv_iload_n hx hb dX5_writesJson_43 rfl (lv_at hl 0 rfl) ?_
      obtain ⟨hi6, hf⟩ := ck_some hf
      refine lm_sorts (f := (mf_sorts σ)) G hP hi6 dX5_writesJson_44 rfl ?_
      refine lv_iconst (v := (5 : Int32)) hx hb dX5_writesJson_45 (by decide) ?_
      refine lv_icmp_ne (tgt := 53) hx hb dX5_writesJson_46 (by decide) (fun c7 => ?_) (fun c7 => ?_)
      · have hf := (if_neg c7).symm.trans hf
        refine lv_iconst (v := (0 : Int32)) hx hb dX5_writesJson_53 (by decide) ?_
        exact W.eq (g2 := F0 m 54 ls [.int (0 : Int32)]) rfl (mm_writesJson_t54 G hk12 (lv_sub hl [1, 2, 0] rfl) hP hD hS hf)
      · have hf := (if_pos c7).symm.trans hf
        refine lv_iconst (v := (1 : Int32)) hx hb dX5_writesJson_49 (by decide) ?_
        refine lv_goto (tgt := 54) hx hb dX5_writesJson_50 (by decide) ?_
        exact W.eq (g2 := F0 m 54 ls [.int (1 : Int32)]) rfl (mm_writesJson_t54 G hk12 (lv_sub hl [1, 2, 0] rfl) hP hD hS hf)
set_option maxHeartbeats 4000000 in
set_option maxRecDepth 100000 in
theorem mm_writesJson_u12 {p : Program} {l : Launch} {e : Env} {s : State} {m : MethodId} {args : Array Value} {below : List Frame} {meth : Method} {c : Code} {D : va_G} {aK aV : Nat → Nat} {A : Nat → Prop} {cB cI cJ : ClassId} {q : Nat → Nat} {ρ : Int32 × MSt} (G : CX p s m args meth c D (gTy cB cI cJ) aK aV A RX5 cX5_writesJson 6 (some .int)) : ∀ (n : Nat) {a1 : Int32} {σ : MSt} {H : Heap} {locs : List Loc} {ls : Array Slot} (hl : lv_has ls 6 [(0, .ref (q 0)), (1, .int a1)]) (hP : va_P D vwCl (mW cB cI cJ q σ) H) (hD : va_D A (mW cB cI cJ q σ)) (hS : va_S A s.heap H locs) (hf : mm_writesJson_L12 n a1 σ = some ρ), W p l e (rm_mm_writesJson) s m args below meth c H locs 0 0 (MQ below (cQ D (gTy cB cI cJ) A (mW cB cI cJ q ρ.2) (some (.int ρ.1))) args s 0 0 A) (F0 m 12 ls []) := by
  intro n
  induction n with
  | zero =>
    intros
    rename_i hf
    cases hf
  | succ n ih =>
    intro a1 σ H locs ls hl hP hD hS hf
    exact mm_writesJson_t12 G (fun _ _ H locs ls hl hP hD hS hf => ih hl hP hD hS hf) hl hP hD hS hf
set_option maxHeartbeats 4000000 in
set_option maxRecDepth 100000 in
theorem mm_writesJson_t0e {p : Program} {l : Launch} {e : Env} {s : State} {m : MethodId} {args : Array Value} {below : List Frame} {meth : Method} {c : Code} {D : va_G} {aK aV : Nat → Nat} {A : Nat → Prop} {cB cI cJ : ClassId} {q : Nat → Nat} {H : Heap} {locs : List Loc} {ls : Array Slot} {ρ : Int32 × MSt} {σ : MSt} (G : CX p s m args meth c D (gTy cB cI cJ) aK aV A RX5 cX5_writesJson 6 (some .int)) (hl : lv_has ls 6 [(0, .ref (q 0))]) (hP : va_P D vwCl (mW cB cI cJ q σ) H) (hD : va_D A (mW cB cI cJ q σ)) (hS : va_S A s.heap H locs) (hf : mm_writesJson σ = some ρ) : W p l e (rm_mm_writesJson) s m args below meth c H locs 0 0 (MQ below (cQ D (gTy cB cI cJ) A (mW cB cI cJ q ρ.2) (some (.int ρ.1))) args s 0 0 A) (F0 m 0 ls []) := by
  unfold mm_writesJson at hf
  obtain ⟨hx, hb, hml, hown, hT, hrt, hlk, hK, hA, hG, hE⟩ := id G
  refine lv_aload_n hx hb dX5_writesJson_0 rfl (lv_at hl 0 rfl) ?_
  refine lv_iconst (v := (0 : Int32)) hx hb dX5_writesJson_1 (by decide) ?_
  refine pm_X5_freshMany (v := (0 : Int32)) G hP hD hS dX5_writesJson_2 (fun H locs hP hD hS => ?_)
  refine lv_aload_n hx hb dX5_writesJson_5 rfl (lv_at hl 0 rfl) ?_
  refine lv_iconst (v := (0 : Int32)) hx hb dX5_writesJson_6 (by decide) ?_
  refine pm_X5_open (v := (0 : Int32)) G hP hD hS dX5_writesJson_7 (fun H locs hP hD hS => ?_)
  refine lv_iconst (v := (0 : Int32)) hx hb dX5_writesJson_10 (by decide) ?_
  refine lv_istore_n (lv' := [(1, .int (0 : Int32)), (0, .ref (q 0))]) hx hb dX5_writesJson_11 rfl hl (by decide) rfl (fun ls hl => ?_)
  exact W.eq (g2 := F0 m 12 ls []) rfl (mm_writesJson_u12 G FU (lv_sub hl [1, 0] rfl) hP hD hS hf)
set_option maxHeartbeats 4000000 in
set_option maxRecDepth 100000 in
theorem c_mm_writesJson {l : Launch} {D : va_G} {aK aV : Nat → Nat} {cB cI cJ : ClassId} {q : Nat → Nat} {ρ : Int32 × MSt} {σ : MSt} (hf : mm_writesJson σ = some ρ) : CT l D (gTy cB cI cJ) aK aV yX5_writesJson (wM yX5_writesJson cX5_writesJson 6 (some .int)) (rm_mm_writesJson) 0 0 [.ref (q 0)] (mW cB cI cJ q σ) (some (.int ρ.1)) (mW cB cI cJ q ρ.2) := by
  refine CT.of (by decide) rfl ?_
  intro p e s m below meth c A G hnm hP hD hS
  have hl := lv_entry [.ref (q 0)] (n := 6) (Nat.le_of_ble_eq_true rfl)
  rw [lg_entry_eq]
  generalize (lg_sl [.ref (q 0)] ++ List.replicate (6 - (lg_sl [.ref (q 0)]).length) Slot.unset).toArray = ls at hl ⊢
  exact mm_writesJson_t0e G hl hP hD hS hf
def mm_toCbor (σ : MSt) : Option (Int32 × MSt) := bd (mm_begin  σ) (fun (x1 : MSt) => bd (mm_readsJson  x1) (fun (x2 : MSt) => (if (mf_fault x2) ≤ 0 then bd (mm_writesCbor  x2) (fun (x4 : Int32 × MSt) => some (x4.1, x4.2)) else some ((-(mf_fault x2)), x2))))
abbrev rm_mm_toCbor : Room := { frames := 10, cells := 0, slots := 0, locals := 225 }
set_option maxHeartbeats 4000000 in
set_option maxRecDepth 100000 in
theorem mm_toCbor_t0e {p : Program} {l : Launch} {e : Env} {s : State} {m : MethodId} {args : Array Value} {below : List Frame} {meth : Method} {c : Code} {D : va_G} {aK aV : Nat → Nat} {A : Nat → Prop} {cB cI cJ : ClassId} {q : Nat → Nat} {H : Heap} {locs : List Loc} {ls : Array Slot} {ρ : Int32 × MSt} {σ : MSt} (G : CX p s m args meth c D (gTy cB cI cJ) aK aV A RX5 cX5_toCbor 1 (some .int)) (hl : lv_has ls 1 [(0, .ref (q 0))]) (hP : va_P D vwCl (mW cB cI cJ q σ) H) (hD : va_D A (mW cB cI cJ q σ)) (hS : va_S A s.heap H locs) (hf : mm_toCbor σ = some ρ) : W p l e (rm_mm_toCbor) s m args below meth c H locs 0 0 (MQ below (cQ D (gTy cB cI cJ) A (mW cB cI cJ q ρ.2) (some (.int ρ.1))) args s 0 0 A) (F0 m 0 ls []) := by
  unfold mm_toCbor at hf
  obtain ⟨hx, hb, hml, hown, hT, hrt, hlk, hK, hA, hG, hE⟩ := id G
  refine lv_aload_n hx hb dX5_toCbor_0 rfl (lv_at hl 0 rfl) ?_
  obtain ⟨x1, hx1, hf⟩ := bd_some hf
  refine vM (As := []) (rest := []) G kX5_259 (c_mm_begin hx1) hP hD hS ⟨rfl, rfl, Nat.le_of_ble_eq_true rfl, Nat.le_of_ble_eq_true rfl⟩ ⟨Nat.zero_le _, Nat.zero_le _⟩ rfl hl.1 (Nat.le_of_ble_eq_true rfl) dX5_toCbor_1 (fun H locs hP hD hS => ?_)
  refine W.eq (g2 := F0 m 4 ls []) rfl ?_
  refine lv_aload_n hx hb dX5_toCbor_4 rfl (lv_at hl 0 rfl) ?_
  obtain ⟨x2, hx2, hf⟩ := bd_some hf
  refine vM (As := []) (rest := []) G kX5_262 (c_mm_readsJson hx2) hP hD hS ⟨rfl, rfl, Nat.le_of_ble_eq_true rfl, Nat.le_of_ble_eq_true rfl⟩ ⟨Nat.zero_le _, Nat.zero_le _⟩ rfl hl.1 (Nat.le_of_ble_eq_true rfl) dX5_toCbor_5 (fun H locs hP hD hS => ?_)
  refine W.eq (g2 := F0 m 8 ls []) rfl ?_
  refine lv_aload_n hx hb dX5_toCbor_8 rfl (lv_at hl 0 rfl) ?_
  refine gm_X5_fault (v := (mf_fault x2)) G hP dX5_toCbor_9 rfl ?_
  refine lv_if_le (tgt := 23) hx hb dX5_toCbor_12 (by decide) (fun c3 => ?_) (fun c3 => ?_)
  · have hf := (if_pos c3).symm.trans hf
    refine lv_aload_n hx hb dX5_toCbor_23 rfl (lv_at hl 0 rfl) ?_
    obtain ⟨x4, hx4, hf⟩ := bd_some hf
    refine vM (As := []) (rest := []) G kX5_265 (c_mm_writesCbor hx4) hP hD hS ⟨rfl, rfl, Nat.le_of_ble_eq_true rfl, Nat.le_of_ble_eq_true rfl⟩ ⟨Nat.zero_le _, Nat.zero_le _⟩ rfl hl.1 (Nat.le_of_ble_eq_true rfl) dX5_toCbor_24 (fun H locs hP hD hS => ?_)
    refine W.eq (g2 := F0 m 27 ls [.int x4.1]) rfl ?_
    cases hf
    exact ct_iret G rfl hP hD hS dX5_toCbor_27
  · have hf := (if_neg c3).symm.trans hf
    refine lv_aload_n hx hb dX5_toCbor_15 rfl (lv_at hl 0 rfl) ?_
    refine gm_X5_fault (v := (mf_fault x2)) G hP dX5_toCbor_16 rfl ?_
    refine lv_ineg hx hb dX5_toCbor_19 ?_
    refine lv_goto (tgt := 27) hx hb dX5_toCbor_20 (by decide) ?_
    cases hf
    exact ct_iret G rfl hP hD hS dX5_toCbor_27
set_option maxHeartbeats 4000000 in
set_option maxRecDepth 100000 in
theorem c_mm_toCbor {l : Launch} {D : va_G} {aK aV : Nat → Nat} {cB cI cJ : ClassId} {q : Nat → Nat} {ρ : Int32 × MSt} {σ : MSt} (hf : mm_toCbor σ = some ρ) : CT l D (gTy cB cI cJ) aK aV yX5_toCbor (wM yX5_toCbor cX5_toCbor 1 (some .int)) (rm_mm_toCbor) 0 0 [.ref (q 0)] (mW cB cI cJ q σ) (some (.int ρ.1)) (mW cB cI cJ q ρ.2) := by
  refine CT.of (by decide) rfl ?_
  intro p e s m below meth c A G hnm hP hD hS
  have hl := lv_entry [.ref (q 0)] (n := 1) (Nat.le_of_ble_eq_true rfl)
  rw [lg_entry_eq]
  generalize (lg_sl [.ref (q 0)] ++ List.replicate (1 - (lg_sl [.ref (q 0)]).length) Slot.unset).toArray = ls at hl ⊢
  exact mm_toCbor_t0e G hl hP hD hS hf
def mm_toJson (σ : MSt) : Option (Int32 × MSt) := bd (mm_begin  σ) (fun (x1 : MSt) => bd (mm_readsCbor  x1) (fun (x2 : MSt) => (if (mf_fault x2) ≤ 0 then bd (mm_writesJson  x2) (fun (x4 : Int32 × MSt) => some (x4.1, x4.2)) else some ((-(mf_fault x2)), x2))))
abbrev rm_mm_toJson : Room := { frames := 8, cells := 0, slots := 0, locals := 181 }
set_option maxHeartbeats 4000000 in
set_option maxRecDepth 100000 in
theorem mm_toJson_t0e {p : Program} {l : Launch} {e : Env} {s : State} {m : MethodId} {args : Array Value} {below : List Frame} {meth : Method} {c : Code} {D : va_G} {aK aV : Nat → Nat} {A : Nat → Prop} {cB cI cJ : ClassId} {q : Nat → Nat} {H : Heap} {locs : List Loc} {ls : Array Slot} {ρ : Int32 × MSt} {σ : MSt} (G : CX p s m args meth c D (gTy cB cI cJ) aK aV A RX5 cX5_toJson 1 (some .int)) (hl : lv_has ls 1 [(0, .ref (q 0))]) (hP : va_P D vwCl (mW cB cI cJ q σ) H) (hD : va_D A (mW cB cI cJ q σ)) (hS : va_S A s.heap H locs) (hf : mm_toJson σ = some ρ) : W p l e (rm_mm_toJson) s m args below meth c H locs 0 0 (MQ below (cQ D (gTy cB cI cJ) A (mW cB cI cJ q ρ.2) (some (.int ρ.1))) args s 0 0 A) (F0 m 0 ls []) := by
  unfold mm_toJson at hf
  obtain ⟨hx, hb, hml, hown, hT, hrt, hlk, hK, hA, hG, hE⟩ := id G
  refine lv_aload_n hx hb dX5_toJson_0 rfl (lv_at hl 0 rfl) ?_
  obtain ⟨x1, hx1, hf⟩ := bd_some hf
  refine vM (As := []) (rest := []) G kX5_259 (c_mm_begin hx1) hP hD hS ⟨rfl, rfl, Nat.le_of_ble_eq_true rfl, Nat.le_of_ble_eq_true rfl⟩ ⟨Nat.zero_le _, Nat.zero_le _⟩ rfl hl.1 (Nat.le_of_ble_eq_true rfl) dX5_toJson_1 (fun H locs hP hD hS => ?_)
  refine W.eq (g2 := F0 m 4 ls []) rfl ?_
  refine lv_aload_n hx hb dX5_toJson_4 rfl (lv_at hl 0 rfl) ?_
  obtain ⟨x2, hx2, hf⟩ := bd_some hf
  refine vM (As := []) (rest := []) G kX5_268 (c_mm_readsCbor hx2) hP hD hS ⟨rfl, rfl, Nat.le_of_ble_eq_true rfl, Nat.le_of_ble_eq_true rfl⟩ ⟨Nat.zero_le _, Nat.zero_le _⟩ rfl hl.1 (Nat.le_of_ble_eq_true rfl) dX5_toJson_5 (fun H locs hP hD hS => ?_)
  refine W.eq (g2 := F0 m 8 ls []) rfl ?_
  refine lv_aload_n hx hb dX5_toJson_8 rfl (lv_at hl 0 rfl) ?_
  refine gm_X5_fault (v := (mf_fault x2)) G hP dX5_toJson_9 rfl ?_
  refine lv_if_le (tgt := 23) hx hb dX5_toJson_12 (by decide) (fun c3 => ?_) (fun c3 => ?_)
  · have hf := (if_pos c3).symm.trans hf
    refine lv_aload_n hx hb dX5_toJson_23 rfl (lv_at hl 0 rfl) ?_
    obtain ⟨x4, hx4, hf⟩ := bd_some hf
    refine vM (As := []) (rest := []) G kX5_271 (c_mm_writesJson hx4) hP hD hS ⟨rfl, rfl, Nat.le_of_ble_eq_true rfl, Nat.le_of_ble_eq_true rfl⟩ ⟨Nat.zero_le _, Nat.zero_le _⟩ rfl hl.1 (Nat.le_of_ble_eq_true rfl) dX5_toJson_24 (fun H locs hP hD hS => ?_)
    refine W.eq (g2 := F0 m 27 ls [.int x4.1]) rfl ?_
    cases hf
    exact ct_iret G rfl hP hD hS dX5_toJson_27
  · have hf := (if_neg c3).symm.trans hf
    refine lv_aload_n hx hb dX5_toJson_15 rfl (lv_at hl 0 rfl) ?_
    refine gm_X5_fault (v := (mf_fault x2)) G hP dX5_toJson_16 rfl ?_
    refine lv_ineg hx hb dX5_toJson_19 ?_
    refine lv_goto (tgt := 27) hx hb dX5_toJson_20 (by decide) ?_
    cases hf
    exact ct_iret G rfl hP hD hS dX5_toJson_27
set_option maxHeartbeats 4000000 in
set_option maxRecDepth 100000 in
theorem c_mm_toJson {l : Launch} {D : va_G} {aK aV : Nat → Nat} {cB cI cJ : ClassId} {q : Nat → Nat} {ρ : Int32 × MSt} {σ : MSt} (hf : mm_toJson σ = some ρ) : CT l D (gTy cB cI cJ) aK aV yX5_toJson (wM yX5_toJson cX5_toJson 1 (some .int)) (rm_mm_toJson) 0 0 [.ref (q 0)] (mW cB cI cJ q σ) (some (.int ρ.1)) (mW cB cI cJ q ρ.2) := by
  refine CT.of (by decide) rfl ?_
  intro p e s m below meth c A G hnm hP hD hS
  have hl := lv_entry [.ref (q 0)] (n := 1) (Nat.le_of_ble_eq_true rfl)
  rw [lg_entry_eq]
  generalize (lg_sl [.ref (q 0)] ++ List.replicate (1 - (lg_sl [.ref (q 0)]).length) Slot.unset).toArray = ls at hl ⊢
  exact mm_toJson_t0e G hl hP hD hS hf
