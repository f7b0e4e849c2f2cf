/-! ROW: bytes one behind the other (printed by program wip/gen) -/
def rr_size (N : Nat) (σ : RSt) : Option (Int32 × RSt) := some ((rf_sz σ), σ)
abbrev rm_rr_size : Room := { frames := 0, cells := 0, slots := 0, locals := 0 }
set_option maxHeartbeats 4000000 in
set_option maxRecDepth 100000 in
theorem rr_size_t0e {p : Program} {l : Launch} {e : Env} {s : State} {m : MethodId} {args : Array Value} {below : List Frame} {meth : Method} {c : Code} {D : va_G} {aK aV : Nat → Nat} {A : Nat → Prop} {cB cI cJ : ClassId} {r b N : Nat} {H : Heap} {locs : List Loc} {ls : Array Slot} {ρ : Int32 × RSt} {σ : RSt} (G : CX p s m args meth c D (gTy cB cI cJ) aK aV A RX3 cX3_size 1 (some .int)) (hl : lv_has ls 1 [(0, .ref (r))]) (hP : va_P D vwCl (rW cB r b N σ) H) (hD : va_D A (rW cB r b N σ)) (hS : va_S A s.heap H locs) (hf : rr_size N σ = some ρ) : W p l e (rm_rr_size) s m args below meth c H locs 0 0 (MQ below (cQ D (gTy cB cI cJ) A (rW cB r b N ρ.2) (some (.int ρ.1))) args s 0 0 A) (F0 m 0 ls []) := by
  unfold rr_size at hf
  obtain ⟨hx, hb, hml, hown, hT, hrt, hlk, hK, hA, hG, hE⟩ := id G
  refine lv_aload_n hx hb dX3_size_0 rfl (lv_at hl 0 rfl) ?_
  refine gr_X3_sz (v := (rf_sz σ)) G hP dX3_size_1 rfl ?_
  cases hf
  exact ct_iret G rfl hP hD hS dX3_size_4
set_option maxHeartbeats 4000000 in
set_option maxRecDepth 100000 in
theorem c_rr_size {l : Launch} {D : va_G} {aK aV : Nat → Nat} {cB cI cJ : ClassId} {r b N : Nat} {ρ : Int32 × RSt} {σ : RSt} (hf : rr_size N σ = some ρ) : CT l D (gTy cB cI cJ) aK aV yX3_size (wM yX3_size cX3_size 1 (some .int)) (rm_rr_size) 0 0 [.ref (r)] (rW cB r b N σ) (some (.int ρ.1)) (rW cB r b N ρ.2) := by
  refine CT.of (by decide) rfl ?_
  intro p e s m below meth c A G hnm hP hD hS
  have hl := lv_entry [.ref (r)] (n := 1) (Nat.le_of_ble_eq_true rfl)
  rw [lg_entry_eq]
  generalize (lg_sl [.ref (r)] ++ List.replicate (1 - (lg_sl [.ref (r)]).length) Slot.unset).toArray = ls at hl ⊢
  exact rr_size_t0e G hl hP hD hS hf
def rr_at (N : Nat) (p0 : Int32) (σ : RSt) : Option (Int32 × RSt) := (if p0 < 0 then some ((-1 : Int32), σ) else (if (rf_sz σ) ≤ p0 then some ((-1 : Int32), σ) else (if p0 < (Int32.ofNat N) then ck p0 N (some ((((rf_f σ) (p0).toNatClampNeg) &&& (255 : Int32)), σ)) else some ((-1 : Int32), σ))))
abbrev rm_rr_at : Room := { frames := 0, cells := 0, slots := 0, locals := 0 }
set_option maxHeartbeats 4000000 in
set_option maxRecDepth 100000 in
theorem rr_at_t0e {p : Program} {l : Launch} {e : Env} {s : State} {m : MethodId} {args : Array Value} {below : List Frame} {meth : Method} {c : Code} {D : va_G} {aK aV : Nat → Nat} {A : Nat → Prop} {cB cI cJ : ClassId} {r b N : Nat} {H : Heap} {locs : List Loc} {ls : Array Slot} {ρ : Int32 × RSt} {p0 : Int32} {σ : RSt} (G : CX p s m args meth c D (gTy cB cI cJ) aK aV A RX3 cX3_at 2 (some .int)) (hl : lv_has ls 2 [(0, .ref (r)), (1, .int p0)]) (hP : va_P D vwCl (rW cB r b N σ) H) (hD : va_D A (rW cB r b N σ)) (hS : va_S A s.heap H locs) (hf : rr_at N p0 σ = some ρ) : W p l e (rm_rr_at) s m args below meth c H locs 0 0 (MQ below (cQ D (gTy cB cI cJ) A (rW cB r b N ρ.2) (some (.int ρ.1))) args s 0 0 A) (F0 m 0 ls []) := by
  unfold rr_at at hf
  obtain ⟨hx, hb, hml, hown, hT, hrt, hlk, hK, hA, hG, hE⟩ := id G
  refine lv_iload_n hx hb dX3_at_0 rfl (lv_at hl 1 rfl) ?_
  refine lv_if_lt (tgt := 21) hx hb dX3_at_1 (by decide) (fun c1 => ?_) (fun c1 => ?_)
  · have hf := (if_pos c1).symm.trans hf
    refine lv_iconst (v := (-1 : Int32)) hx hb dX3_at_21 (by decide) ?_
    cases hf
    exact ct_iret G rfl hP hD hS dX3_at_22
  · have hf := (if_neg c1).symm.trans hf
    refine lv_iload_n hx hb dX3_at_4 rfl (lv_at hl 1 rfl) ?_
    refine lv_aload_n hx hb dX3_at_5 rfl (lv_at hl 0 rfl) ?_
    refine gr_X3_sz (v := (rf_sz σ)) G hP dX3_at_6 rfl ?_
    refine lv_icmp_ge (tgt := 21) hx hb dX3_at_9 (by decide) (fun c2 => ?_) (fun c2 => ?_)
    · have hf := (if_pos c2).symm.trans hf
      refine lv_iconst (v := (-1 : Int32)) hx hb dX3_at_21 (by decide) ?_
      cases hf
      exact ct_iret G rfl hP hD hS dX3_at_22
    · have hf := (if_neg c2).symm.trans hf
      refine lv_iload_n hx hb dX3_at_12 rfl (lv_at hl 1 rfl) ?_
      refine lv_aload_n hx hb dX3_at_13 rfl (lv_at hl 0 rfl) ?_
      refine gr_X3_bytes G hP dX3_at_14 ?_
      refine nr_f (v := (Int32.ofNat N)) G hP rfl dX3_at_17 ?_
      refine lv_icmp_lt (tgt := 23) hx hb dX3_at_18 (by decide) (fun c3 => ?_) (fun c3 => ?_)
      · have hf := (if_pos c3).symm.trans hf
        refine lv_aload_n hx hb dX3_at_23 rfl (lv_at hl 0 rfl) ?_
        refine gr_X3_bytes G hP dX3_at_24 ?_
        refine lv_iload_n hx hb dX3_at_27 rfl (lv_at hl 1 rfl) ?_
        obtain ⟨hi4, hf⟩ := ck_some hf
        refine lr_f (f := (rf_f σ)) G hP hi4 dX3_at_28 rfl ?_
        refine lv_sipush (v := (255 : Int32)) hx hb dX3_at_29 (by decide) ?_
        refine lv_iand hx hb dX3_at_32 ?_
        cases hf
        exact ct_iret G rfl hP hD hS dX3_at_33
      · have hf := (if_neg c3).symm.trans hf
        refine lv_iconst (v := (-1 : Int32)) hx hb dX3_at_21 (by decide) ?_
        cases hf
        exact ct_iret G rfl hP hD hS dX3_at_22
set_option maxHeartbeats 4000000 in
set_option maxRecDepth 100000 in
theorem c_rr_at {l : Launch} {D : va_G} {aK aV : Nat → Nat} {cB cI cJ : ClassId} {r b N : Nat} {ρ : Int32 × RSt} {p0 : Int32} {σ : RSt} (hf : rr_at N p0 σ = some ρ) : CT l D (gTy cB cI cJ) aK aV yX3_at (wM yX3_at cX3_at 2 (some .int)) (rm_rr_at) 0 0 [.ref (r), .int p0] (rW cB r b N σ) (some (.int ρ.1)) (rW cB r b N ρ.2) := by
  refine CT.of (by decide) rfl ?_
  intro p e s m below meth c A G hnm hP hD hS
  have hl := lv_entry [.ref (r), .int p0] (n := 2) (Nat.le_of_ble_eq_true rfl)
  rw [lg_entry_eq]
  generalize (lg_sl [.ref (r), .int p0] ++ List.replicate (2 - (lg_sl [.ref (r), .int p0]).length) Slot.unset).toArray = ls at hl ⊢
  exact rr_at_t0e G hl hP hD hS hf
def rr_put_b30 (N : Nat) (σ : RSt) : Option (RSt) := some (rs_sz σ ((rf_sz σ) + (1 : Int32)))
def rr_put (N : Nat) (p0 : Int32) (σ : RSt) : Option (RSt) := (if (rf_sz σ) < 0 then rr_put_b30 N  σ else (if (Int32.ofNat N) ≤ (rf_sz σ) then rr_put_b30 N  σ else ck (rf_sz σ) N (rr_put_b30 N  (rs_f σ (upd (rf_f σ) ((rf_sz σ)).toNatClampNeg (vp_nar .byte ((Int32.toInt8 p0).toInt32)))))))
abbrev rm_rr_put : Room := { frames := 0, cells := 0, slots := 0, locals := 0 }
set_option maxHeartbeats 4000000 in
set_option maxRecDepth 100000 in
theorem rr_put_t30 {p : Program} {l : Launch} {e : Env} {s : State} {m : MethodId} {args : Array Value} {below : List Frame} {meth : Method} {c : Code} {D : va_G} {aK aV : Nat → Nat} {A : Nat → Prop} {cB cI cJ : ClassId} {r b N : Nat} {H : Heap} {locs : List Loc} {ls : Array Slot} {ρ : RSt} {σ : RSt} (G : CX p s m args meth c D (gTy cB cI cJ) aK aV A RX3 cX3_put 2 none) (hl : lv_has ls 2 [(0, .ref (r))]) (hP : va_P D vwCl (rW cB r b N σ) H) (hD : va_D A (rW cB r b N σ)) (hS : va_S A s.heap H locs) (hf : rr_put_b30 N σ = some ρ) : W p l e (rm_rr_put) s m args below meth c H locs 0 0 (MQ below (cQ D (gTy cB cI cJ) A (rW cB r b N ρ) none) args s 0 0 A) (F0 m 30 ls []) := by
  unfold rr_put_b30 at hf
  obtain ⟨hx, hb, hml, hown, hT, hrt, hlk, hK, hA, hG, hE⟩ := id G
  refine lv_aload_n hx hb dX3_put_30 rfl (lv_at hl 0 rfl) ?_
  refine lv_dup hx hb dX3_put_31 rfl ?_
  refine gr_X3_sz (v := (rf_sz σ)) G hP dX3_put_32 rfl ?_
  refine lv_iconst (v := (1 : Int32)) hx hb dX3_put_35 (by decide) ?_
  refine lv_iadd hx hb dX3_put_36 ?_
  refine pr_X3_sz (v := ((rf_sz σ) + (1 : Int32))) G hP hD hS dX3_put_37 (fun H locs hP hD hS => ?_)
  cases hf
  exact ct_vret G hP hD hS dX3_put_40
set_option maxHeartbeats 4000000 in
set_option maxRecDepth 100000 in
theorem rr_put_t0e {p : Program} {l : Launch} {e : Env} {s : State} {m : MethodId} {args : Array Value} {below : List Frame} {meth : Method} {c : Code} {D : va_G} {aK aV : Nat → Nat} {A : Nat → Prop} {cB cI cJ : ClassId} {r b N : Nat} {H : Heap} {locs : List Loc} {ls : Array Slot} {ρ : RSt} {p0 : Int32} {σ : RSt} (G : CX p s m args meth c D (gTy cB cI cJ) aK aV A RX3 cX3_put 2 none) (hl : lv_has ls 2 [(0, .ref (r)), (1, .int p0)]) (hP : va_P D vwCl (rW cB r b N σ) H) (hD : va_D A (rW cB r b N σ)) (hS : va_S A s.heap H locs) (hf : rr_put N p0 σ = some ρ) : W p l e (rm_rr_put) s m args below meth c H locs 0 0 (MQ below (cQ D (gTy cB cI cJ) A (rW cB r b N ρ) none) args s 0 0 A) (F0 m 0 ls []) := by
  unfold rr_put at hf
  obtain ⟨hx, hb, hml, hown, hT, hrt, hlk, hK, hA, hG, hE⟩ := id G
  refine lv_aload_n hx hb dX3_put_0 rfl (lv_at hl 0 rfl) ?_
  refine gr_X3_sz (v := (rf_sz σ)) G hP dX3_put_1 rfl ?_
  refine lv_if_lt (tgt := 30) hx hb dX3_put_4 (by decide) (fun c1 => ?_) (fun c1 => ?_)
  · have hf := (if_pos c1).symm.trans hf
    exact W.eq (g2 := F0 m 30 ls []) rfl (rr_put_t30 G (lv_sub hl [0] rfl) hP hD hS hf)
  · have hf := (if_neg c1).symm.trans hf
    refine lv_aload_n hx hb dX3_put_7 rfl (lv_at hl 0 rfl) ?_
    refine gr_X3_sz (v := (rf_sz σ)) G hP dX3_put_8 rfl ?_
    refine lv_aload_n hx hb dX3_put_11 rfl (lv_at hl 0 rfl) ?_
    refine gr_X3_bytes G hP dX3_put_12 ?_
    refine nr_f (v := (Int32.ofNat N)) G hP rfl dX3_put_15 ?_
    refine lv_icmp_ge (tgt := 30) hx hb dX3_put_16 (by decide) (fun c2 => ?_) (fun c2 => ?_)
    · have hf := (if_pos c2).symm.trans hf
      exact W.eq (g2 := F0 m 30 ls []) rfl (rr_put_t30 G (lv_sub hl [0] rfl) hP hD hS hf)
    · have hf := (if_neg c2).symm.trans hf
      refine lv_aload_n hx hb dX3_put_19 rfl (lv_at hl 0 rfl) ?_
      refine gr_X3_bytes G hP dX3_put_20 ?_
      refine lv_aload_n hx hb dX3_put_23 rfl (lv_at hl 0 rfl) ?_
      refine gr_X3_sz (v := (rf_sz σ)) G hP dX3_put_24 rfl ?_
      refine lv_iload_n hx hb dX3_put_27 rfl (lv_at hl 1 rfl) ?_
      refine lv_i2b (v := ((Int32.toInt8 p0).toInt32)) hx hb dX3_put_28 rfl ?_
      obtain ⟨hi3, hf⟩ := ck_some hf
      refine sr_f (f := (rf_f σ)) G hP hD hS hi3 dX3_put_29 rfl (fun H locs hP hD hS => ?_)
      exact W.eq (g2 := F0 m 30 ls []) rfl (rr_put_t30 G (lv_sub hl [0] rfl) hP hD hS hf)
set_option maxHeartbeats 4000000 in
set_option maxRecDepth 100000 in
theorem c_rr_put {l : Launch} {D : va_G} {aK aV : Nat → Nat} {cB cI cJ : ClassId} {r b N : Nat} {ρ : RSt} {p0 : Int32} {σ : RSt} (hf : rr_put N p0 σ = some ρ) : CT l D (gTy cB cI cJ) aK aV yX3_put (wM yX3_put cX3_put 2 none) (rm_rr_put) 0 0 [.ref (r), .int p0] (rW cB r b N σ) none (rW cB r b N ρ) := by
  refine CT.of (by decide) rfl ?_
  intro p e s m below meth c A G hnm hP hD hS
  have hl := lv_entry [.ref (r), .int p0] (n := 2) (Nat.le_of_ble_eq_true rfl)
  rw [lg_entry_eq]
  generalize (lg_sl [.ref (r), .int p0] ++ List.replicate (2 - (lg_sl [.ref (r), .int p0]).length) Slot.unset).toArray = ls at hl ⊢
  exact rr_put_t0e G hl hP hD hS hf
def rr_putFour (N : Nat) (p0 : Int32) (σ : RSt) : Option (RSt) := bd (rr_put N ((Int32.toUInt32 p0 >>> (Int32.toUInt32 (24 : Int32) &&& Int32.toUInt32 31)).toInt32) σ) (fun (x1 : RSt) => bd (rr_put N ((Int32.toUInt32 p0 >>> (Int32.toUInt32 (16 : Int32) &&& Int32.toUInt32 31)).toInt32) x1) (fun (x2 : RSt) => bd (rr_put N ((Int32.toUInt32 p0 >>> (Int32.toUInt32 (8 : Int32) &&& Int32.toUInt32 31)).toInt32) x2) (fun (x3 : RSt) => bd (rr_put N p0 x3) (fun (x4 : RSt) => some x4))))
abbrev rm_rr_putFour : Room := { frames := 1, cells := 0, slots := 0, locals := 21 }
set_option maxHeartbeats 4000000 in
set_option maxRecDepth 100000 in
theorem rr_putFour_t0e {p : Program} {l : Launch} {e : Env} {s : State} {m : MethodId} {args : Array Value} {below : List Frame} {meth : Method} {c : Code} {D : va_G} {aK aV : Nat → Nat} {A : Nat → Prop} {cB cI cJ : ClassId} {r b N : Nat} {H : Heap} {locs : List Loc} {ls : Array Slot} {ρ : RSt} {p0 : Int32} {σ : RSt} (G : CX p s m args meth c D (gTy cB cI cJ) aK aV A RX3 cX3_putFour 2 none) (hl : lv_has ls 2 [(0, .ref (r)), (1, .int p0)]) (hP : va_P D vwCl (rW cB r b N σ) H) (hD : va_D A (rW cB r b N σ)) (hS : va_S A s.heap H locs) (hf : rr_putFour N p0 σ = some ρ) : W p l e (rm_rr_putFour) s m args below meth c H locs 0 0 (MQ below (cQ D (gTy cB cI cJ) A (rW cB r b N ρ) none) args s 0 0 A) (F0 m 0 ls []) := by
  unfold rr_putFour at hf
  obtain ⟨hx, hb, hml, hown, hT, hrt, hlk, hK, hA, hG, hE⟩ := id G
  refine lv_aload_n hx hb dX3_putFour_0 rfl (lv_at hl 0 rfl) ?_
  refine lv_iload_n hx hb dX3_putFour_1 rfl (lv_at hl 1 rfl) ?_
  refine lv_bipush (v := (24 : Int32)) hx hb dX3_putFour_2 (by decide) ?_
  refine lv_iushr (v := ((Int32.toUInt32 p0 >>> (Int32.toUInt32 (24 : Int32) &&& Int32.toUInt32 31)).toInt32)) hx hb dX3_putFour_4 rfl ?_
  obtain ⟨x1, hx1, hf⟩ := bd_some hf
  refine vR (As := [.int ((Int32.toUInt32 p0 >>> (Int32.toUInt32 (24 : Int32) &&& Int32.toUInt32 31)).toInt32)]) (rest := []) G kX3_25 (c_rr_put hx1) hP hD hS ⟨rfl, rfl, Nat.le_of_ble_eq_true rfl, Nat.le_of_ble_eq_true rfl⟩ ⟨Nat.zero_le _, Nat.zero_le _⟩ rfl hl.1 (Nat.le_of_ble_eq_true rfl) dX3_putFour_5 (fun H locs hP hD hS => ?_)
  refine W.eq (g2 := F0 m 8 ls []) rfl ?_
  refine lv_aload_n hx hb dX3_putFour_8 rfl (lv_at hl 0 rfl) ?_
  refine lv_iload_n hx hb dX3_putFour_9 rfl (lv_at hl 1 rfl) ?_
  refine lv_bipush (v := (16 : Int32)) hx hb dX3_putFour_10 (by decide) ?_
  refine lv_iushr (v := ((Int32.toUInt32 p0 >>> (Int32.toUInt32 (16 : Int32) &&& Int32.toUInt32 31)).toInt32)) hx hb dX3_putFour_12 rfl ?_
  obtain ⟨x2, hx2, hf⟩ := bd_some hf
  refine vR (As := [.int ((Int32.toUInt32 p0 >>> (Int32.toUInt32 (16 : Int32) &&& Int32.toUInt32 31)).toInt32)]) (rest := []) G kX3_25 (c_rr_put hx2) hP hD hS ⟨rfl, rfl, Nat.le_of_ble_eq_true rfl, Nat.le_of_ble_eq_true rfl⟩ ⟨Nat.zero_le _, Nat.zero_le _⟩ rfl hl.1 (Nat.le_of_ble_eq_true rfl) dX3_putFour_13 (fun H locs hP hD hS => ?_)
  refine W.eq (g2 := F0 m 16 ls []) rfl ?_
  refine lv_aload_n hx hb dX3_putFour_16 rfl (lv_at hl 0 rfl) ?_
  refine lv_iload_n hx hb dX3_putFour_17 rfl (lv_at hl 1 rfl) ?_
  refine lv_bipush (v := (8 : Int32)) hx hb dX3_putFour_18 (by decide) ?_
  refine lv_iushr (v := ((Int32.toUInt32 p0 >>> (Int32.toUInt32 (8 : Int32) &&& Int32.toUInt32 31)).toInt32)) hx hb dX3_putFour_20 rfl ?_
  obtain ⟨x3, hx3, hf⟩ := bd_some hf
  refine vR (As := [.int ((Int32.toUInt32 p0 >>> (Int32.toUInt32 (8 : Int32) &&& Int32.toUInt32 31)).toInt32)]) (rest := []) G kX3_25 (c_rr_put hx3) hP hD hS ⟨rfl, rfl, Nat.le_of_ble_eq_true rfl, Nat.le_of_ble_eq_true rfl⟩ ⟨Nat.zero_le _, Nat.zero_le _⟩ rfl hl.1 (Nat.le_of_ble_eq_true rfl) dX3_putFour_21 (fun H locs hP hD hS => ?_)
  refine W.eq (g2 := F0 m 24 ls []) rfl ?_
  refine lv_aload_n hx hb dX3_putFour_24 rfl (lv_at hl 0 rfl) ?_
  refine lv_iload_n hx hb dX3_putFour_25 rfl (lv_at hl 1 rfl) ?_
  obtain ⟨x4, hx4, hf⟩ := bd_some hf
  refine vR (As := [.int p0]) (rest := []) G kX3_25 (c_rr_put hx4) hP hD hS ⟨rfl, rfl, Nat.le_of_ble_eq_true rfl, Nat.le_of_ble_eq_true rfl⟩ ⟨Nat.zero_le _, Nat.zero_le _⟩ rfl hl.1 (Nat.le_of_ble_eq_true rfl) dX3_putFour_26 (fun H locs hP hD hS => ?_)
  refine W.eq (g2 := F0 m 29 ls []) rfl ?_
  cases hf
  exact ct_vret G hP hD hS dX3_putFour_29
set_option maxHeartbeats 4000000 in
set_option maxRecDepth 100000 in
theorem c_rr_putFour {l : Launch} {D : va_G} {aK aV : Nat → Nat} {cB cI cJ : ClassId} {r b N : Nat} {ρ : RSt} {p0 : Int32} {σ : RSt} (hf : rr_putFour N p0 σ = some ρ) : CT l D (gTy cB cI cJ) aK aV yX3_putFour (wM yX3_putFour cX3_putFour 2 none) (rm_rr_putFour) 0 0 [.ref (r), .int p0] (rW cB r b N σ) none (rW cB r b N ρ) := by
  refine CT.of (by decide) rfl ?_
  intro p e s m below meth c A G hnm hP hD hS
  have hl := lv_entry [.ref (r), .int p0] (n := 2) (Nat.le_of_ble_eq_true rfl)
  rw [lg_entry_eq]
  generalize (lg_sl [.ref (r), .int p0] ++ List.replicate (2 - (lg_sl [.ref (r), .int p0]).length) Slot.unset).toArray = ls at hl ⊢
  exact rr_putFour_t0e G hl hP hD hS hf
def rr_putWord_b2 (N : Nat) (sI : Nat) (k2 : Int32 → RSt → Option (RSt)) (a2 : Int32) (σ : RSt) : Option (RSt) := (if (sLen sI) ≤ a2 then some σ else ck a2 (sLn sI) (bd (rr_put N (sCh sI a2) σ) (fun (x3 : RSt) => lt (a2 + (1 : Int32)) (fun (v4 : Int32) => k2 v4 x3))))
def rr_putWord_L2 (N : Nat) (sI : Nat) : Nat → Int32 → RSt → Option (RSt)
  | 0, _, _ => none
  | n + 1, a2, σ => rr_putWord_b2 N sI (rr_putWord_L2 N sI n) a2 σ
def rr_putWord (N : Nat) (sI : Nat) (σ : RSt) : Option (RSt) := rr_putWord_L2 N sI FU (0 : Int32) σ
abbrev rm_rr_putWord : Room := { frames := 4, cells := 0, slots := 0, locals := 85 }
set_option maxHeartbeats 4000000 in
set_option maxRecDepth 100000 in
theorem rr_putWord_t2 {p : Program} {l : Launch} {e : Env} {s : State} {m : MethodId} {args : Array Value} {below : List Frame} {meth : Method} {c : Code} {D : va_G} {aK aV : Nat → Nat} {A : Nat → Prop} {cB cI cJ : ClassId} {r b N : Nat} {H : Heap} {locs : List Loc} {ls : Array Slot} {ρ : RSt} {sI : Nat} (hsI : sI < 6) {k2 : Int32 → RSt → Option (RSt)} {a2 : Int32} {σ : RSt} (G : CX p s m args meth c D (gTy cB cI cJ) aK aV A RX3 cX3_putWord 3 none) (hk2 : ∀ (a2 : Int32) (σ : RSt) (H : Heap) (locs : List Loc) (ls : Array Slot), lv_has ls 3 [(0, .ref (r)), (1, .ref (aK sI)), (2, .int a2)] → va_P D vwCl (rW cB r b N σ) H → va_D A (rW cB r b N σ) → va_S A s.heap H locs → k2 a2 σ = some ρ → W p l e (rm_rr_putWord) s m args below meth c H locs 0 0 (MQ below (cQ D (gTy cB cI cJ) A (rW cB r b N ρ) none) args s 0 0 A) (F0 m 2 ls [])) (hl : lv_has ls 3 [(0, .ref (r)), (1, .ref (aK sI)), (2, .int a2)]) (hP : va_P D vwCl (rW cB r b N σ) H) (hD : va_D A (rW cB r b N σ)) (hS : va_S A s.heap H locs) (hf : rr_putWord_b2 N sI k2 a2 σ = some ρ) : W p l e (rm_rr_putWord) s m args below meth c H locs 0 0 (MQ below (cQ D (gTy cB cI cJ) A (rW cB r b N ρ) none) args s 0 0 A) (F0 m 2 ls []) := by
  unfold rr_putWord_b2 at hf
  obtain ⟨hx, hb, hml, hown, hT, hrt, hlk, hK, hA, hG, hE⟩ := id G
  refine lv_iload_n hx hb dX3_putWord_2 rfl (lv_at hl 2 rfl) ?_
  refine lv_aload_n hx hb dX3_putWord_3 rfl (lv_at hl 1 rfl) ?_
  refine ct_len (rest := [.int a2]) G kX3_29 hsI hP hD hS ⟨Nat.le_of_ble_eq_true rfl, Nat.le_of_ble_eq_true rfl⟩ ⟨Nat.zero_le _, Nat.zero_le _⟩ hl.1 (Nat.le_of_ble_eq_true rfl) dX3_putWord_4 (fun H locs hP hS => ?_)
  refine W.eq (g2 := F0 m 7 ls [.int (sLen sI), .int a2]) rfl ?_
  refine lv_icmp_ge (tgt := 25) hx hb dX3_putWord_7 (by decide) (fun c1 => ?_) (fun c1 => ?_)
  · have hf := (if_pos c1).symm.trans hf
    cases hf
    exact ct_vret G hP hD hS dX3_putWord_25
  · have hf := (if_neg c1).symm.trans hf
    refine lv_aload_n hx hb dX3_putWord_10 rfl (lv_at hl 0 rfl) ?_
    refine lv_aload_n hx hb dX3_putWord_11 rfl (lv_at hl 1 rfl) ?_
    refine lv_iload_n hx hb dX3_putWord_12 rfl (lv_at hl 2 rfl) ?_
    obtain ⟨hi2, hf⟩ := ck_some hf
    refine ct_cha (rest := [.ref (r)]) G kX3_35 hsI hi2 hP hD hS ⟨Nat.le_of_ble_eq_true rfl, Nat.le_of_ble_eq_true rfl⟩ ⟨Nat.zero_le _, Nat.zero_le _⟩ hl.1 (Nat.le_of_ble_eq_true rfl) dX3_putWord_13 (fun H locs hP hS => ?_)
    refine W.eq (g2 := F0 m 16 ls [.int (sCh sI a2), .ref (r)]) rfl ?_
    obtain ⟨x3, hx3, hf⟩ := bd_some hf
    refine vR (As := [.int (sCh sI a2)]) (rest := []) G kX3_25 (c_rr_put hx3) hP hD hS ⟨rfl, rfl, Nat.le_of_ble_eq_true rfl, Nat.le_of_ble_eq_true rfl⟩ ⟨Nat.zero_le _, Nat.zero_le _⟩ rfl hl.1 (Nat.le_of_ble_eq_true rfl) dX3_putWord_16 (fun H locs hP hD hS => ?_)
    refine W.eq (g2 := F0 m 19 ls []) rfl ?_
    obtain ⟨v4, ev4⟩ : ∃ y : Int32, y = (a2 + (1 : Int32)) := ⟨_, rfl⟩
    have hf := lt_eq hf ev4
    refine lv_iinc (v := v4) (lv' := [(2, .int v4), (0, .ref (r)), (1, .ref (aK sI))]) hx hb dX3_putWord_19 hl (k := 2) rfl (by rw [ev4]; rfl) (by decide) rfl (fun ls hl => ?_)
    refine lv_goto (tgt := 2) hx hb dX3_putWord_22 (by decide) ?_
    exact W.eq (g2 := F0 m 2 ls []) rfl (hk2 _ _ _ _ _ (lv_sub hl [1, 2, 0] rfl) hP hD hS hf)
set_option maxHeartbeats 4000000 in
set_option maxRecDepth 100000 in
theorem rr_putWord_u2 {p : Program} {l : Launch} {e : Env} {s : State} {m : MethodId} {args : Array Value} {below : List Frame} {meth : Method} {c : Code} {D : va_G} {aK aV : Nat → Nat} {A : Nat → Prop} {cB cI cJ : ClassId} {r b N : Nat} {ρ : RSt} {sI : Nat} (hsI : sI < 6) (G : CX p s m args meth c D (gTy cB cI cJ) aK aV A RX3 cX3_putWord 3 none) : ∀ (n : Nat) {a2 : Int32} {σ : RSt} {H : Heap} {locs : List Loc} {ls : Array Slot} (hl : lv_has ls 3 [(0, .ref (r)), (1, .ref (aK sI)), (2, .int a2)]) (hP : va_P D vwCl (rW cB r b N σ) H) (hD : va_D A (rW cB r b N σ)) (hS : va_S A s.heap H locs) (hf : rr_putWord_L2 N sI n a2 σ = some ρ), W p l e (rm_rr_putWord) s m args below meth c H locs 0 0 (MQ below (cQ D (gTy cB cI cJ) A (rW cB r b N ρ) none) args s 0 0 A) (F0 m 2 ls []) := by
  intro n
  induction n with
  | zero =>
    intros
    rename_i hf
    cases hf
  | succ n ih =>
    intro a2 σ H locs ls hl hP hD hS hf
    exact rr_putWord_t2 hsI G (fun _ _ H locs ls hl hP hD hS hf => ih hl hP hD hS hf) hl hP hD hS hf
set_option maxHeartbeats 4000000 in
set_option maxRecDepth 100000 in
theorem rr_putWord_t0e {p : Program} {l : Launch} {e : Env} {s : State} {m : MethodId} {args : Array Value} {below : List Frame} {meth : Method} {c : Code} {D : va_G} {aK aV : Nat → Nat} {A : Nat → Prop} {cB cI cJ : ClassId} {r b N : Nat} {H : Heap} {locs : List Loc} {ls : Array Slot} {ρ : RSt} {sI : Nat} (hsI : sI < 6) {σ : RSt} (G : CX p s m args meth c D (gTy cB cI cJ) aK aV A RX3 cX3_putWord 3 none) (hl : lv_has ls 3 [(0, .ref (r)), (1, .ref (aK sI))]) (hP : va_P D vwCl (rW cB r b N σ) H) (hD : va_D A (rW cB r b N σ)) (hS : va_S A s.heap H locs) (hf : rr_putWord N sI σ = some ρ) : W p l e (rm_rr_putWord) s m args below meth c H locs 0 0 (MQ below (cQ D (gTy cB cI cJ) A (rW cB r b N ρ) none) args s 0 0 A) (F0 m 0 ls []) := by
  unfold rr_putWord at hf
  obtain ⟨hx, hb, hml, hown, hT, hrt, hlk, hK, hA, hG, hE⟩ := id G
  refine lv_iconst (v := (0 : Int32)) hx hb dX3_putWord_0 (by decide) ?_
  refine lv_istore_n (lv' := [(2, .int (0 : Int32)), (0, .ref (r)), (1, .ref (aK sI))]) hx hb dX3_putWord_1 rfl hl (by decide) rfl (fun ls hl => ?_)
  exact W.eq (g2 := F0 m 2 ls []) rfl (rr_putWord_u2 hsI G FU (lv_sub hl [1, 2, 0] rfl) hP hD hS hf)
set_option maxHeartbeats 4000000 in
set_option maxRecDepth 100000 in
theorem c_rr_putWord {l : Launch} {D : va_G} {aK aV : Nat → Nat} {cB cI cJ : ClassId} {r b N : Nat} {sI : Nat} (hsI : sI < 6) {ρ : RSt} {σ : RSt} (hf : rr_putWord N sI σ = some ρ) : CT l D (gTy cB cI cJ) aK aV yX3_putWord (wM yX3_putWord cX3_putWord 3 none) (rm_rr_putWord) 0 0 [.ref (r), .ref (aK sI)] (rW cB r b N σ) none (rW cB r b N ρ) := by
  refine CT.of (by decide) rfl ?_
  intro p e s m below meth c A G hnm hP hD hS
  have hl := lv_entry [.ref (r), .ref (aK sI)] (n := 3) (Nat.le_of_ble_eq_true rfl)
  rw [lg_entry_eq]
  generalize (lg_sl [.ref (r), .ref (aK sI)] ++ List.replicate (3 - (lg_sl [.ref (r), .ref (aK sI)]).length) Slot.unset).toArray = ls at hl ⊢
  exact rr_putWord_t0e hsI G hl hP hD hS hf
def rr_cutTo (N : Nat) (p0 : Int32) (σ : RSt) : Option (RSt) := (if p0 < 0 then some σ else (if (rf_sz σ) < p0 then some σ else some (rs_sz σ p0)))
abbrev rm_rr_cutTo : Room := { frames := 0, cells := 0, slots := 0, locals := 0 }
set_option maxHeartbeats 4000000 in
set_option maxRecDepth 100000 in
theorem rr_cutTo_t0e {p : Program} {l : Launch} {e : Env} {s : State} {m : MethodId} {args : Array Value} {below : List Frame} {meth : Method} {c : Code} {D : va_G} {aK aV : Nat → Nat} {A : Nat → Prop} {cB cI cJ : ClassId} {r b N : Nat} {H : Heap} {locs : List Loc} {ls : Array Slot} {ρ : RSt} {p0 : Int32} {σ : RSt} (G : CX p s m args meth c D (gTy cB cI cJ) aK aV A RX3 cX3_cutTo 2 none) (hl : lv_has ls 2 [(0, .ref (r)), (1, .int p0)]) (hP : va_P D vwCl (rW cB r b N σ) H) (hD : va_D A (rW cB r b N σ)) (hS : va_S A s.heap H locs) (hf : rr_cutTo N p0 σ = some ρ) : W p l e (rm_rr_cutTo) s m args below meth c H locs 0 0 (MQ below (cQ D (gTy cB cI cJ) A (rW cB r b N ρ) none) args s 0 0 A) (F0 m 0 ls []) := by
  unfold rr_cutTo at hf
  obtain ⟨hx, hb, hml, hown, hT, hrt, hlk, hK, hA, hG, hE⟩ := id G
  refine lv_iload_n hx hb dX3_cutTo_0 rfl (lv_at hl 1 rfl) ?_
  refine lv_if_lt (tgt := 17) hx hb dX3_cutTo_1 (by decide) (fun c1 => ?_) (fun c1 => ?_)
  · have hf := (if_pos c1).symm.trans hf
    cases hf
    exact ct_vret G hP hD hS dX3_cutTo_17
  · have hf := (if_neg c1).symm.trans hf
    refine lv_iload_n hx hb dX3_cutTo_4 rfl (lv_at hl 1 rfl) ?_
    refine lv_aload_n hx hb dX3_cutTo_5 rfl (lv_at hl 0 rfl) ?_
    refine gr_X3_sz (v := (rf_sz σ)) G hP dX3_cutTo_6 rfl ?_
    refine lv_icmp_gt (tgt := 17) hx hb dX3_cutTo_9 (by decide) (fun c2 => ?_) (fun c2 => ?_)
    · have hf := (if_pos c2).symm.trans hf
      cases hf
      exact ct_vret G hP hD hS dX3_cutTo_17
    · have hf := (if_neg c2).symm.trans hf
      refine lv_aload_n hx hb dX3_cutTo_12 rfl (lv_at hl 0 rfl) ?_
      refine lv_iload_n hx hb dX3_cutTo_13 rfl (lv_at hl 1 rfl) ?_
      refine pr_X3_sz (v := p0) G hP hD hS dX3_cutTo_14 (fun H locs hP hD hS => ?_)
      cases hf
      exact ct_vret G hP hD hS dX3_cutTo_17
set_option maxHeartbeats 4000000 in
set_option maxRecDepth 100000 in
theorem c_rr_cutTo {l : Launch} {D : va_G} {aK aV : Nat → Nat} {cB cI cJ : ClassId} {r b N : Nat} {ρ : RSt} {p0 : Int32} {σ : RSt} (hf : rr_cutTo N p0 σ = some ρ) : CT l D (gTy cB cI cJ) aK aV yX3_cutTo (wM yX3_cutTo cX3_cutTo 2 none) (rm_rr_cutTo) 0 0 [.ref (r), .int p0] (rW cB r b N σ) none (rW cB r b N ρ) := by
  refine CT.of (by decide) rfl ?_
  intro p e s m below meth c A G hnm hP hD hS
  have hl := lv_entry [.ref (r), .int p0] (n := 2) (Nat.le_of_ble_eq_true rfl)
  rw [lg_entry_eq]
  generalize (lg_sl [.ref (r), .int p0] ++ List.replicate (2 - (lg_sl [.ref (r), .int p0]).length) Slot.unset).toArray = ls at hl ⊢
  exact rr_cutTo_t0e G hl hP hD hS hf
def rr_openHead (N : Nat) (σ : RSt) : Option (Int32 × RSt) := bd (rr_put N (0 : Int32) σ) (fun (x1 : RSt) => some (((rf_sz x1) - (1 : Int32)), x1))
abbrev rm_rr_openHead : Room := { frames := 1, cells := 0, slots := 0, locals := 21 }
set_option maxHeartbeats 4000000 in
set_option maxRecDepth 100000 in
theorem rr_openHead_t0e {p : Program} {l : Launch} {e : Env} {s : State} {m : MethodId} {args : Array Value} {below : List Frame} {meth : Method} {c : Code} {D : va_G} {aK aV : Nat → Nat} {A : Nat → Prop} {cB cI cJ : ClassId} {r b N : Nat} {H : Heap} {locs : List Loc} {ls : Array Slot} {ρ : Int32 × RSt} {σ : RSt} (G : CX p s m args meth c D (gTy cB cI cJ) aK aV A RX3 cX3_openHead 1 (some .int)) (hl : lv_has ls 1 [(0, .ref (r))]) (hP : va_P D vwCl (rW cB r b N σ) H) (hD : va_D A (rW cB r b N σ)) (hS : va_S A s.heap H locs) (hf : rr_openHead N σ = some ρ) : W p l e (rm_rr_openHead) s m args below meth c H locs 0 0 (MQ below (cQ D (gTy cB cI cJ) A (rW cB r b N ρ.2) (some (.int ρ.1))) args s 0 0 A) (F0 m 0 ls []) := by
  unfold rr_openHead at hf
  obtain ⟨hx, hb, hml, hown, hT, hrt, hlk, hK, hA, hG, hE⟩ := id G
  refine lv_aload_n hx hb dX3_openHead_0 rfl (lv_at hl 0 rfl) ?_
  refine lv_iconst (v := (0 : Int32)) hx hb dX3_openHead_1 (by decide) ?_
  obtain ⟨x1, hx1, hf⟩ := bd_some hf
  refine vR (As := [.int (0 : Int32)]) (rest := []) G kX3_25 (c_rr_put hx1) hP hD hS ⟨rfl, rfl, Nat.le_of_ble_eq_true rfl, Nat.le_of_ble_eq_true rfl⟩ ⟨Nat.zero_le _, Nat.zero_le _⟩ rfl hl.1 (Nat.le_of_ble_eq_true rfl) dX3_openHead_2 (fun H locs hP hD hS => ?_)
  refine W.eq (g2 := F0 m 5 ls []) rfl ?_
  refine lv_aload_n hx hb dX3_openHead_5 rfl (lv_at hl 0 rfl) ?_
  refine gr_X3_sz (v := (rf_sz x1)) G hP dX3_openHead_6 rfl ?_
  refine lv_iconst (v := (1 : Int32)) hx hb dX3_openHead_9 (by decide) ?_
  refine lv_isub hx hb dX3_openHead_10 ?_
  cases hf
  exact ct_iret G rfl hP hD hS dX3_openHead_11
set_option maxHeartbeats 4000000 in
set_option maxRecDepth 100000 in
theorem c_rr_openHead {l : Launch} {D : va_G} {aK aV : Nat → Nat} {cB cI cJ : ClassId} {r b N : Nat} {ρ : Int32 × RSt} {σ : RSt} (hf : rr_openHead N σ = some ρ) : CT l D (gTy cB cI cJ) aK aV yX3_openHead (wM yX3_openHead cX3_openHead 1 (some .int)) (rm_rr_openHead) 0 0 [.ref (r)] (rW cB r b N σ) (some (.int ρ.1)) (rW cB r b N ρ.2) := by
  refine CT.of (by decide) rfl ?_
  intro p e s m below meth c A G hnm hP hD hS
  have hl := lv_entry [.ref (r)] (n := 1) (Nat.le_of_ble_eq_true rfl)
  rw [lg_entry_eq]
  generalize (lg_sl [.ref (r)] ++ List.replicate (1 - (lg_sl [.ref (r)]).length) Slot.unset).toArray = ls at hl ⊢
  exact rr_openHead_t0e G hl hP hD hS hf
def rr_set (N : Nat) (p0 : Int32) (p1 : Int32) (σ : RSt) : Option (RSt) := (if p0 < 0 then some σ else (if (rf_sz σ) ≤ p0 then some σ else (if (Int32.ofNat N) ≤ p0 then some σ else ck p0 N (some (rs_f σ (upd (rf_f σ) (p0).toNatClampNeg (vp_nar .byte ((Int32.toInt8 p1).toInt32))))))))
abbrev rm_rr_set : Room := { frames := 0, cells := 0, slots := 0, locals := 0 }
set_option maxHeartbeats 4000000 in
set_option maxRecDepth 100000 in
theorem rr_set_t0e {p : Program} {l : Launch} {e : Env} {s : State} {m : MethodId} {args : Array Value} {below : List Frame} {meth : Method} {c : Code} {D : va_G} {aK aV : Nat → Nat} {A : Nat → Prop} {cB cI cJ : ClassId} {r b N : Nat} {H : Heap} {locs : List Loc} {ls : Array Slot} {ρ : RSt} {p0 : Int32} {p1 : Int32} {σ : RSt} (G : CX p s m args meth c D (gTy cB cI cJ) aK aV A RX3 cX3_set 3 none) (hl : lv_has ls 3 [(0, .ref (r)), (1, .int p0), (2, .int p1)]) (hP : va_P D vwCl (rW cB r b N σ) H) (hD : va_D A (rW cB r b N σ)) (hS : va_S A s.heap H locs) (hf : rr_set N p0 p1 σ = some ρ) : W p l e (rm_rr_set) s m args below meth c H locs 0 0 (MQ below (cQ D (gTy cB cI cJ) A (rW cB r b N ρ) none) args s 0 0 A) (F0 m 0 ls []) := by
  unfold rr_set at hf
  obtain ⟨hx, hb, hml, hown, hT, hrt, hlk, hK, hA, hG, hE⟩ := id G
  refine lv_iload_n hx hb dX3_set_0 rfl (lv_at hl 1 rfl) ?_
  refine lv_if_lt (tgt := 29) hx hb dX3_set_1 (by decide) (fun c1 => ?_) (fun c1 => ?_)
  · have hf := (if_pos c1).symm.trans hf
    cases hf
    exact ct_vret G hP hD hS dX3_set_29
  · have hf := (if_neg c1).symm.trans hf
    refine lv_iload_n hx hb dX3_set_4 rfl (lv_at hl 1 rfl) ?_
    refine lv_aload_n hx hb dX3_set_5 rfl (lv_at hl 0 rfl) ?_
    refine gr_X3_sz (v := (rf_sz σ)) G hP dX3_set_6 rfl ?_
    refine lv_icmp_ge (tgt := 29) hx hb dX3_set_9 (by decide) (fun c2 => ?_) (fun c2 => ?_)
    · have hf := (if_pos c2).symm.trans hf
      cases hf
      exact ct_vret G hP hD hS dX3_set_29
    · have hf := (if_neg c2).symm.trans hf
      refine lv_iload_n hx hb dX3_set_12 rfl (lv_at hl 1 rfl) ?_
      refine lv_aload_n hx hb dX3_set_13 rfl (lv_at hl 0 rfl) ?_
      refine gr_X3_bytes G hP dX3_set_14 ?_
      refine nr_f (v := (Int32.ofNat N)) G hP rfl dX3_set_17 ?_
      refine lv_icmp_ge (tgt := 29) hx hb dX3_set_18 (by decide) (fun c3 => ?_) (fun c3 => ?_)
      · have hf := (if_pos c3).symm.trans hf
        cases hf
        exact ct_vret G hP hD hS dX3_set_29
      · have hf := (if_neg c3).symm.trans hf
        refine lv_aload_n hx hb dX3_set_21 rfl (lv_at hl 0 rfl) ?_
        refine gr_X3_bytes G hP dX3_set_22 ?_
        refine lv_iload_n hx hb dX3_set_25 rfl (lv_at hl 1 rfl) ?_
        refine lv_iload_n hx hb dX3_set_26 rfl (lv_at hl 2 rfl) ?_
        refine lv_i2b (v := ((Int32.toInt8 p1).toInt32)) hx hb dX3_set_27 rfl ?_
        obtain ⟨hi4, hf⟩ := ck_some hf
        refine sr_f (f := (rf_f σ)) G hP hD hS hi4 dX3_set_28 rfl (fun H locs hP hD hS => ?_)
        cases hf
        exact ct_vret G hP hD hS dX3_set_29
set_option maxHeartbeats 4000000 in
set_option maxRecDepth 100000 in
theorem c_rr_set {l : Launch} {D : va_G} {aK aV : Nat → Nat} {cB cI cJ : ClassId} {r b N : Nat} {ρ : RSt} {p0 : Int32} {p1 : Int32} {σ : RSt} (hf : rr_set N p0 p1 σ = some ρ) : CT l D (gTy cB cI cJ) aK aV yX3_set (wM yX3_set cX3_set 3 none) (rm_rr_set) 0 0 [.ref (r), .int p0, .int p1] (rW cB r b N σ) none (rW cB r b N ρ) := by
  refine CT.of (by decide) rfl ?_
  intro p e s m below meth c A G hnm hP hD hS
  have hl := lv_entry [.ref (r), .int p0, .int p1] (n := 3) (Nat.le_of_ble_eq_true rfl)
  rw [lg_entry_eq]
  generalize (lg_sl [.ref (r), .int p0, .int p1] ++ List.replicate (3 - (lg_sl [.ref (r), .int p0, .int p1]).length) Slot.unset).toArray = ls at hl ⊢
  exact rr_set_t0e G hl hP hD hS hf
def rr_makeGap_b45 (N : Nat) (a2 : Int32) (σ : RSt) : Option (RSt) := some (rs_sz σ ((rf_sz σ) + a2))
def rr_makeGap (N : Nat) (p0 : Int32) (p1 : Int32) (σ : RSt) : Option (RSt) := lt ((if ((Int32.ofNat N) - p1) < (rf_sz σ) then ((Int32.ofNat N) - p1) else (rf_sz σ)) - p0) (fun (v1 : Int32) => (if p0 < 0 then rr_makeGap_b45 N p1 σ else (if p1 ≤ 0 then rr_makeGap_b45 N p1 σ else (if v1 ≤ 0 then rr_makeGap_b45 N p1 σ else cka (rf_f σ) N N p0 (p0 + p1) v1 (rr_makeGap_b45 N p1 (rs_f σ (va_cpy (rf_f σ) (rf_f σ) (p0).toNatClampNeg ((p0 + p1)).toNatClampNeg (v1).toNatClampNeg)))))))
abbrev rm_rr_makeGap : Room := { frames := 1, cells := 0, slots := 0, locals := 68 }
set_option maxHeartbeats 4000000 in
set_option maxRecDepth 100000 in
theorem rr_makeGap_t45 {p : Program} {l : Launch} {e : Env} {s : State} {m : MethodId} {args : Array Value} {below : List Frame} {meth : Method} {c : Code} {D : va_G} {aK aV : Nat → Nat} {A : Nat → Prop} {cB cI cJ : ClassId} {r b N : Nat} {H : Heap} {locs : List Loc} {ls : Array Slot} {ρ : RSt} {a2 : Int32} {σ : RSt} (G : CX p s m args meth c D (gTy cB cI cJ) aK aV A RX3 cX3_makeGap 4 none) (hl : lv_has ls 4 [(0, .ref (r)), (2, .int a2)]) (hP : va_P D vwCl (rW cB r b N σ) H) (hD : va_D A (rW cB r b N σ)) (hS : va_S A s.heap H locs) (hf : rr_makeGap_b45 N a2 σ = some ρ) : W p l e (rm_rr_makeGap) s m args below meth c H locs 0 0 (MQ below (cQ D (gTy cB cI cJ) A (rW cB r b N ρ) none) args s 0 0 A) (F0 m 45 ls []) := by
  unfold rr_makeGap_b45 at hf
  obtain ⟨hx, hb, hml, hown, hT, hrt, hlk, hK, hA, hG, hE⟩ := id G
  refine lv_aload_n hx hb dX3_makeGap_45 rfl (lv_at hl 0 rfl) ?_
  refine lv_dup hx hb dX3_makeGap_46 rfl ?_
  refine gr_X3_sz (v := (rf_sz σ)) G hP dX3_makeGap_47 rfl ?_
  refine lv_iload_n hx hb dX3_makeGap_50 rfl (lv_at hl 1 rfl) ?_
  refine lv_iadd hx hb dX3_makeGap_51 ?_
  refine pr_X3_sz (v := ((rf_sz σ) + a2)) G hP hD hS dX3_makeGap_52 (fun H locs hP hD hS => ?_)
  cases hf
  exact ct_vret G hP hD hS dX3_makeGap_55
set_option maxHeartbeats 4000000 in
set_option maxRecDepth 100000 in
theorem rr_makeGap_t0e {p : Program} {l : Launch} {e : Env} {s : State} {m : MethodId} {args : Array Value} {below : List Frame} {meth : Method} {c : Code} {D : va_G} {aK aV : Nat → Nat} {A : Nat → Prop} {cB cI cJ : ClassId} {r b N : Nat} {H : Heap} {locs : List Loc} {ls : Array Slot} {ρ : RSt} {p0 : Int32} {p1 : Int32} {σ : RSt} (G : CX p s m args meth c D (gTy cB cI cJ) aK aV A RX3 cX3_makeGap 4 none) (hl : lv_has ls 4 [(0, .ref (r)), (1, .int p0), (2, .int p1)]) (hP : va_P D vwCl (rW cB r b N σ) H) (hD : va_D A (rW cB r b N σ)) (hS : va_S A s.heap H locs) (hf : rr_makeGap N p0 p1 σ = some ρ) : W p l e (rm_rr_makeGap) s m args below meth c H locs 0 0 (MQ below (cQ D (gTy cB cI cJ) A (rW cB r b N ρ) none) args s 0 0 A) (F0 m 0 ls []) := by
  unfold rr_makeGap at hf
  obtain ⟨hx, hb, hml, hown, hT, hrt, hlk, hK, hA, hG, hE⟩ := id G
  refine lv_aload_n hx hb dX3_makeGap_0 rfl (lv_at hl 0 rfl) ?_
  refine gr_X3_sz (v := (rf_sz σ)) G hP dX3_makeGap_1 rfl ?_
  refine lv_aload_n hx hb dX3_makeGap_4 rfl (lv_at hl 0 rfl) ?_
  refine gr_X3_bytes G hP dX3_makeGap_5 ?_
  refine nr_f (v := (Int32.ofNat N)) G hP rfl dX3_makeGap_8 ?_
  refine lv_iload_n hx hb dX3_makeGap_9 rfl (lv_at hl 2 rfl) ?_
  refine lv_isub hx hb dX3_makeGap_10 ?_
  refine mt_min G hl.1 (Nat.le_of_ble_eq_true rfl) (Nat.le_of_ble_eq_true rfl) (Nat.le_of_ble_eq_true rfl) ⟨Nat.zero_le _, Nat.zero_le _⟩ dX3_makeGap_11 ?_
  refine lv_iload_n hx hb dX3_makeGap_14 rfl (lv_at hl 1 rfl) ?_
  refine lv_isub hx hb dX3_makeGap_15 ?_
  refine lv_topi (fun v1 ev1 => ?_)
  have hf := lt_eq hf ev1
  refine lv_istore_n (lv' := [(3, .int v1), (0, .ref (r)), (1, .int p0), (2, .int p1)]) hx hb dX3_makeGap_16 rfl hl (by decide) rfl (fun ls hl => ?_)
  refine lv_iload_n hx hb dX3_makeGap_17 rfl (lv_at hl 2 rfl) ?_
  refine lv_if_lt (tgt := 45) hx hb dX3_makeGap_18 (by decide) (fun c2 => ?_) (fun c2 => ?_)
  · have hf := (if_pos c2).symm.trans hf
    exact W.eq (g2 := F0 m 45 ls []) rfl (rr_makeGap_t45 G (lv_sub hl [1, 3] rfl) hP hD hS hf)
  · have hf := (if_neg c2).symm.trans hf
    refine lv_iload_n hx hb dX3_makeGap_21 rfl (lv_at hl 3 rfl) ?_
    refine lv_if_le (tgt := 45) hx hb dX3_makeGap_22 (by decide) (fun c3 => ?_) (fun c3 => ?_)
    · have hf := (if_pos c3).symm.trans hf
      exact W.eq (g2 := F0 m 45 ls []) rfl (rr_makeGap_t45 G (lv_sub hl [1, 3] rfl) hP hD hS hf)
    · have hf := (if_neg c3).symm.trans hf
      refine lv_iload_n hx hb dX3_makeGap_25 rfl (lv_at hl 0 rfl) ?_
      refine lv_if_le (tgt := 45) hx hb dX3_makeGap_26 (by decide) (fun c4 => ?_) (fun c4 => ?_)
      · have hf := (if_pos c4).symm.trans hf
        exact W.eq (g2 := F0 m 45 ls []) rfl (rr_makeGap_t45 G (lv_sub hl [1, 3] rfl) hP hD hS hf)
      · have hf := (if_neg c4).symm.trans hf
        refine lv_aload_n hx hb dX3_makeGap_29 rfl (lv_at hl 1 rfl) ?_
        refine gr_X3_bytes G hP dX3_makeGap_30 ?_
        refine lv_iload_n hx hb dX3_makeGap_33 rfl (lv_at hl 2 rfl) ?_
        refine lv_aload_n hx hb dX3_makeGap_34 rfl (lv_at hl 1 rfl) ?_
        refine gr_X3_bytes G hP dX3_makeGap_35 ?_
        refine lv_iload_n hx hb dX3_makeGap_38 rfl (lv_at hl 2 rfl) ?_
        refine lv_iload_n hx hb dX3_makeGap_39 rfl (lv_at hl 3 rfl) ?_
        refine lv_iadd hx hb dX3_makeGap_40 ?_
        refine lv_iload_n hx hb dX3_makeGap_41 rfl (lv_at hl 0 rfl) ?_
        obtain ⟨ha5, hf⟩ := cka_some hf
        refine acR (f := (rf_f σ)) G hP hD hS rfl ha5 hl.1 (Nat.le_of_ble_eq_true rfl) (Nat.le_of_ble_eq_true rfl) (Nat.le_of_ble_eq_true rfl) dX3_makeGap_42 (fun H locs hP hD hS => ?_)
        exact W.eq (g2 := F0 m 45 ls []) rfl (rr_makeGap_t45 G (lv_sub hl [1, 3] rfl) hP hD hS hf)
set_option maxHeartbeats 4000000 in
set_option maxRecDepth 100000 in
theorem c_rr_makeGap {l : Launch} {D : va_G} {aK aV : Nat → Nat} {cB cI cJ : ClassId} {r b N : Nat} {ρ : RSt} {p0 : Int32} {p1 : Int32} {σ : RSt} (hf : rr_makeGap N p0 p1 σ = some ρ) : CT l D (gTy cB cI cJ) aK aV yX3_makeGap (wM yX3_makeGap cX3_makeGap 4 none) (rm_rr_makeGap) 0 0 [.ref (r), .int p0, .int p1] (rW cB r b N σ) none (rW cB r b N ρ) := by
  refine CT.of (by decide) rfl ?_
  intro p e s m below meth c A G hnm hP hD hS
  have hl := lv_entry [.ref (r), .int p0, .int p1] (n := 4) (Nat.le_of_ble_eq_true rfl)
  rw [lg_entry_eq]
  generalize (lg_sl [.ref (r), .int p0, .int p1] ++ List.replicate (4 - (lg_sl [.ref (r), .int p0, .int p1]).length) Slot.unset).toArray = ls at hl ⊢
  exact rr_makeGap_t0e G hl hP hD hS hf
def rr_closeHead_b36 (N : Nat) (k36 : Int32 → Int64 → Int32 → Int32 → RSt → Option (RSt)) (a1 : Int32) (a3 : Int64) (a6 : Int32) (a7 : Int32) (σ : RSt) : Option (RSt) := (if a6 ≤ a7 then some σ else bd (rr_set N ((a1 + (1 : Int32)) + a7) (Int64.toInt32 ((Int64.toUInt64 a3 >>> ((Int32.toInt64 ((8 : Int32) * ((a6 - (1 : Int32)) - a7))).toUInt64 &&& Int64.toUInt64 63)).toInt64)) σ) (fun (x6 : RSt) => lt (a7 + (1 : Int32)) (fun (v7 : Int32) => k36 a1 a3 a6 v7 x6)))
def rr_closeHead_L36 (N : Nat) : Nat → Int32 → Int64 → Int32 → Int32 → RSt → Option (RSt)
  | 0, _, _, _, _, _ => none
  | n + 1, a1, a3, a6, a7, σ => rr_closeHead_b36 N (rr_closeHead_L36 N n) a1 a3 a6 a7 σ
def rr_closeHead (N : Nat) (p0 : Int32) (p1 : Int32) (p2 : Int64) (σ : RSt) : Option (RSt) := lt (eX4_shortestInfo p2) (fun (v1 : Int32) => lt (eX4_bytesBehind v1) (fun (v2 : Int32) => bd (rr_makeGap N (p0 + (1 : Int32)) v2 σ) (fun (x3 : RSt) => bd (rr_set N p0 ((p1 <<< ((5 : Int32) &&& 31)) ||| v1) x3) (fun (x4 : RSt) => rr_closeHead_L36 N FU p0 p2 v2 (0 : Int32) x4))))
abbrev rm_rr_closeHead : Room := { frames := 2, cells := 0, slots := 0, locals := 91 }
set_option maxHeartbeats 4000000 in
set_option maxRecDepth 100000 in
theorem rr_closeHead_t36 {p : Program} {l : Launch} {e : Env} {s : State} {m : MethodId} {args : Array Value} {below : List Frame} {meth : Method} {c : Code} {D : va_G} {aK aV : Nat → Nat} {A : Nat → Prop} {cB cI cJ : ClassId} {r b N : Nat} {H : Heap} {locs : List Loc} {ls : Array Slot} {ρ : RSt} {k36 : Int32 → Int64 → Int32 → Int32 → RSt → Option (RSt)} {a1 : Int32} {a3 : Int64} {a6 : Int32} {a7 : Int32} {σ : RSt} (G : CX p s m args meth c D (gTy cB cI cJ) aK aV A RX3 cX3_closeHead 8 none) (hk36 : ∀ (a1 : Int32) (a3 : Int64) (a6 : Int32) (a7 : Int32) (σ : RSt) (H : Heap) (locs : List Loc) (ls : Array Slot), lv_has ls 8 [(0, .ref (r)), (1, .int a1), (3, .long a3), (6, .int a6), (7, .int a7)] → va_P D vwCl (rW cB r b N σ) H → va_D A (rW cB r b N σ) → va_S A s.heap H locs → k36 a1 a3 a6 a7 σ = some ρ → W p l e (rm_rr_closeHead) s m args below meth c H locs 0 0 (MQ below (cQ D (gTy cB cI cJ) A (rW cB r b N ρ) none) args s 0 0 A) (F0 m 36 ls [])) (hl : lv_has ls 8 [(0, .ref (r)), (1, .int a1), (3, .long a3), (6, .int a6), (7, .int a7)]) (hP : va_P D vwCl (rW cB r b N σ) H) (hD : va_D A (rW cB r b N σ)) (hS : va_S A s.heap H locs) (hf : rr_closeHead_b36 N k36 a1 a3 a6 a7 σ = some ρ) : W p l e (rm_rr_closeHead) s m args below meth c H locs 0 0 (MQ below (cQ D (gTy cB cI cJ) A (rW cB r b N ρ) none) args s 0 0 A) (F0 m 36 ls []) := by
  unfold rr_closeHead_b36 at hf
  obtain ⟨hx, hb, hml, hown, hT, hrt, hlk, hK, hA, hG, hE⟩ := id G
  refine lv_iload hx hb dX3_closeHead_36 (lv_at hl 4 rfl) ?_
  refine lv_iload hx hb dX3_closeHead_38 (lv_at hl 3 rfl) ?_
  refine lv_icmp_ge (tgt := 72) hx hb dX3_closeHead_40 (by decide) (fun c5 => ?_) (fun c5 => ?_)
  · have hf := (if_pos c5).symm.trans hf
    cases hf
    exact ct_vret G hP hD hS dX3_closeHead_72
  · have hf := (if_neg c5).symm.trans hf
    refine lv_aload_n hx hb dX3_closeHead_43 rfl (lv_at hl 0 rfl) ?_
    refine lv_iload_n hx hb dX3_closeHead_44 rfl (lv_at hl 1 rfl) ?_
    refine lv_iconst (v := (1 : Int32)) hx hb dX3_closeHead_45 (by decide) ?_
    refine lv_iadd hx hb dX3_closeHead_46 ?_
    refine lv_iload hx hb dX3_closeHead_47 (lv_at hl 4 rfl) ?_
    refine lv_iadd hx hb dX3_closeHead_49 ?_
    refine lv_lload_n hx hb dX3_closeHead_50 rfl (lv_at hl 2 rfl) ?_
    refine lv_bipush (v := (8 : Int32)) hx hb dX3_closeHead_51 (by decide) ?_
    refine lv_iload hx hb dX3_closeHead_53 (lv_at hl 3 rfl) ?_
    refine lv_iconst (v := (1 : Int32)) hx hb dX3_closeHead_55 (by decide) ?_
    refine lv_isub hx hb dX3_closeHead_56 ?_
    refine lv_iload hx hb dX3_closeHead_57 (lv_at hl 4 rfl) ?_
    refine lv_isub hx hb dX3_closeHead_59 ?_
    refine lv_imul hx hb dX3_closeHead_60 ?_
    refine lv_lushr (v := ((Int64.toUInt64 a3 >>> ((Int32.toInt64 ((8 : Int32) * ((a6 - (1 : Int32)) - a7))).toUInt64 &&& Int64.toUInt64 63)).toInt64)) hx hb dX3_closeHead_61 rfl ?_
    refine lv_l2i (v := (Int64.toInt32 ((Int64.toUInt64 a3 >>> ((Int32.toInt64 ((8 : Int32) * ((a6 - (1 : Int32)) - a7))).toUInt64 &&& Int64.toUInt64 63)).toInt64))) hx hb dX3_closeHead_62 rfl ?_
    obtain ⟨x6, hx6, hf⟩ := bd_some hf
    refine vR (As := [.int ((a1 + (1 : Int32)) + a7), .int (Int64.toInt32 ((Int64.toUInt64 a3 >>> ((Int32.toInt64 ((8 : Int32) * ((a6 - (1 : Int32)) - a7))).toUInt64 &&& Int64.toUInt64 63)).toInt64))]) (rest := []) G kX3_60 (c_rr_set hx6) hP hD hS ⟨rfl, rfl, Nat.le_of_ble_eq_true rfl, Nat.le_of_ble_eq_true rfl⟩ ⟨Nat.zero_le _, Nat.zero_le _⟩ rfl hl.1 (Nat.le_of_ble_eq_true rfl) dX3_closeHead_63 (fun H locs hP hD hS => ?_)
    refine W.eq (g2 := F0 m 66 ls []) rfl ?_
    obtain ⟨v7, ev7⟩ : ∃ y : Int32, y = (a7 + (1 : Int32)) := ⟨_, rfl⟩
    have hf := lt_eq hf ev7
    refine lv_iinc (v := v7) (lv' := [(7, .int v7), (0, .ref (r)), (1, .int a1), (3, .long a3), (6, .int a6)]) hx hb dX3_closeHead_66 hl (k := 4) rfl (by rw [ev7]; rfl) (by decide) rfl (fun ls hl => ?_)
    refine lv_goto (tgt := 36) hx hb dX3_closeHead_69 (by decide) ?_
    exact W.eq (g2 := F0 m 36 ls []) rfl (hk36 _ _ _ _ _ _ _ _ (lv_sub hl [1, 2, 3, 4, 0] rfl) hP hD hS hf)
set_option maxHeartbeats 4000000 in
set_option maxRecDepth 100000 in
theorem rr_closeHead_u36 {p : Program} {l : Launch} {e : Env} {s : State} {m : MethodId} {args : Array Value} {below : List Frame} {meth : Method} {c : Code} {D : va_G} {aK aV : Nat → Nat} {A : Nat → Prop} {cB cI cJ : ClassId} {r b N : Nat} {ρ : RSt} (G : CX p s m args meth c D (gTy cB cI cJ) aK aV A RX3 cX3_closeHead 8 none) : ∀ (n : Nat) {a1 : Int32} {a3 : Int64} {a6 : Int32} {a7 : Int32} {σ : RSt} {H : Heap} {locs : List Loc} {ls : Array Slot} (hl : lv_has ls 8 [(0, .ref (r)), (1, .int a1), (3, .long a3), (6, .int a6), (7, .int a7)]) (hP : va_P D vwCl (rW cB r b N σ) H) (hD : va_D A (rW cB r b N σ)) (hS : va_S A s.heap H locs) (hf : rr_closeHead_L36 N n a1 a3 a6 a7 σ = some ρ), W p l e (rm_rr_closeHead) s m args below meth c H locs 0 0 (MQ below (cQ D (gTy cB cI cJ) A (rW cB r b N ρ) none) args s 0 0 A) (F0 m 36 ls []) := by
  intro n
  induction n with
  | zero =>
    intros
    rename_i hf
    cases hf
  | succ n ih =>
    intro a1 a3 a6 a7 σ H locs ls hl hP hD hS hf
    exact rr_closeHead_t36 G (fun _ _ _ _ _ H locs ls hl hP hD hS hf => ih hl hP hD hS hf) hl hP hD hS hf
set_option maxHeartbeats 4000000 in
set_option maxRecDepth 100000 in
theorem rr_closeHead_t0e {p : Program} {l : Launch} {e : Env} {s : State} {m : MethodId} {args : Array Value} {below : List Frame} {meth : Method} {c : Code} {D : va_G} {aK aV : Nat → Nat} {A : Nat → Prop} {cB cI cJ : ClassId} {r b N : Nat} {H : Heap} {locs : List Loc} {ls : Array Slot} {ρ : RSt} {p0 : Int32} {p1 : Int32} {p2 : Int64} {σ : RSt} (G : CX p s m args meth c D (gTy cB cI cJ) aK aV A RX3 cX3_closeHead 8 none) (hl : lv_has ls 8 [(0, .ref (r)), (1, .int p0), (2, .int p1), (3, .long p2)]) (hP : va_P D vwCl (rW cB r b N σ) H) (hD : va_D A (rW cB r b N σ)) (hS : va_S A s.heap H locs) (hf : rr_closeHead N p0 p1 p2 σ = some ρ) : W p l e (rm_rr_closeHead) s m args below meth c H locs 0 0 (MQ below (cQ D (gTy cB cI cJ) A (rW cB r b N ρ) none) args s 0 0 A) (F0 m 0 ls []) := by
  unfold rr_closeHead at hf
  obtain ⟨hx, hb, hml, hown, hT, hrt, hlk, hK, hA, hG, hE⟩ := id G
  refine lv_lload_n hx hb dX3_closeHead_0 rfl (lv_at hl 3 rfl) ?_
  refine ct_sn0 (As := [.long p2]) (rest := []) G kX3_48 (c_eX4_shortestInfo p2) hP hD hS ⟨rfl, rfl, Nat.le_of_ble_eq_true rfl, Nat.le_of_ble_eq_true rfl⟩ ⟨Nat.zero_le _, Nat.zero_le _⟩ rfl hl.1 (Nat.le_of_ble_eq_true rfl) dX3_closeHead_1 (fun H locs hP hS => ?_)
  refine W.eq (g2 := F0 m 4 ls [.int (eX4_shortestInfo p2)]) rfl ?_
  refine lv_topi (fun v1 ev1 => ?_)
  have hf := lt_eq hf ev1
  refine lv_istore (lv' := [(5, .int v1), (0, .ref (r)), (1, .int p0), (2, .int p1), (3, .long p2)]) hx hb dX3_closeHead_4 hl (by decide) rfl (fun ls hl => ?_)
  refine lv_iload hx hb dX3_closeHead_6 (lv_at hl 0 rfl) ?_
  refine ct_sn0 (As := [.int v1]) (rest := []) G kX3_52 (c_eX4_bytesBehind v1) hP hD hS ⟨rfl, rfl, Nat.le_of_ble_eq_true rfl, Nat.le_of_ble_eq_true rfl⟩ ⟨Nat.zero_le _, Nat.zero_le _⟩ rfl hl.1 (Nat.le_of_ble_eq_true rfl) dX3_closeHead_8 (fun H locs hP hS => ?_)
  refine W.eq (g2 := F0 m 11 ls [.int (eX4_bytesBehind v1)]) rfl ?_
  refine lv_topi (fun v2 ev2 => ?_)
  have hf := lt_eq hf ev2
  refine lv_istore (lv' := [(6, .int v2), (5, .int v1), (0, .ref (r)), (1, .int p0), (2, .int p1), (3, .long p2)]) hx hb dX3_closeHead_11 hl (by decide) rfl (fun ls hl => ?_)
  refine lv_aload_n hx hb dX3_closeHead_13 rfl (lv_at hl 2 rfl) ?_
  refine lv_iload_n hx hb dX3_closeHead_14 rfl (lv_at hl 3 rfl) ?_
  refine lv_iconst (v := (1 : Int32)) hx hb dX3_closeHead_15 (by decide) ?_
  refine lv_iadd hx hb dX3_closeHead_16 ?_
  refine lv_iload hx hb dX3_closeHead_17 (lv_at hl 0 rfl) ?_
  obtain ⟨x3, hx3, hf⟩ := bd_some hf
  refine vR (As := [.int (p0 + (1 : Int32)), .int v2]) (rest := []) G kX3_56 (c_rr_makeGap hx3) hP hD hS ⟨rfl, rfl, Nat.le_of_ble_eq_true rfl, Nat.le_of_ble_eq_true rfl⟩ ⟨Nat.zero_le _, Nat.zero_le _⟩ rfl hl.1 (Nat.le_of_ble_eq_true rfl) dX3_closeHead_19 (fun H locs hP hD hS => ?_)
  refine W.eq (g2 := F0 m 22 ls []) rfl ?_
  refine lv_aload_n hx hb dX3_closeHead_22 rfl (lv_at hl 2 rfl) ?_
  refine lv_iload_n hx hb dX3_closeHead_23 rfl (lv_at hl 3 rfl) ?_
  refine lv_iload_n hx hb dX3_closeHead_24 rfl (lv_at hl 4 rfl) ?_
  refine lv_iconst (v := (5 : Int32)) hx hb dX3_closeHead_25 (by decide) ?_
  refine lv_ishl hx hb dX3_closeHead_26 ?_
  refine lv_iload hx hb dX3_closeHead_27 (lv_at hl 1 rfl) ?_
  refine lv_ior hx hb dX3_closeHead_29 ?_
  obtain ⟨x4, hx4, hf⟩ := bd_some hf
  refine vR (As := [.int p0, .int ((p1 <<< ((5 : Int32) &&& 31)) ||| v1)]) (rest := []) G kX3_60 (c_rr_set hx4) hP hD hS ⟨rfl, rfl, Nat.le_of_ble_eq_true rfl, Nat.le_of_ble_eq_true rfl⟩ ⟨Nat.zero_le _, Nat.zero_le _⟩ rfl hl.1 (Nat.le_of_ble_eq_true rfl) dX3_closeHead_30 (fun H locs hP hD hS => ?_)
  refine W.eq (g2 := F0 m 33 ls []) rfl ?_
  refine lv_iconst (v := (0 : Int32)) hx hb dX3_closeHead_33 (by decide) ?_
  refine lv_istore (lv' := [(7, .int (0 : Int32)), (6, .int v2), (5, .int v1), (0, .ref (r)), (1, .int p0), (2, .int p1), (3, .long p2)]) hx hb dX3_closeHead_34 hl (by decide) rfl (fun ls hl => ?_)
  exact W.eq (g2 := F0 m 36 ls []) rfl (rr_closeHead_u36 G FU (lv_sub hl [3, 4, 6, 1, 0] rfl) hP hD hS hf)
set_option maxHeartbeats 4000000 in
set_option maxRecDepth 100000 in
theorem c_rr_closeHead {l : Launch} {D : va_G} {aK aV : Nat → Nat} {cB cI cJ : ClassId} {r b N : Nat} {ρ : RSt} {p0 : Int32} {p1 : Int32} {p2 : Int64} {σ : RSt} (hf : rr_closeHead N p0 p1 p2 σ = some ρ) : CT l D (gTy cB cI cJ) aK aV yX3_closeHead (wM yX3_closeHead cX3_closeHead 8 none) (rm_rr_closeHead) 0 0 [.ref (r), .int p0, .int p1, .long p2] (rW cB r b N σ) none (rW cB r b N ρ) := by
  refine CT.of (by decide) rfl ?_
  intro p e s m below meth c A G hnm hP hD hS
  have hl := lv_entry [.ref (r), .int p0, .int p1, .long p2] (n := 8) (Nat.le_of_ble_eq_true rfl)
  rw [lg_entry_eq]
  generalize (lg_sl [.ref (r), .int p0, .int p1, .long p2] ++ List.replicate (8 - (lg_sl [.ref (r), .int p0, .int p1, .long p2]).length) Slot.unset).toArray = ls at hl ⊢
  exact rr_closeHead_t0e G hl hP hD hS hf
def rr_putHead (N : Nat) (p0 : Int32) (p1 : Int64) (σ : RSt) : Option (RSt) := bd (rr_openHead N  σ) (fun (x1 : Int32 × RSt) => bd (rr_closeHead N x1.1 p0 p1 x1.2) (fun (x2 : RSt) => some x2))
abbrev rm_rr_putHead : Room := { frames := 3, cells := 0, slots := 0, locals := 118 }
set_option maxHeartbeats 4000000 in
set_option maxRecDepth 100000 in
theorem rr_putHead_t0e {p : Program} {l : Launch} {e : Env} {s : State} {m : MethodId} {args : Array Value} {below : List Frame} {meth : Method} {c : Code} {D : va_G} {aK aV : Nat → Nat} {A : Nat → Prop} {cB cI cJ : ClassId} {r b N : Nat} {H : Heap} {locs : List Loc} {ls : Array Slot} {ρ : RSt} {p0 : Int32} {p1 : Int64} {σ : RSt} (G : CX p s m args meth c D (gTy cB cI cJ) aK aV A RX3 cX3_putHead 4 none) (hl : lv_has ls 4 [(0, .ref (r)), (1, .int p0), (2, .long p1)]) (hP : va_P D vwCl (rW cB r b N σ) H) (hD : va_D A (rW cB r b N σ)) (hS : va_S A s.heap H locs) (hf : rr_putHead N p0 p1 σ = some ρ) : W p l e (rm_rr_putHead) s m args below meth c H locs 0 0 (MQ below (cQ D (gTy cB cI cJ) A (rW cB r b N ρ) none) args s 0 0 A) (F0 m 0 ls []) := by
  unfold rr_putHead at hf
  obtain ⟨hx, hb, hml, hown, hT, hrt, hlk, hK, hA, hG, hE⟩ := id G
  refine lv_aload_n hx hb dX3_putHead_0 rfl (lv_at hl 0 rfl) ?_
  refine lv_aload_n hx hb dX3_putHead_1 rfl (lv_at hl 0 rfl) ?_
  obtain ⟨x1, hx1, hf⟩ := bd_some hf
  refine vR (As := []) (rest := [.ref (r)]) G kX3_63 (c_rr_openHead hx1) hP hD hS ⟨rfl, rfl, Nat.le_of_ble_eq_true rfl, Nat.le_of_ble_eq_true rfl⟩ ⟨Nat.zero_le _, Nat.zero_le _⟩ rfl hl.1 (Nat.le_of_ble_eq_true rfl) dX3_putHead_2 (fun H locs hP hD hS => ?_)
  refine W.eq (g2 := F0 m 5 ls [.int x1.1, .ref (r)]) rfl ?_
  refine lv_iload_n hx hb dX3_putHead_5 rfl (lv_at hl 1 rfl) ?_
  refine lv_lload_n hx hb dX3_putHead_6 rfl (lv_at hl 2 rfl) ?_
  obtain ⟨x2, hx2, hf⟩ := bd_some hf
  refine vR (As := [.int x1.1, .int p0, .long p1]) (rest := []) G kX3_66 (c_rr_closeHead hx2) hP hD hS ⟨rfl, rfl, Nat.le_of_ble_eq_true rfl, Nat.le_of_ble_eq_true rfl⟩ ⟨Nat.zero_le _, Nat.zero_le _⟩ rfl hl.1 (Nat.le_of_ble_eq_true rfl) dX3_putHead_7 (fun H locs hP hD hS => ?_)
  refine W.eq (g2 := F0 m 10 ls []) rfl ?_
  cases hf
  exact ct_vret G hP hD hS dX3_putHead_10
set_option maxHeartbeats 4000000 in
set_option maxRecDepth 100000 in
theorem c_rr_putHead {l : Launch} {D : va_G} {aK aV : Nat → Nat} {cB cI cJ : ClassId} {r b N : Nat} {ρ : RSt} {p0 : Int32} {p1 : Int64} {σ : RSt} (hf : rr_putHead N p0 p1 σ = some ρ) : CT l D (gTy cB cI cJ) aK aV yX3_putHead (wM yX3_putHead cX3_putHead 4 none) (rm_rr_putHead) 0 0 [.ref (r), .int p0, .long p1] (rW cB r b N σ) none (rW cB r b N ρ) := by
  refine CT.of (by decide) rfl ?_
  intro p e s m below meth c A G hnm hP hD hS
  have hl := lv_entry [.ref (r), .int p0, .long p1] (n := 4) (Nat.le_of_ble_eq_true rfl)
  rw [lg_entry_eq]
  generalize (lg_sl [.ref (r), .int p0, .long p1] ++ List.replicate (4 - (lg_sl [.ref (r), .int p0, .long p1]).length) Slot.unset).toArray = ls at hl ⊢
  exact rr_putHead_t0e G hl hP hD hS hf
def rr_signLength_b46 (N : Nat) (k46 : Int32 → Int32 → Int32 → Int32 → RSt → Option (Int32 × RSt)) (a1 : Int32) (a4 : Int32) (a5 : Int32) (a6 : Int32) (σ : RSt) : Option (Int32 × RSt) := (if a4 ≤ a6 then (if (eX4_isSignOf a5 a4) = true then some (a4, σ) else some ((0 : Int32), σ)) else bd (rr_at N (a1 + a6) σ) (fun (x8 : Int32 × RSt) => (if x8.1 < (128 : Int32) then some ((0 : Int32), x8.2) else (if x8.1 ≤ (191 : Int32) then lt ((a5 <<< ((6 : Int32) &&& 31)) ||| (x8.1 &&& (63 : Int32))) (fun (v11 : Int32) => lt (a6 + (1 : Int32)) (fun (v12 : Int32) => k46 a1 a4 v11 v12 x8.2)) else some ((0 : Int32), x8.2)))))
def rr_signLength_L46 (N : Nat) : Nat → Int32 → Int32 → Int32 → Int32 → RSt → Option (Int32 × RSt)
  | 0, _, _, _, _, _ => none
  | n + 1, a1, a4, a5, a6, σ => rr_signLength_b46 N (rr_signLength_L46 N n) a1 a4 a5 a6 σ
def rr_signLength (N : Nat) (p1 : Int32) (p2 : Int32) (σ : RSt) : Option (Int32 × RSt) := bd (rr_at N p1 σ) (fun (x1 : Int32 × RSt) => lt (eX4_lengthByFirst x1.1) (fun (v2 : Int32) => (if (2 : Int32) ≤ v2 then (if v2 ≤ (p2 - p1) then lt (x1.1 &&& ((255 : Int32) >>> ((v2 + (1 : Int32)) &&& 31))) (fun (v5 : Int32) => rr_signLength_L46 N FU p1 v2 v5 (1 : Int32) x1.2) else some ((0 : Int32), x1.2)) else some (v2, x1.2))))
abbrev rm_rr_signLength : Room := { frames := 1, cells := 0, slots := 0, locals := 21 }
set_option maxHeartbeats 4000000 in
set_option maxRecDepth 100000 in
theorem rr_signLength_t46 {p : Program} {l : Launch} {e : Env} {s : State} {m : MethodId} {args : Array Value} {below : List Frame} {meth : Method} {c : Code} {D : va_G} {aK aV : Nat → Nat} {A : Nat → Prop} {cB cI cJ : ClassId} {r b N : Nat} {H : Heap} {locs : List Loc} {ls : Array Slot} {ρ : Int32 × RSt} {k46 : Int32 → Int32 → Int32 → Int32 → RSt → Option (Int32 × RSt)} {a1 : Int32} {a4 : Int32} {a5 : Int32} {a6 : Int32} {σ : RSt} (G : CX p s m args meth c D (gTy cB cI cJ) aK aV A RX4 cX4_signLength 8 (some .int)) (hk46 : ∀ (a1 : Int32) (a4 : Int32) (a5 : Int32) (a6 : Int32) (σ : RSt) (H : Heap) (locs : List Loc) (ls : Array Slot), lv_has ls 8 [(0, .ref (r)), (1, .int a1), (4, .int a4), (5, .int a5), (6, .int a6)] → va_P D vwCl (rW cB r b N σ) H → va_D A (rW cB r b N σ) → va_S A s.heap H locs → k46 a1 a4 a5 a6 σ = some ρ → W p l e (rm_rr_signLength) s m args below meth c H locs 0 0 (MQ below (cQ D (gTy cB cI cJ) A (rW cB r b N ρ.2) (some (.int ρ.1))) args s 0 0 A) (F0 m 46 ls [])) (hl : lv_has ls 8 [(0, .ref (r)), (1, .int a1), (4, .int a4), (5, .int a5), (6, .int a6)]) (hP : va_P D vwCl (rW cB r b N σ) H) (hD : va_D A (rW cB r b N σ)) (hS : va_S A s.heap H locs) (hf : rr_signLength_b46 N k46 a1 a4 a5 a6 σ = some ρ) : W p l e (rm_rr_signLength) s m args below meth c H locs 0 0 (MQ below (cQ D (gTy cB cI cJ) A (rW cB r b N ρ.2) (some (.int ρ.1))) args s 0 0 A) (F0 m 46 ls []) := by
  unfold rr_signLength_b46 at hf
  obtain ⟨hx, hb, hml, hown, hT, hrt, hlk, hK, hA, hG, hE⟩ := id G
  refine lv_iload hx hb dX4_signLength_46 (lv_at hl 4 rfl) ?_
  refine lv_iload hx hb dX4_signLength_48 (lv_at hl 2 rfl) ?_
  refine lv_icmp_ge (tgt := 100) hx hb dX4_signLength_50 (by decide) (fun c6 => ?_) (fun c6 => ?_)
  · have hf := (if_pos c6).symm.trans hf
    refine lv_iload hx hb dX4_signLength_100 (lv_at hl 3 rfl) ?_
    refine lv_iload hx hb dX4_signLength_102 (lv_at hl 2 rfl) ?_
    refine ct_s0 (As := [.int a5, .int a4]) (rest := []) G kX4_100 (c_eX4_isSignOf a5 a4) hP hD hS ⟨rfl, rfl, Nat.le_of_ble_eq_true rfl, Nat.le_of_ble_eq_true rfl⟩ ⟨Nat.zero_le _, Nat.zero_le _⟩ rfl hl.1 (Nat.le_of_ble_eq_true rfl) dX4_signLength_104 (fun H locs hP hS => ?_)
    refine W.eq (g2 := F0 m 107 ls [.int (bI (eX4_isSignOf a5 a4))]) rfl ?_
    refine lv_if_eq (tgt := 115) hx hb dX4_signLength_107 (by decide) (fun c7 => ?_) (fun c7 => ?_)
    · have hf := (if_neg (bI_0 c7)).symm.trans hf
      refine lv_iconst (v := (0 : Int32)) hx hb dX4_signLength_115 (by decide) ?_
      cases hf
      exact ct_iret G rfl hP hD hS dX4_signLength_116
    · have hf := (if_pos (bI_n c7)).symm.trans hf
      refine lv_iload hx hb dX4_signLength_110 (lv_at hl 2 rfl) ?_
      refine lv_goto (tgt := 116) hx hb dX4_signLength_112 (by decide) ?_
      cases hf
      exact ct_iret G rfl hP hD hS dX4_signLength_116
  · have hf := (if_neg c6).symm.trans hf
    refine lv_aload_n hx hb dX4_signLength_53 rfl (lv_at hl 0 rfl) ?_
    refine lv_iload_n hx hb dX4_signLength_54 rfl (lv_at hl 1 rfl) ?_
    refine lv_iload hx hb dX4_signLength_55 (lv_at hl 4 rfl) ?_
    refine lv_iadd hx hb dX4_signLength_57 ?_
    obtain ⟨x8, hx8, hf⟩ := bd_some hf
    refine vR (As := [.int (a1 + a6)]) (rest := []) G kX4_72 (c_rr_at hx8) hP hD hS ⟨rfl, rfl, Nat.le_of_ble_eq_true rfl, Nat.le_of_ble_eq_true rfl⟩ ⟨Nat.zero_le _, Nat.zero_le _⟩ rfl hl.1 (Nat.le_of_ble_eq_true rfl) dX4_signLength_58 (fun H locs hP hD hS => ?_)
    refine W.eq (g2 := F0 m 61 ls [.int x8.1]) rfl ?_
    refine lv_istore (lv' := [(7, .int x8.1), (0, .ref (r)), (1, .int a1), (4, .int a4), (5, .int a5), (6, .int a6)]) hx hb dX4_signLength_61 hl (by decide) rfl (fun ls hl => ?_)
    refine lv_iload hx hb dX4_signLength_63 (lv_at hl 0 rfl) ?_
    refine lv_sipush (v := (128 : Int32)) hx hb dX4_signLength_65 (by decide) ?_
    refine lv_icmp_lt (tgt := 79) hx hb dX4_signLength_68 (by decide) (fun c9 => ?_) (fun c9 => ?_)
    · have hf := (if_pos c9).symm.trans hf
      refine lv_iconst (v := (0 : Int32)) hx hb dX4_signLength_79 (by decide) ?_
      cases hf
      exact ct_iret G rfl hP hD hS dX4_signLength_80
    · have hf := (if_neg c9).symm.trans hf
      refine lv_iload hx hb dX4_signLength_71 (lv_at hl 0 rfl) ?_
      refine lv_sipush (v := (191 : Int32)) hx hb dX4_signLength_73 (by decide) ?_
      refine lv_icmp_le (tgt := 81) hx hb dX4_signLength_76 (by decide) (fun c10 => ?_) (fun c10 => ?_)
      · have hf := (if_pos c10).symm.trans hf
        refine lv_iload hx hb dX4_signLength_81 (lv_at hl 4 rfl) ?_
        refine lv_bipush (v := (6 : Int32)) hx hb dX4_signLength_83 (by decide) ?_
        refine lv_ishl hx hb dX4_signLength_85 ?_
        refine lv_iload hx hb dX4_signLength_86 (lv_at hl 0 rfl) ?_
        refine lv_bipush (v := (63 : Int32)) hx hb dX4_signLength_88 (by decide) ?_
        refine lv_iand hx hb dX4_signLength_90 ?_
        refine lv_ior hx hb dX4_signLength_91 ?_
        refine lv_topi (fun v11 ev11 => ?_)
        have hf := lt_eq hf ev11
        refine lv_istore (lv' := [(5, .int v11), (7, .int x8.1), (0, .ref (r)), (1, .int a1), (4, .int a4), (6, .int a6)]) hx hb dX4_signLength_92 hl (by decide) rfl (fun ls hl => ?_)
        obtain ⟨v12, ev12⟩ : ∃ y : Int32, y = (a6 + (1 : Int32)) := ⟨_, rfl⟩
        have hf := lt_eq hf ev12
        refine lv_iinc (v := v12) (lv' := [(6, .int v12), (5, .int v11), (7, .int x8.1), (0, .ref (r)), (1, .int a1), (4, .int a4)]) hx hb dX4_signLength_94 hl (k := 5) rfl (by rw [ev12]; rfl) (by decide) rfl (fun ls hl => ?_)
        refine lv_goto (tgt := 46) hx hb dX4_signLength_97 (by decide) ?_
        exact W.eq (g2 := F0 m 46 ls []) rfl (hk46 _ _ _ _ _ _ _ _ (lv_sub hl [3, 4, 5, 1, 0] rfl) hP hD hS hf)
      · have hf := (if_neg c10).symm.trans hf
        refine lv_iconst (v := (0 : Int32)) hx hb dX4_signLength_79 (by decide) ?_
        cases hf
        exact ct_iret G rfl hP hD hS dX4_signLength_80
set_option maxHeartbeats 4000000 in
set_option maxRecDepth 100000 in
theorem rr_signLength_u46 {p : Program} {l : Launch} {e : Env} {s : State} {m : MethodId} {args : Array Value} {below : List Frame} {meth : Method} {c : Code} {D : va_G} {aK aV : Nat → Nat} {A : Nat → Prop} {cB cI cJ : ClassId} {r b N : Nat} {ρ : Int32 × RSt} (G : CX p s m args meth c D (gTy cB cI cJ) aK aV A RX4 cX4_signLength 8 (some .int)) : ∀ (n : Nat) {a1 : Int32} {a4 : Int32} {a5 : Int32} {a6 : Int32} {σ : RSt} {H : Heap} {locs : List Loc} {ls : Array Slot} (hl : lv_has ls 8 [(0, .ref (r)), (1, .int a1), (4, .int a4), (5, .int a5), (6, .int a6)]) (hP : va_P D vwCl (rW cB r b N σ) H) (hD : va_D A (rW cB r b N σ)) (hS : va_S A s.heap H locs) (hf : rr_signLength_L46 N n a1 a4 a5 a6 σ = some ρ), W p l e (rm_rr_signLength) s m args below meth c H locs 0 0 (MQ below (cQ D (gTy cB cI cJ) A (rW cB r b N ρ.2) (some (.int ρ.1))) args s 0 0 A) (F0 m 46 ls []) := by
  intro n
  induction n with
  | zero =>
    intros
    rename_i hf
    cases hf
  | succ n ih =>
    intro a1 a4 a5 a6 σ H locs ls hl hP hD hS hf
    exact rr_signLength_t46 G (fun _ _ _ _ _ H locs ls hl hP hD hS hf => ih hl hP hD hS hf) hl hP hD hS hf
set_option maxHeartbeats 4000000 in
set_option maxRecDepth 100000 in
theorem rr_signLength_t0e {p : Program} {l : Launch} {e : Env} {s : State} {m : MethodId} {args : Array Value} {below : List Frame} {meth : Method} {c : Code} {D : va_G} {aK aV : Nat → Nat} {A : Nat → Prop} {cB cI cJ : ClassId} {r b N : Nat} {H : Heap} {locs : List Loc} {ls : Array Slot} {ρ : Int32 × RSt} {p1 : Int32} {p2 : Int32} {σ : RSt} (G : CX p s m args meth c D (gTy cB cI cJ) aK aV A RX4 cX4_signLength 8 (some .int)) (hl : lv_has ls 8 [(0, .ref (r)), (1, .int p1), (2, .int p2)]) (hP : va_P D vwCl (rW cB r b N σ) H) (hD : va_D A (rW cB r b N σ)) (hS : va_S A s.heap H locs) (hf : rr_signLength N p1 p2 σ = some ρ) : W p l e (rm_rr_signLength) s m args below meth c H locs 0 0 (MQ below (cQ D (gTy cB cI cJ) A (rW cB r b N ρ.2) (some (.int ρ.1))) args s 0 0 A) (F0 m 0 ls []) := by
  unfold rr_signLength at hf
  obtain ⟨hx, hb, hml, hown, hT, hrt, hlk, hK, hA, hG, hE⟩ := id G
  refine lv_aload_n hx hb dX4_signLength_0 rfl (lv_at hl 0 rfl) ?_
  refine lv_iload_n hx hb dX4_signLength_1 rfl (lv_at hl 1 rfl) ?_
  obtain ⟨x1, hx1, hf⟩ := bd_some hf
  refine vR (As := [.int p1]) (rest := []) G kX4_72 (c_rr_at hx1) hP hD hS ⟨rfl, rfl, Nat.le_of_ble_eq_true rfl, Nat.le_of_ble_eq_true rfl⟩ ⟨Nat.zero_le _, Nat.zero_le _⟩ rfl hl.1 (Nat.le_of_ble_eq_true rfl) dX4_signLength_2 (fun H locs hP hD hS => ?_)
  refine W.eq (g2 := F0 m 5 ls [.int x1.1]) rfl ?_
  refine lv_istore_n (lv' := [(3, .int x1.1), (0, .ref (r)), (1, .int p1), (2, .int p2)]) hx hb dX4_signLength_5 rfl hl (by decide) rfl (fun ls hl => ?_)
  refine lv_iload_n hx hb dX4_signLength_6 rfl (lv_at hl 0 rfl) ?_
  refine ct_s0 (As := [.int x1.1]) (rest := []) G kX4_97 (c_eX4_lengthByFirst x1.1) hP hD hS ⟨rfl, rfl, Nat.le_of_ble_eq_true rfl, Nat.le_of_ble_eq_true rfl⟩ ⟨Nat.zero_le _, Nat.zero_le _⟩ rfl hl.1 (Nat.le_of_ble_eq_true rfl) dX4_signLength_7 (fun H locs hP hS => ?_)
  refine W.eq (g2 := F0 m 10 ls [.int (eX4_lengthByFirst x1.1)]) rfl ?_
  refine lv_topi (fun v2 ev2 => ?_)
  have hf := lt_eq hf ev2
  refine lv_istore (lv' := [(4, .int v2), (3, .int x1.1), (0, .ref (r)), (1, .int p1), (2, .int p2)]) hx hb dX4_signLength_10 hl (by decide) rfl (fun ls hl => ?_)
  refine lv_iload hx hb dX4_signLength_12 (lv_at hl 0 rfl) ?_
  refine lv_iconst (v := (2 : Int32)) hx hb dX4_signLength_14 (by decide) ?_
  refine lv_icmp_ge (tgt := 21) hx hb dX4_signLength_15 (by decide) (fun c3 => ?_) (fun c3 => ?_)
  · have hf := (if_pos c3).symm.trans hf
    refine lv_iload hx hb dX4_signLength_21 (lv_at hl 0 rfl) ?_
    refine lv_iload_n hx hb dX4_signLength_23 rfl (lv_at hl 4 rfl) ?_
    refine lv_iload_n hx hb dX4_signLength_24 rfl (lv_at hl 3 rfl) ?_
    refine lv_isub hx hb dX4_signLength_25 ?_
    refine lv_icmp_le (tgt := 31) hx hb dX4_signLength_26 (by decide) (fun c4 => ?_) (fun c4 => ?_)
    · have hf := (if_pos c4).symm.trans hf
      refine lv_iload_n hx hb dX4_signLength_31 rfl (lv_at hl 1 rfl) ?_
      refine lv_sipush (v := (255 : Int32)) hx hb dX4_signLength_32 (by decide) ?_
      refine lv_iload hx hb dX4_signLength_35 (lv_at hl 0 rfl) ?_
      refine lv_iconst (v := (1 : Int32)) hx hb dX4_signLength_37 (by decide) ?_
      refine lv_iadd hx hb dX4_signLength_38 ?_
      refine lv_ishr hx hb dX4_signLength_39 ?_
      refine lv_iand hx hb dX4_signLength_40 ?_
      refine lv_topi (fun v5 ev5 => ?_)
      have hf := lt_eq hf ev5
      refine lv_istore (lv' := [(5, .int v5), (4, .int v2), (3, .int x1.1), (0, .ref (r)), (1, .int p1), (2, .int p2)]) hx hb dX4_signLength_41 hl (by decide) rfl (fun ls hl => ?_)
      refine lv_iconst (v := (1 : Int32)) hx hb dX4_signLength_43 (by decide) ?_
      refine lv_istore (lv' := [(6, .int (1 : Int32)), (5, .int v5), (4, .int v2), (3, .int x1.1), (0, .ref (r)), (1, .int p1), (2, .int p2)]) hx hb dX4_signLength_44 hl (by decide) rfl (fun ls hl => ?_)
      exact W.eq (g2 := F0 m 46 ls []) rfl (rr_signLength_u46 G FU (lv_sub hl [4, 5, 2, 1, 0] rfl) hP hD hS hf)
    · have hf := (if_neg c4).symm.trans hf
      refine lv_iconst (v := (0 : Int32)) hx hb dX4_signLength_29 (by decide) ?_
      cases hf
      exact ct_iret G rfl hP hD hS dX4_signLength_30
  · have hf := (if_neg c3).symm.trans hf
    refine lv_iload hx hb dX4_signLength_18 (lv_at hl 0 rfl) ?_
    cases hf
    exact ct_iret G rfl hP hD hS dX4_signLength_20
set_option maxHeartbeats 4000000 in
set_option maxRecDepth 100000 in
theorem c_rr_signLength {l : Launch} {D : va_G} {aK aV : Nat → Nat} {cB cI cJ : ClassId} {r b N : Nat} {ρ : Int32 × RSt} {p1 : Int32} {p2 : Int32} {σ : RSt} (hf : rr_signLength N p1 p2 σ = some ρ) : CT l D (gTy cB cI cJ) aK aV yX4_signLength (wM yX4_signLength cX4_signLength 8 (some .int)) (rm_rr_signLength) 0 0 [.ref (r), .int p1, .int p2] (rW cB r b N σ) (some (.int ρ.1)) (rW cB r b N ρ.2) := by
  refine CT.of (by decide) rfl ?_
  intro p e s m below meth c A G hnm hP hD hS
  have hl := lv_entry [.ref (r), .int p1, .int p2] (n := 8) (Nat.le_of_ble_eq_true rfl)
  rw [lg_entry_eq]
  generalize (lg_sl [.ref (r), .int p1, .int p2] ++ List.replicate (8 - (lg_sl [.ref (r), .int p1, .int p2]).length) Slot.unset).toArray = ls at hl ⊢
  exact rr_signLength_t0e G hl hP hD hS hf
