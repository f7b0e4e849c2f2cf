/-! THE BRIDGE: a row taken from another; the public methods -/
def rr_copyFrom (N N2 : Nat) (σ τ : RSt) : Option RSt := lt (if (if (Int32.ofNat N) < (Int32.ofNat N2) then (Int32.ofNat N) else (Int32.ofNat N2)) < rf_sz τ then (if (Int32.ofNat N) < (Int32.ofNat N2) then (Int32.ofNat N) else (Int32.ofNat N2)) else rf_sz τ) (fun (k : Int32) => cka (rf_f τ) N2 N (0 : Int32) (0 : Int32) k (some (rs_sz (rs_f σ (va_cpy (rf_f τ) (rf_f σ) (0 : Int32).toNatClampNeg (0 : Int32).toNatClampNeg k.toNatClampNeg)) k)))
set_option maxHeartbeats 4000000 in
set_option maxRecDepth 100000 in
theorem c_copy {l : Launch} {D : va_G} {aK aV : Nat → Nat} {cB cI cJ : ClassId} {r b N r2 b2 N2 : Nat} {σ τ ρ : RSt} (hf : rr_copyFrom N N2 σ τ = some ρ) : CT l D (gTy cB cI cJ) aK aV yX3_copyFrom (wM yX3_copyFrom cX3_copyFrom 3 none) { frames := 1, cells := 0, slots := 0, locals := 68 } 0 0 [.ref r, .ref r2] (rW cB r b N σ ++ rW cB r2 b2 N2 τ) none (rW cB r b N ρ ++ rW cB r2 b2 N2 τ) := by
  refine CT.of (by decide) rfl ?_
  intro p e s m below meth c A G hnm hP hD hS
  obtain ⟨hx, hb, hml, hown, hT, hrt, hlk, hK, hA, hG, hE⟩ := id G
  have hl := lv_entry [.ref r, .ref r2] (n := 3) (Nat.le_of_ble_eq_true rfl)
  rw [lg_entry_eq]
  generalize (lg_sl [.ref r, .ref r2] ++ List.replicate (3 - (lg_sl [.ref r, .ref r2]).length) Slot.unset).toArray = ls at hl ⊢
  have hl : lv_has ls 3 [(0, .ref r), (1, .ref r2)] := hl
  unfold rr_copyFrom at hf
  refine lv_aload_n hx hb dX3_copyFrom_0 rfl (lv_at hl 1 rfl) ?_
  refine va_get (ci := 2) (v := .int (rf_sz τ)) (C := RX3) (T := TX3) (N := 2) hx hb hT i_X3 hown hK hP 2 rfl rfl 1 (by decide) (hT _ wfl_X3_21) (fun _ h9 => h9) rfl dX3_copyFrom_1 ?_
  refine lv_aload_n hx hb dX3_copyFrom_4 rfl (lv_at hl 1 rfl) ?_
  refine va_get (ci := 2) (v := .ref b2) (C := RX3) (T := TX3) (N := 2) hx hb hT i_X3 hown hK hP 2 rfl rfl 0 (by decide) (hT _ wfl_X3_15) (fun _ h9 => h9) rfl dX3_copyFrom_5 ?_
  refine va_alen hx hb hK hP 3 0 rfl rfl (v := Int32.ofNat N2) rfl dX3_copyFrom_8 ?_
  refine lv_aload_n hx hb dX3_copyFrom_9 rfl (lv_at hl 0 rfl) ?_
  refine va_get (ci := 2) (v := .ref b) (C := RX3) (T := TX3) (N := 2) hx hb hT i_X3 hown hK hP 0 rfl rfl 0 (by decide) (hT _ wfl_X3_15) (fun _ h9 => h9) rfl dX3_copyFrom_10 ?_
  refine va_alen hx hb hK hP 1 0 rfl rfl (v := Int32.ofNat N) rfl dX3_copyFrom_13 ?_
  refine mt_min G hl.1 (Nat.le_of_ble_eq_true rfl) (Nat.le_of_ble_eq_true rfl) (Nat.le_of_ble_eq_true rfl) ⟨Nat.zero_le _, Nat.zero_le _⟩ dX3_copyFrom_14 ?_
  refine mt_min G hl.1 (Nat.le_of_ble_eq_true rfl) (Nat.le_of_ble_eq_true rfl) (Nat.le_of_ble_eq_true rfl) ⟨Nat.zero_le _, Nat.zero_le _⟩ dX3_copyFrom_17 ?_
  refine lv_topi (fun k ek => ?_)
  have hf := lt_eq hf ek
  obtain ⟨⟨h1, h2, h3, h4, h5, h6⟩, hf⟩ := cka_some hf
  refine lv_istore_n (lv' := [(2, .int k), (0, .ref r), (1, .ref r2)]) hx hb dX3_copyFrom_20 rfl hl (by decide) rfl (fun ls hl => ?_)
  refine lv_aload_n hx hb dX3_copyFrom_21 rfl (lv_at hl 2 rfl) ?_
  refine va_get (ci := 2) (v := .ref b2) (C := RX3) (T := TX3) (N := 2) hx hb hT i_X3 hown hK hP 2 rfl rfl 0 (by decide) (hT _ wfl_X3_15) (fun _ h9 => h9) rfl dX3_copyFrom_22 ?_
  refine lv_iconst (v := 0) hx hb dX3_copyFrom_25 (by decide) ?_
  refine lv_aload_n hx hb dX3_copyFrom_26 rfl (lv_at hl 1 rfl) ?_
  refine va_get (ci := 2) (v := .ref b) (C := RX3) (T := TX3) (N := 2) hx hb hT i_X3 hown hK hP 0 rfl rfl 0 (by decide) (hT _ wfl_X3_15) (fun _ h9 => h9) rfl dX3_copyFrom_27 ?_
  refine lv_iconst (v := 0) hx hb dX3_copyFrom_30 (by decide) ?_
  refine lv_iload_n hx hb dX3_copyFrom_31 rfl (lv_at hl 0 rfl) ?_
  have hw := ac_words
  refine va_copyi (ty := .byte) hx hb (hml.trans hl.1.symm) hown (hT _ wacp.1.1) (hT _ wacp.1.2) (hT _ wacp.2.1) (hT _ wacp.2.2) hK hP hD hS 3 1 0 0 rfl rfl rfl rfl rfl h1 h2 h3 h4 h5 (fun i hi => List.all_eq_true.mp h6 i (List.mem_range.mpr hi)) (Nat.le_of_ble_eq_true rfl) (by show 0 + _ ≤ 68; omega) dX3_copyFrom_32 (fun H locs hP hD hS => ?_)
  refine W.eq (g2 := F0 m 35 ls []) rfl ?_
  have hP : va_P D vwCl (rW cB r b N (rs_f σ (va_cpy (rf_f τ) (rf_f σ) (0 : Int32).toNatClampNeg (0 : Int32).toNatClampNeg k.toNatClampNeg)) ++ rW cB r2 b2 N2 τ) H := hP
  have hD : va_D A (rW cB r b N (rs_f σ (va_cpy (rf_f τ) (rf_f σ) (0 : Int32).toNatClampNeg (0 : Int32).toNatClampNeg k.toNatClampNeg)) ++ rW cB r2 b2 N2 τ) := hD
  refine lv_aload_n hx hb dX3_copyFrom_35 rfl (lv_at hl 1 rfl) ?_
  refine lv_iload_n hx hb dX3_copyFrom_36 rfl (lv_at hl 0 rfl) ?_
  refine va_put (ci := 2) (v := .int k) (ty := .int) (C := RX3) (T := TX3) (N := 2) hx hb hT i_X3 tyX3 tyX3_ok nmX3 hown hK hP hD hS 0 rfl rfl 1 (by decide) (hT _ wfl_X3_21) (fun _ h9 => h9) rfl (by decide +kernel) rfl rfl (Nat.le_of_ble_eq_true rfl) dX3_copyFrom_37 (fun H locs hP hD hS => ?_)
  cases hf
  exact ct_vret G hP hD hS dX3_copyFrom_40
theorem vT_copy {p : Program} {l : Launch} {e : Env} {R : Room} {s : State} {m : MethodId} {args : Array Value} {below : List Frame} {meth : Method} {c : Code} {H : Heap} {locs : List Loc} {cells slots : Nat} {Q : State → Prop} {D : va_G} {aK aV : Nat → Nat} {A : Nat → Prop} {cc : ByteArray} {nL : Nat} {ret : Option FieldType} {pc : Nat} {ls : Array Slot} {rest : List Value} {cB cI cJ : ClassId} {q : Nat → Nat} {σ : TSt} {x : RSt} (G : CX p s m args meth c D (gTy cB cI cJ) aK aV A RX4 cc nL ret) (hf : rr_copyFrom 4000 6000 (tf_tape σ) (tf_written σ) = some x) (hP : va_P D vwCl (tW cB q σ) H) (hD : va_D A (tW cB q σ)) (hS : va_S A s.heap H locs) (hrm : 2 ≤ R.frames ∧ 90 ≤ R.locals) (hc : cells ≤ R.cells ∧ slots ≤ R.slots) (hls : ls.size = nL) (hst : (rest.map fun v => v.category).sum ≤ 8) (hdg : decode cc pc = .ok (.invokevirtual 76, 3)) (k : ∀ (H1 : Heap) (locs1 : List Loc), va_P D vwCl (tW cB q (ts_tape σ x)) H1 → va_D A (tW cB q (ts_tape σ x)) → va_S A s.heap H1 locs1 → W p l e R s m args below meth c H1 locs1 cells slots Q (F0 m (pc + 3) ls rest)) : W p l e R s m args below meth c H locs cells slots Q (F0 m pc ls (.ref (q 3) :: .ref (q 1) :: rest)) :=
  ct_v (As := [.ref (q 3)]) (wr := [(tW cB q σ).getD 0 (0, .inr (0, [])), (tW cB q σ).getD 5 (0, .inr (0, [])), (tW cB q σ).getD 6 (0, .inr (0, []))]) G kX4_76 (c_copy hf) hP hD hS [1, 2, 3, 4] [0, 5, 6] rfl rfl rfl rfl (by decide) (ci := 2) (q0 := 1) rfl rfl rfl ⟨rfl, rfl, hrm.1, Nat.le_trans (by decide) hrm.2⟩ rfl hls hst hdg hc (fun H1 l1 hP hD hS => k H1 l1 (hP.sub [0, 3, 4, 5, 6, 1, 2] rfl) (hD.sub [0, 3, 4, 5, 6, 1, 2] rfl rfl) hS)
def tt_feed (p0 : Int32) (p1 : Int32) (p2 : Int32) (p3 : Int32) (p4 : Int32) (σ : TSt) : Option (Int32 × TSt) := bd (rr_size 4000  (tf_tape σ)) (fun (x1 : Int32 × RSt) => (if (x1.1 + (20 : Int32)) ≤ (4000 : Int32) then bd (rr_putFour 4000 p0 x1.2) (fun (x3 : RSt) => bd (rr_putFour 4000 p1 x3) (fun (x4 : RSt) => bd (rr_putFour 4000 p2 x4) (fun (x5 : RSt) => bd (rr_putFour 4000 p3 x5) (fun (x6 : RSt) => bd (rr_putFour 4000 p4 x6) (fun (x7 : RSt) => bd (rr_size 4000  x7) (fun (x8 : Int32 × RSt) => some (x8.1, (ts_tape (ts_tape (ts_tape (ts_tape (ts_tape (ts_tape (ts_tape σ x1.2) x3) x4) x5) x6) x7) x8.2)))))))) else some ((-1 : Int32), (ts_tape σ x1.2))))
abbrev rm_tt_feed : Room := { frames := 2, cells := 0, slots := 0, locals := 42 }
set_option maxHeartbeats 4000000 in
set_option maxRecDepth 100000 in
theorem tt_feed_t0e {p : Program} {l : Launch} {e : Env} {s : State} {m : MethodId} {args : Array Value} {below : List Frame} {meth : Method} {c : Code} {D : va_G} {aK aV : Nat → Nat} {A : Nat → Prop} {cB cI cJ : ClassId} {q : Nat → Nat} {H : Heap} {locs : List Loc} {ls : Array Slot} {ρ : Int32 × TSt} {p0 : Int32} {p1 : Int32} {p2 : Int32} {p3 : Int32} {p4 : Int32} {σ : TSt} (G : CX p s m args meth c D (gTy cB cI cJ) aK aV A RX4 cX4_feed 6 (some .int)) (hl : lv_has ls 6 [(0, .ref (q 0)), (1, .int p0), (2, .int p1), (3, .int p2), (4, .int p3), (5, .int p4)]) (hP : va_P D vwCl (tW cB q σ) H) (hD : va_D A (tW cB q σ)) (hS : va_S A s.heap H locs) (hf : tt_feed p0 p1 p2 p3 p4 σ = some ρ) : W p l e (rm_tt_feed) s m args below meth c H locs 0 0 (MQ below (cQ D (gTy cB cI cJ) A (tW cB q ρ.2) (some (.int ρ.1))) args s 0 0 A) (F0 m 0 ls []) := by
  unfold tt_feed at hf
  obtain ⟨hx, hb, hml, hown, hT, hrt, hlk, hK, hA, hG, hE⟩ := id G
  refine lv_aload_n hx hb dX4_feed_0 rfl (lv_at hl 0 rfl) ?_
  refine gt_X4_tape G hP dX4_feed_1 ?_
  obtain ⟨x1, hx1, hf⟩ := bd_some hf
  refine vT_tape (As := []) (rest := []) (τ := x1.2) G kX4_34 rfl (c_rr_size hx1) hP hD hS ⟨rfl, rfl, Nat.le_of_ble_eq_true rfl, Nat.le_of_ble_eq_true rfl⟩ ⟨Nat.zero_le _, Nat.zero_le _⟩ rfl hl.1 (Nat.le_of_ble_eq_true rfl) dX4_feed_4 (fun H locs hP hD hS => ?_)
  refine W.eq (g2 := F0 m 7 ls [.int x1.1]) rfl ?_
  refine lv_bipush (v := (20 : Int32)) hx hb dX4_feed_7 (by decide) ?_
  refine lv_iadd hx hb dX4_feed_9 ?_
  refine lv_sipush (v := (4000 : Int32)) hx hb dX4_feed_10 (by decide) ?_
  refine lv_icmp_le (tgt := 18) hx hb dX4_feed_13 (by decide) (fun c2 => ?_) (fun c2 => ?_)
  · have hf := (if_pos c2).symm.trans hf
    refine lv_aload_n hx hb dX4_feed_18 rfl (lv_at hl 0 rfl) ?_
    refine gt_X4_tape G hP dX4_feed_19 ?_
    refine lv_iload_n hx hb dX4_feed_22 rfl (lv_at hl 1 rfl) ?_
    obtain ⟨x3, hx3, hf⟩ := bd_some hf
    refine vT_tape (As := [.int p0]) (rest := []) (τ := x3) G kX4_38 (tG_tape_tape _ _) (c_rr_putFour hx3) hP hD hS ⟨rfl, rfl, Nat.le_of_ble_eq_true rfl, Nat.le_of_ble_eq_true rfl⟩ ⟨Nat.zero_le _, Nat.zero_le _⟩ rfl hl.1 (Nat.le_of_ble_eq_true rfl) dX4_feed_23 (fun H locs hP hD hS => ?_)
    refine W.eq (g2 := F0 m 26 ls []) rfl ?_
    refine lv_aload_n hx hb dX4_feed_26 rfl (lv_at hl 0 rfl) ?_
    refine gt_X4_tape G hP dX4_feed_27 ?_
    refine lv_iload_n hx hb dX4_feed_30 rfl (lv_at hl 2 rfl) ?_
    obtain ⟨x4, hx4, hf⟩ := bd_some hf
    refine vT_tape (As := [.int p1]) (rest := []) (τ := x4) G kX4_38 (tG_tape_tape _ _) (c_rr_putFour hx4) hP hD hS ⟨rfl, rfl, Nat.le_of_ble_eq_true rfl, Nat.le_of_ble_eq_true rfl⟩ ⟨Nat.zero_le _, Nat.zero_le _⟩ rfl hl.1 (Nat.le_of_ble_eq_true rfl) dX4_feed_31 (fun H locs hP hD hS => ?_)
    refine W.eq (g2 := F0 m 34 ls []) rfl ?_
    refine lv_aload_n hx hb dX4_feed_34 rfl (lv_at hl 0 rfl) ?_
    refine gt_X4_tape G hP dX4_feed_35 ?_
    refine lv_iload_n hx hb dX4_feed_38 rfl (lv_at hl 3 rfl) ?_
    obtain ⟨x5, hx5, hf⟩ := bd_some hf
    refine vT_tape (As := [.int p2]) (rest := []) (τ := x5) G kX4_38 (tG_tape_tape _ _) (c_rr_putFour hx5) hP hD hS ⟨rfl, rfl, Nat.le_of_ble_eq_true rfl, Nat.le_of_ble_eq_true rfl⟩ ⟨Nat.zero_le _, Nat.zero_le _⟩ rfl hl.1 (Nat.le_of_ble_eq_true rfl) dX4_feed_39 (fun H locs hP hD hS => ?_)
    refine W.eq (g2 := F0 m 42 ls []) rfl ?_
    refine lv_aload_n hx hb dX4_feed_42 rfl (lv_at hl 0 rfl) ?_
    refine gt_X4_tape G hP dX4_feed_43 ?_
    refine lv_iload hx hb dX4_feed_46 (lv_at hl 4 rfl) ?_
    obtain ⟨x6, hx6, hf⟩ := bd_some hf
    refine vT_tape (As := [.int p3]) (rest := []) (τ := x6) G kX4_38 (tG_tape_tape _ _) (c_rr_putFour hx6) hP hD hS ⟨rfl, rfl, Nat.le_of_ble_eq_true rfl, Nat.le_of_ble_eq_true rfl⟩ ⟨Nat.zero_le _, Nat.zero_le _⟩ rfl hl.1 (Nat.le_of_ble_eq_true rfl) dX4_feed_48 (fun H locs hP hD hS => ?_)
    refine W.eq (g2 := F0 m 51 ls []) rfl ?_
    refine lv_aload_n hx hb dX4_feed_51 rfl (lv_at hl 0 rfl) ?_
    refine gt_X4_tape G hP dX4_feed_52 ?_
    refine lv_iload hx hb dX4_feed_55 (lv_at hl 5 rfl) ?_
    obtain ⟨x7, hx7, hf⟩ := bd_some hf
    refine vT_tape (As := [.int p4]) (rest := []) (τ := x7) G kX4_38 (tG_tape_tape _ _) (c_rr_putFour hx7) hP hD hS ⟨rfl, rfl, Nat.le_of_ble_eq_true rfl, Nat.le_of_ble_eq_true rfl⟩ ⟨Nat.zero_le _, Nat.zero_le _⟩ rfl hl.1 (Nat.le_of_ble_eq_true rfl) dX4_feed_57 (fun H locs hP hD hS => ?_)
    refine W.eq (g2 := F0 m 60 ls []) rfl ?_
    refine lv_aload_n hx hb dX4_feed_60 rfl (lv_at hl 0 rfl) ?_
    refine gt_X4_tape G hP dX4_feed_61 ?_
    obtain ⟨x8, hx8, hf⟩ := bd_some hf
    refine vT_tape (As := []) (rest := []) (τ := x8.2) G kX4_34 (tG_tape_tape _ _) (c_rr_size hx8) hP hD hS ⟨rfl, rfl, Nat.le_of_ble_eq_true rfl, Nat.le_of_ble_eq_true rfl⟩ ⟨Nat.zero_le _, Nat.zero_le _⟩ rfl hl.1 (Nat.le_of_ble_eq_true rfl) dX4_feed_64 (fun H locs hP hD hS => ?_)
    refine W.eq (g2 := F0 m 67 ls [.int x8.1]) rfl ?_
    cases hf
    exact ct_iret G rfl hP hD hS dX4_feed_67
  · have hf := (if_neg c2).symm.trans hf
    refine lv_iconst (v := (-1 : Int32)) hx hb dX4_feed_16 (by decide) ?_
    cases hf
    exact ct_iret G rfl hP hD hS dX4_feed_17
set_option maxHeartbeats 4000000 in
set_option maxRecDepth 100000 in
theorem c_tt_feed {l : Launch} {D : va_G} {aK aV : Nat → Nat} {cB cI cJ : ClassId} {q : Nat → Nat} {ρ : Int32 × TSt} {p0 : Int32} {p1 : Int32} {p2 : Int32} {p3 : Int32} {p4 : Int32} {σ : TSt} (hf : tt_feed p0 p1 p2 p3 p4 σ = some ρ) : CT l D (gTy cB cI cJ) aK aV yX4_feed (wM yX4_feed cX4_feed 6 (some .int)) (rm_tt_feed) 0 0 [.ref (q 0), .int p0, .int p1, .int p2, .int p3, .int p4] (tW cB q σ) (some (.int ρ.1)) (tW cB q ρ.2) := by
  refine CT.of (by decide) rfl ?_
  intro p e s m below meth c A G hnm hP hD hS
  have hl := lv_entry [.ref (q 0), .int p0, .int p1, .int p2, .int p3, .int p4] (n := 6) (Nat.le_of_ble_eq_true rfl)
  rw [lg_entry_eq]
  generalize (lg_sl [.ref (q 0), .int p0, .int p1, .int p2, .int p3, .int p4] ++ List.replicate (6 - (lg_sl [.ref (q 0), .int p0, .int p1, .int p2, .int p3, .int p4]).length) Slot.unset).toArray = ls at hl ⊢
  exact tt_feed_t0e G hl hP hD hS hf
def tt_end (p0 : Int32) (σ : TSt) : Option (Int32 × TSt) := (if p0 < 0 then some ((-1 : Int32), σ) else bd (rr_size 4000  (tf_tape σ)) (fun (x2 : Int32 × RSt) => (if p0 ≤ x2.1 then bd (rr_cutTo 4000 p0 x2.2) (fun (x4 : RSt) => some (p0, (ts_tape (ts_tape σ x2.2) x4))) else some ((-1 : Int32), (ts_tape σ x2.2)))))
abbrev rm_tt_end : Room := { frames := 1, cells := 0, slots := 0, locals := 21 }
set_option maxHeartbeats 4000000 in
set_option maxRecDepth 100000 in
theorem tt_end_t0e {p : Program} {l : Launch} {e : Env} {s : State} {m : MethodId} {args : Array Value} {below : List Frame} {meth : Method} {c : Code} {D : va_G} {aK aV : Nat → Nat} {A : Nat → Prop} {cB cI cJ : ClassId} {q : Nat → Nat} {H : Heap} {locs : List Loc} {ls : Array Slot} {ρ : Int32 × TSt} {p0 : Int32} {σ : TSt} (G : CX p s m args meth c D (gTy cB cI cJ) aK aV A RX4 cX4_end 2 (some .int)) (hl : lv_has ls 2 [(0, .ref (q 0)), (1, .int p0)]) (hP : va_P D vwCl (tW cB q σ) H) (hD : va_D A (tW cB q σ)) (hS : va_S A s.heap H locs) (hf : tt_end p0 σ = some ρ) : W p l e (rm_tt_end) s m args below meth c H locs 0 0 (MQ below (cQ D (gTy cB cI cJ) A (tW cB q ρ.2) (some (.int ρ.1))) args s 0 0 A) (F0 m 0 ls []) := by
  unfold tt_end at hf
  obtain ⟨hx, hb, hml, hown, hT, hrt, hlk, hK, hA, hG, hE⟩ := id G
  refine lv_iload_n hx hb dX4_end_0 rfl (lv_at hl 1 rfl) ?_
  refine lv_if_lt (tgt := 15) hx hb dX4_end_1 (by decide) (fun c1 => ?_) (fun c1 => ?_)
  · have hf := (if_pos c1).symm.trans hf
    refine lv_iconst (v := (-1 : Int32)) hx hb dX4_end_15 (by decide) ?_
    cases hf
    exact ct_iret G rfl hP hD hS dX4_end_16
  · have hf := (if_neg c1).symm.trans hf
    refine lv_iload_n hx hb dX4_end_4 rfl (lv_at hl 1 rfl) ?_
    refine lv_aload_n hx hb dX4_end_5 rfl (lv_at hl 0 rfl) ?_
    refine gt_X4_tape G hP dX4_end_6 ?_
    obtain ⟨x2, hx2, hf⟩ := bd_some hf
    refine vT_tape (As := []) (rest := [.int p0]) (τ := x2.2) G kX4_34 rfl (c_rr_size hx2) hP hD hS ⟨rfl, rfl, Nat.le_of_ble_eq_true rfl, Nat.le_of_ble_eq_true rfl⟩ ⟨Nat.zero_le _, Nat.zero_le _⟩ rfl hl.1 (Nat.le_of_ble_eq_true rfl) dX4_end_9 (fun H locs hP hD hS => ?_)
    refine W.eq (g2 := F0 m 12 ls [.int x2.1, .int p0]) rfl ?_
    refine lv_icmp_le (tgt := 17) hx hb dX4_end_12 (by decide) (fun c3 => ?_) (fun c3 => ?_)
    · have hf := (if_pos c3).symm.trans hf
      refine lv_aload_n hx hb dX4_end_17 rfl (lv_at hl 0 rfl) ?_
      refine gt_X4_tape G hP dX4_end_18 ?_
      refine lv_iload_n hx hb dX4_end_21 rfl (lv_at hl 1 rfl) ?_
      obtain ⟨x4, hx4, hf⟩ := bd_some hf
      refine vT_tape (As := [.int p0]) (rest := []) (τ := x4) G kX4_41 (tG_tape_tape _ _) (c_rr_cutTo hx4) hP hD hS ⟨rfl, rfl, Nat.le_of_ble_eq_true rfl, Nat.le_of_ble_eq_true rfl⟩ ⟨Nat.zero_le _, Nat.zero_le _⟩ rfl hl.1 (Nat.le_of_ble_eq_true rfl) dX4_end_22 (fun H locs hP hD hS => ?_)
      refine W.eq (g2 := F0 m 25 ls []) rfl ?_
      refine lv_iload_n hx hb dX4_end_25 rfl (lv_at hl 1 rfl) ?_
      cases hf
      exact ct_iret G rfl hP hD hS dX4_end_26
    · have hf := (if_neg c3).symm.trans hf
      refine lv_iconst (v := (-1 : Int32)) hx hb dX4_end_15 (by decide) ?_
      cases hf
      exact ct_iret G rfl hP hD hS dX4_end_16
set_option maxHeartbeats 4000000 in
set_option maxRecDepth 100000 in
theorem c_tt_end {l : Launch} {D : va_G} {aK aV : Nat → Nat} {cB cI cJ : ClassId} {q : Nat → Nat} {ρ : Int32 × TSt} {p0 : Int32} {σ : TSt} (hf : tt_end p0 σ = some ρ) : CT l D (gTy cB cI cJ) aK aV yX4_end (wM yX4_end cX4_end 2 (some .int)) (rm_tt_end) 0 0 [.ref (q 0), .int p0] (tW cB q σ) (some (.int ρ.1)) (tW cB q ρ.2) := by
  refine CT.of (by decide) rfl ?_
  intro p e s m below meth c A G hnm hP hD hS
  have hl := lv_entry [.ref (q 0), .int p0] (n := 2) (Nat.le_of_ble_eq_true rfl)
  rw [lg_entry_eq]
  generalize (lg_sl [.ref (q 0), .int p0] ++ List.replicate (2 - (lg_sl [.ref (q 0), .int p0]).length) Slot.unset).toArray = ls at hl ⊢
  exact tt_end_t0e G hl hP hD hS hf
def tt_bounds (p0 : Int32) (p1 : Int32) (σ : TSt) : Option (Bool × TSt) := (if p0 < 0 then some (false, σ) else (if (40 : Int32) < p0 then some (false, σ) else (if p1 < 0 then some (false, σ) else (if p1 ≤ (6000 : Int32) then some (true, (ts_room (ts_depth σ p0) p1)) else some (false, σ)))))
abbrev rm_tt_bounds : Room := { frames := 0, cells := 0, slots := 0, locals := 0 }
set_option maxHeartbeats 4000000 in
set_option maxRecDepth 100000 in
theorem tt_bounds_t0e {p : Program} {l : Launch} {e : Env} {s : State} {m : MethodId} {args : Array Value} {below : List Frame} {meth : Method} {c : Code} {D : va_G} {aK aV : Nat → Nat} {A : Nat → Prop} {cB cI cJ : ClassId} {q : Nat → Nat} {H : Heap} {locs : List Loc} {ls : Array Slot} {ρ : Bool × TSt} {p0 : Int32} {p1 : Int32} {σ : TSt} (G : CX p s m args meth c D (gTy cB cI cJ) aK aV A RX4 cX4_bounds 3 (some .boolean)) (hl : lv_has ls 3 [(0, .ref (q 0)), (1, .int p0), (2, .int p1)]) (hP : va_P D vwCl (tW cB q σ) H) (hD : va_D A (tW cB q σ)) (hS : va_S A s.heap H locs) (hf : tt_bounds p0 p1 σ = some ρ) : W p l e (rm_tt_bounds) s m args below meth c H locs 0 0 (MQ below (cQ D (gTy cB cI cJ) A (tW cB q ρ.2) (some (.int (bI ρ.1)))) args s 0 0 A) (F0 m 0 ls []) := by
  unfold tt_bounds at hf
  obtain ⟨hx, hb, hml, hown, hT, hrt, hlk, hK, hA, hG, hE⟩ := id G
  refine lv_iload_n hx hb dX4_bounds_0 rfl (lv_at hl 1 rfl) ?_
  refine lv_if_lt (tgt := 21) hx hb dX4_bounds_1 (by decide) (fun c1 => ?_) (fun c1 => ?_)
  · have hf := (if_pos c1).symm.trans hf
    refine lv_iconst (v := (0 : Int32)) hx hb dX4_bounds_21 (by decide) ?_
    cases hf
    exact ct_iret G (bI_nar false) hP hD hS dX4_bounds_22
  · have hf := (if_neg c1).symm.trans hf
    refine lv_iload_n hx hb dX4_bounds_4 rfl (lv_at hl 1 rfl) ?_
    refine lv_bipush (v := (40 : Int32)) hx hb dX4_bounds_5 (by decide) ?_
    refine lv_icmp_gt (tgt := 21) hx hb dX4_bounds_7 (by decide) (fun c2 => ?_) (fun c2 => ?_)
    · have hf := (if_pos c2).symm.trans hf
      refine lv_iconst (v := (0 : Int32)) hx hb dX4_bounds_21 (by decide) ?_
      cases hf
      exact ct_iret G (bI_nar false) hP hD hS dX4_bounds_22
    · have hf := (if_neg c2).symm.trans hf
      refine lv_iload_n hx hb dX4_bounds_10 rfl (lv_at hl 2 rfl) ?_
      refine lv_if_lt (tgt := 21) hx hb dX4_bounds_11 (by decide) (fun c3 => ?_) (fun c3 => ?_)
      · have hf := (if_pos c3).symm.trans hf
        refine lv_iconst (v := (0 : Int32)) hx hb dX4_bounds_21 (by decide) ?_
        cases hf
        exact ct_iret G (bI_nar false) hP hD hS dX4_bounds_22
      · have hf := (if_neg c3).symm.trans hf
        refine lv_iload_n hx hb dX4_bounds_14 rfl (lv_at hl 2 rfl) ?_
        refine lv_sipush (v := (6000 : Int32)) hx hb dX4_bounds_15 (by decide) ?_
        refine lv_icmp_le (tgt := 23) hx hb dX4_bounds_18 (by decide) (fun c4 => ?_) (fun c4 => ?_)
        · have hf := (if_pos c4).symm.trans hf
          refine lv_aload_n hx hb dX4_bounds_23 rfl (lv_at hl 0 rfl) ?_
          refine lv_iload_n hx hb dX4_bounds_24 rfl (lv_at hl 1 rfl) ?_
          refine pt_X4_depth (v := p0) G hP hD hS dX4_bounds_25 (fun H locs hP hD hS => ?_)
          refine lv_aload_n hx hb dX4_bounds_28 rfl (lv_at hl 0 rfl) ?_
          refine lv_iload_n hx hb dX4_bounds_29 rfl (lv_at hl 2 rfl) ?_
          refine pt_X4_room (v := p1) G hP hD hS dX4_bounds_30 (fun H locs hP hD hS => ?_)
          refine lv_iconst (v := (1 : Int32)) hx hb dX4_bounds_33 (by decide) ?_
          cases hf
          exact ct_iret G (bI_nar true) hP hD hS dX4_bounds_34
        · have hf := (if_neg c4).symm.trans hf
          refine lv_iconst (v := (0 : Int32)) hx hb dX4_bounds_21 (by decide) ?_
          cases hf
          exact ct_iret G (bI_nar false) hP hD hS dX4_bounds_22
set_option maxHeartbeats 4000000 in
set_option maxRecDepth 100000 in
theorem c_tt_bounds {l : Launch} {D : va_G} {aK aV : Nat → Nat} {cB cI cJ : ClassId} {q : Nat → Nat} {ρ : Bool × TSt} {p0 : Int32} {p1 : Int32} {σ : TSt} (hf : tt_bounds p0 p1 σ = some ρ) : CT l D (gTy cB cI cJ) aK aV yX4_bounds (wM yX4_bounds cX4_bounds 3 (some .boolean)) (rm_tt_bounds) 0 0 [.ref (q 0), .int p0, .int p1] (tW cB q σ) (some (.int (bI ρ.1))) (tW cB q ρ.2) := by
  refine CT.of (by decide) rfl ?_
  intro p e s m below meth c A G hnm hP hD hS
  have hl := lv_entry [.ref (q 0), .int p0, .int p1] (n := 3) (Nat.le_of_ble_eq_true rfl)
  rw [lg_entry_eq]
  generalize (lg_sl [.ref (q 0), .int p0, .int p1] ++ List.replicate (3 - (lg_sl [.ref (q 0), .int p0, .int p1]).length) Slot.unset).toArray = ls at hl ⊢
  exact tt_bounds_t0e G hl hP hD hS hf
def tt_errorAt (σ : TSt) : Option (Int32 × TSt) := some ((tf_faultPlace σ), σ)
abbrev rm_tt_errorAt : Room := { frames := 0, cells := 0, slots := 0, locals := 0 }
set_option maxHeartbeats 4000000 in
set_option maxRecDepth 100000 in
theorem tt_errorAt_t0e {p : Program} {l : Launch} {e : Env} {s : State} {m : MethodId} {args : Array Value} {below : List Frame} {meth : Method} {c : Code} {D : va_G} {aK aV : Nat → Nat} {A : Nat → Prop} {cB cI cJ : ClassId} {q : Nat → Nat} {H : Heap} {locs : List Loc} {ls : Array Slot} {ρ : Int32 × TSt} {σ : TSt} (G : CX p s m args meth c D (gTy cB cI cJ) aK aV A RX4 cX4_errorAt 1 (some .int)) (hl : lv_has ls 1 [(0, .ref (q 0))]) (hP : va_P D vwCl (tW cB q σ) H) (hD : va_D A (tW cB q σ)) (hS : va_S A s.heap H locs) (hf : tt_errorAt σ = some ρ) : W p l e (rm_tt_errorAt) s m args below meth c H locs 0 0 (MQ below (cQ D (gTy cB cI cJ) A (tW cB q ρ.2) (some (.int ρ.1))) args s 0 0 A) (F0 m 0 ls []) := by
  unfold tt_errorAt at hf
  obtain ⟨hx, hb, hml, hown, hT, hrt, hlk, hK, hA, hG, hE⟩ := id G
  refine lv_aload_n hx hb dX4_errorAt_0 rfl (lv_at hl 0 rfl) ?_
  refine gt_X4_faultPlace (v := (tf_faultPlace σ)) G hP dX4_errorAt_1 rfl ?_
  cases hf
  exact ct_iret G rfl hP hD hS dX4_errorAt_4
set_option maxHeartbeats 4000000 in
set_option maxRecDepth 100000 in
theorem c_tt_errorAt {l : Launch} {D : va_G} {aK aV : Nat → Nat} {cB cI cJ : ClassId} {q : Nat → Nat} {ρ : Int32 × TSt} {σ : TSt} (hf : tt_errorAt σ = some ρ) : CT l D (gTy cB cI cJ) aK aV yX4_errorAt (wM yX4_errorAt cX4_errorAt 1 (some .int)) (rm_tt_errorAt) 0 0 [.ref (q 0)] (tW cB q σ) (some (.int ρ.1)) (tW cB q ρ.2) := by
  refine CT.of (by decide) rfl ?_
  intro p e s m below meth c A G hnm hP hD hS
  have hl := lv_entry [.ref (q 0)] (n := 1) (Nat.le_of_ble_eq_true rfl)
  rw [lg_entry_eq]
  generalize (lg_sl [.ref (q 0)] ++ List.replicate (1 - (lg_sl [.ref (q 0)]).length) Slot.unset).toArray = ls at hl ⊢
  exact tt_errorAt_t0e G hl hP hD hS hf
def tt_out (p0 : Int32) (σ : TSt) : Option (Int32 × TSt) := bd (rr_at 6000 p0 (tf_written σ)) (fun (x1 : Int32 × RSt) => some (x1.1, (ts_written σ x1.2)))
abbrev rm_tt_out : Room := { frames := 1, cells := 0, slots := 0, locals := 21 }
set_option maxHeartbeats 4000000 in
set_option maxRecDepth 100000 in
theorem tt_out_t0e {p : Program} {l : Launch} {e : Env} {s : State} {m : MethodId} {args : Array Value} {below : List Frame} {meth : Method} {c : Code} {D : va_G} {aK aV : Nat → Nat} {A : Nat → Prop} {cB cI cJ : ClassId} {q : Nat → Nat} {H : Heap} {locs : List Loc} {ls : Array Slot} {ρ : Int32 × TSt} {p0 : Int32} {σ : TSt} (G : CX p s m args meth c D (gTy cB cI cJ) aK aV A RX4 cX4_out 2 (some .int)) (hl : lv_has ls 2 [(0, .ref (q 0)), (1, .int p0)]) (hP : va_P D vwCl (tW cB q σ) H) (hD : va_D A (tW cB q σ)) (hS : va_S A s.heap H locs) (hf : tt_out p0 σ = some ρ) : W p l e (rm_tt_out) s m args below meth c H locs 0 0 (MQ below (cQ D (gTy cB cI cJ) A (tW cB q ρ.2) (some (.int ρ.1))) args s 0 0 A) (F0 m 0 ls []) := by
  unfold tt_out at hf
  obtain ⟨hx, hb, hml, hown, hT, hrt, hlk, hK, hA, hG, hE⟩ := id G
  refine lv_aload_n hx hb dX4_out_0 rfl (lv_at hl 0 rfl) ?_
  refine gt_X4_written G hP dX4_out_1 ?_
  refine lv_iload_n hx hb dX4_out_4 rfl (lv_at hl 1 rfl) ?_
  obtain ⟨x1, hx1, hf⟩ := bd_some hf
  refine vT_written (As := [.int p0]) (rest := []) (τ := x1.2) G kX4_72 rfl (c_rr_at hx1) hP hD hS ⟨rfl, rfl, Nat.le_of_ble_eq_true rfl, Nat.le_of_ble_eq_true rfl⟩ ⟨Nat.zero_le _, Nat.zero_le _⟩ rfl hl.1 (Nat.le_of_ble_eq_true rfl) dX4_out_5 (fun H locs hP hD hS => ?_)
  refine W.eq (g2 := F0 m 8 ls [.int x1.1]) rfl ?_
  cases hf
  exact ct_iret G rfl hP hD hS dX4_out_8
set_option maxHeartbeats 4000000 in
set_option maxRecDepth 100000 in
theorem c_tt_out {l : Launch} {D : va_G} {aK aV : Nat → Nat} {cB cI cJ : ClassId} {q : Nat → Nat} {ρ : Int32 × TSt} {p0 : Int32} {σ : TSt} (hf : tt_out p0 σ = some ρ) : CT l D (gTy cB cI cJ) aK aV yX4_out (wM yX4_out cX4_out 2 (some .int)) (rm_tt_out) 0 0 [.ref (q 0), .int p0] (tW cB q σ) (some (.int ρ.1)) (tW cB q ρ.2) := by
  refine CT.of (by decide) rfl ?_
  intro p e s m below meth c A G hnm hP hD hS
  have hl := lv_entry [.ref (q 0), .int p0] (n := 2) (Nat.le_of_ble_eq_true rfl)
  rw [lg_entry_eq]
  generalize (lg_sl [.ref (q 0), .int p0] ++ List.replicate (2 - (lg_sl [.ref (q 0), .int p0]).length) Slot.unset).toArray = ls at hl ⊢
  exact tt_out_t0e G hl hP hD hS hf
def tt_outSize (σ : TSt) : Option (Int32 × TSt) := bd (rr_size 6000  (tf_written σ)) (fun (x1 : Int32 × RSt) => some (x1.1, (ts_written σ x1.2)))
abbrev rm_tt_outSize : Room := { frames := 1, cells := 0, slots := 0, locals := 20 }
set_option maxHeartbeats 4000000 in
set_option maxRecDepth 100000 in
theorem tt_outSize_t0e {p : Program} {l : Launch} {e : Env} {s : State} {m : MethodId} {args : Array Value} {below : List Frame} {meth : Method} {c : Code} {D : va_G} {aK aV : Nat → Nat} {A : Nat → Prop} {cB cI cJ : ClassId} {q : Nat → Nat} {H : Heap} {locs : List Loc} {ls : Array Slot} {ρ : Int32 × TSt} {σ : TSt} (G : CX p s m args meth c D (gTy cB cI cJ) aK aV A RX4 cX4_outSize 1 (some .int)) (hl : lv_has ls 1 [(0, .ref (q 0))]) (hP : va_P D vwCl (tW cB q σ) H) (hD : va_D A (tW cB q σ)) (hS : va_S A s.heap H locs) (hf : tt_outSize σ = some ρ) : W p l e (rm_tt_outSize) s m args below meth c H locs 0 0 (MQ below (cQ D (gTy cB cI cJ) A (tW cB q ρ.2) (some (.int ρ.1))) args s 0 0 A) (F0 m 0 ls []) := by
  unfold tt_outSize at hf
  obtain ⟨hx, hb, hml, hown, hT, hrt, hlk, hK, hA, hG, hE⟩ := id G
  refine lv_aload_n hx hb dX4_outSize_0 rfl (lv_at hl 0 rfl) ?_
  refine gt_X4_written G hP dX4_outSize_1 ?_
  obtain ⟨x1, hx1, hf⟩ := bd_some hf
  refine vT_written (As := []) (rest := []) (τ := x1.2) G kX4_34 rfl (c_rr_size hx1) hP hD hS ⟨rfl, rfl, Nat.le_of_ble_eq_true rfl, Nat.le_of_ble_eq_true rfl⟩ ⟨Nat.zero_le _, Nat.zero_le _⟩ rfl hl.1 (Nat.le_of_ble_eq_true rfl) dX4_outSize_4 (fun H locs hP hD hS => ?_)
  refine W.eq (g2 := F0 m 7 ls [.int x1.1]) rfl ?_
  cases hf
  exact ct_iret G rfl hP hD hS dX4_outSize_7
set_option maxHeartbeats 4000000 in
set_option maxRecDepth 100000 in
theorem c_tt_outSize {l : Launch} {D : va_G} {aK aV : Nat → Nat} {cB cI cJ : ClassId} {q : Nat → Nat} {ρ : Int32 × TSt} {σ : TSt} (hf : tt_outSize σ = some ρ) : CT l D (gTy cB cI cJ) aK aV yX4_outSize (wM yX4_outSize cX4_outSize 1 (some .int)) (rm_tt_outSize) 0 0 [.ref (q 0)] (tW cB q σ) (some (.int ρ.1)) (tW cB q ρ.2) := by
  refine CT.of (by decide) rfl ?_
  intro p e s m below meth c A G hnm hP hD hS
  have hl := lv_entry [.ref (q 0)] (n := 1) (Nat.le_of_ble_eq_true rfl)
  rw [lg_entry_eq]
  generalize (lg_sl [.ref (q 0)] ++ List.replicate (1 - (lg_sl [.ref (q 0)]).length) Slot.unset).toArray = ls at hl ⊢
  exact tt_outSize_t0e G hl hP hD hS hf
def tt_take (σ : TSt) : Option (Int32 × TSt) := bd (rr_size 6000  (tf_written σ)) (fun (x1 : Int32 × RSt) => (if x1.1 ≤ (4000 : Int32) then bd (rr_copyFrom 4000 6000 (tf_tape (ts_written σ x1.2)) (tf_written (ts_written σ x1.2))) (fun (x3 : RSt) => bd (rr_size 4000  x3) (fun (x4 : Int32 × RSt) => some (x4.1, (ts_tape (ts_tape (ts_written σ x1.2) x3) x4.2)))) else some ((-1 : Int32), (ts_written σ x1.2))))
abbrev rm_tt_take : Room := { frames := 2, cells := 0, slots := 0, locals := 90 }
set_option maxHeartbeats 4000000 in
set_option maxRecDepth 100000 in
theorem tt_take_t0e {p : Program} {l : Launch} {e : Env} {s : State} {m : MethodId} {args : Array Value} {below : List Frame} {meth : Method} {c : Code} {D : va_G} {aK aV : Nat → Nat} {A : Nat → Prop} {cB cI cJ : ClassId} {q : Nat → Nat} {H : Heap} {locs : List Loc} {ls : Array Slot} {ρ : Int32 × TSt} {σ : TSt} (G : CX p s m args meth c D (gTy cB cI cJ) aK aV A RX4 cX4_take 1 (some .int)) (hl : lv_has ls 1 [(0, .ref (q 0))]) (hP : va_P D vwCl (tW cB q σ) H) (hD : va_D A (tW cB q σ)) (hS : va_S A s.heap H locs) (hf : tt_take σ = some ρ) : W p l e (rm_tt_take) s m args below meth c H locs 0 0 (MQ below (cQ D (gTy cB cI cJ) A (tW cB q ρ.2) (some (.int ρ.1))) args s 0 0 A) (F0 m 0 ls []) := by
  unfold tt_take at hf
  obtain ⟨hx, hb, hml, hown, hT, hrt, hlk, hK, hA, hG, hE⟩ := id G
  refine lv_aload_n hx hb dX4_take_0 rfl (lv_at hl 0 rfl) ?_
  refine gt_X4_written G hP dX4_take_1 ?_
  obtain ⟨x1, hx1, hf⟩ := bd_some hf
  refine vT_written (As := []) (rest := []) (τ := x1.2) G kX4_34 rfl (c_rr_size hx1) hP hD hS ⟨rfl, rfl, Nat.le_of_ble_eq_true rfl, Nat.le_of_ble_eq_true rfl⟩ ⟨Nat.zero_le _, Nat.zero_le _⟩ rfl hl.1 (Nat.le_of_ble_eq_true rfl) dX4_take_4 (fun H locs hP hD hS => ?_)
  refine W.eq (g2 := F0 m 7 ls [.int x1.1]) rfl ?_
  refine lv_sipush (v := (4000 : Int32)) hx hb dX4_take_7 (by decide) ?_
  refine lv_icmp_le (tgt := 15) hx hb dX4_take_10 (by decide) (fun c2 => ?_) (fun c2 => ?_)
  · have hf := (if_pos c2).symm.trans hf
    refine lv_aload_n hx hb dX4_take_15 rfl (lv_at hl 0 rfl) ?_
    refine gt_X4_tape G hP dX4_take_16 ?_
    refine lv_aload_n hx hb dX4_take_19 rfl (lv_at hl 0 rfl) ?_
    refine gt_X4_written G hP dX4_take_20 ?_
    obtain ⟨x3, hx3, hf⟩ := bd_some hf
    refine vT_copy (rest := []) (x := x3) G hx3 hP hD hS ⟨Nat.le_of_ble_eq_true rfl, Nat.le_of_ble_eq_true rfl⟩ ⟨Nat.zero_le _, Nat.zero_le _⟩ hl.1 (Nat.le_of_ble_eq_true rfl) dX4_take_23 (fun H locs hP hD hS => ?_)
    refine W.eq (g2 := F0 m 26 ls []) rfl ?_
    refine lv_aload_n hx hb dX4_take_26 rfl (lv_at hl 0 rfl) ?_
    refine gt_X4_tape G hP dX4_take_27 ?_
    obtain ⟨x4, hx4, hf⟩ := bd_some hf
    refine vT_tape (As := []) (rest := []) (τ := x4.2) G kX4_34 (tG_tape_tape _ _) (c_rr_size hx4) hP hD hS ⟨rfl, rfl, Nat.le_of_ble_eq_true rfl, Nat.le_of_ble_eq_true rfl⟩ ⟨Nat.zero_le _, Nat.zero_le _⟩ rfl hl.1 (Nat.le_of_ble_eq_true rfl) dX4_take_30 (fun H locs hP hD hS => ?_)
    refine W.eq (g2 := F0 m 33 ls [.int x4.1]) rfl ?_
    cases hf
    exact ct_iret G rfl hP hD hS dX4_take_33
  · have hf := (if_neg c2).symm.trans hf
    refine lv_iconst (v := (-1 : Int32)) hx hb dX4_take_13 (by decide) ?_
    cases hf
    exact ct_iret G rfl hP hD hS dX4_take_14
set_option maxHeartbeats 4000000 in
set_option maxRecDepth 100000 in
theorem c_tt_take {l : Launch} {D : va_G} {aK aV : Nat → Nat} {cB cI cJ : ClassId} {q : Nat → Nat} {ρ : Int32 × TSt} {σ : TSt} (hf : tt_take σ = some ρ) : CT l D (gTy cB cI cJ) aK aV yX4_take (wM yX4_take cX4_take 1 (some .int)) (rm_tt_take) 0 0 [.ref (q 0)] (tW cB q σ) (some (.int ρ.1)) (tW cB q ρ.2) := by
  refine CT.of (by decide) rfl ?_
  intro p e s m below meth c A G hnm hP hD hS
  have hl := lv_entry [.ref (q 0)] (n := 1) (Nat.le_of_ble_eq_true rfl)
  rw [lg_entry_eq]
  generalize (lg_sl [.ref (q 0)] ++ List.replicate (1 - (lg_sl [.ref (q 0)]).length) Slot.unset).toArray = ls at hl ⊢
  exact tt_take_t0e G hl hP hD hS hf
