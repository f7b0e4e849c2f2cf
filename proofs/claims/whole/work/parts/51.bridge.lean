/-! READERS MADE; THE BRIDGE'S OWN METHODS -/
theorem wcl_44 : Cond.classLink RX4 44 RX1 ∈ wT := wT_of (in1 (i := 89) rfl) rfl
theorem wcl_61 : Cond.classLink RX4 61 RX0 ∈ wT := wT_of (in2 (i := 135) rfl) rfl
theorem wcl_7 : Cond.classLink RX4 7 RX3 ∈ wT := wT_of (in1 (i := 21) rfl) rfl
theorem wins_X0 : Cond.instantiable RX0 8 ∈ wT := wT_of (in2 (i := 136) rfl) rfl
theorem wini_X0 : Cond.initialized RX0 ∈ wT := wT_of (in1 (i := 12) rfl) rfl
theorem wins_X1 : Cond.instantiable RX1 6 ∈ wT := wT_of (in1 (i := 90) rfl) rfl
theorem wini_X1 : Cond.initialized RX1 ∈ wT := wT_of (in1 (i := 6) rfl) rfl
theorem wins_X3 : Cond.instantiable RX3 2 ∈ wT := wT_of (in1 (i := 22) rfl) rfl
theorem wini_X3 : Cond.initialized RX3 ∈ wT := wT_of (in1 (i := 2) rfl) rfl
theorem wins_X4 : Cond.instantiable RX4 6 ∈ wT := wT_of (in1 (i := 14) rfl) rfl
theorem wini_X4 : Cond.initialized RX4 ∈ wT := wT_of (in1 (i := 1) rfl) rfl
theorem wins_X5 : Cond.instantiable RX5 22 ∈ wT := wT_of (in3 (i := 21) rfl) rfl
theorem wini_X5 : Cond.initialized RX5 ∈ wT := wT_of (in1 (i := 4) rfl) rfl
set_option maxHeartbeats 4000000 in
set_option maxRecDepth 100000 in
theorem c_rini_j {l : Launch} {D : va_G} {aK aV : Nat → Nat} {cB cI cJ : ClassId} {h a b : Nat} {d : Int32} : CT l D (gTy cB cI cJ) aK aV yX2_init (wM yX2_init cX2_init 4 none) { frames := 1, cells := 0, slots := 0, locals := 20 } 0 0 [.ref h, .ref a, .ref b, .int d] [(h, .inr (1, [.null, .null, .int 0, .int 0, .int 0, .int 0]))] none [(h, .inr (1, [.ref a, .ref b, .int d, .int 0, .int 0, .int (-1)]))] := by
  refine CT.of (by decide) rfl ?_
  intro p e s m below meth c A G hnm hP hD hS
  obtain ⟨hx, hb, hml, hown, hT, hrt, hlk, hK, hA, hG, hE⟩ := id G
  have hl := lv_entry [.ref h, .ref a, .ref b, .int d] (n := 4) (Nat.le_of_ble_eq_true rfl)
  rw [lg_entry_eq]
  generalize (lg_sl [.ref h, .ref a, .ref b, .int d] ++ List.replicate (4 - (lg_sl [.ref h, .ref a, .ref b, .int d]).length) Slot.unset).toArray = ls at hl ⊢
  have hl : lv_has ls 4 [(0, .ref h), (1, .ref a), (2, .ref b), (3, .int d)] := hl
  refine lv_aload_n hx hb dX2_init_0 rfl (lv_at hl 0 rfl) ?_
  refine W.objInit hx hb hown (hT _ oX2) (hT _ o_inst) (hT _ o_code) rfl (by rw [hml]; exact hl.1) rfl dX2_init_1 (Nat.le_of_ble_eq_true rfl) (Nat.le_of_ble_eq_true rfl) ?_
  refine W.eq (g2 := F0 m 4 ls []) rfl ?_
  refine lv_aload_n hx hb dX2_init_4 rfl (lv_at hl 0 rfl) ?_
  refine lv_aload_n hx hb dX2_init_5 rfl (lv_at hl 1 rfl) ?_
  refine va_putF (ci := 1) (v := .ref a) (ty := .object "TextBridge$Row") (C := RX1) (T := TX1) (N := 6) hx hb hT i_X1 tyX1 tyX1_ok nmX1 hown hK hP hD hS 0 rfl rfl 0 (by decide) (hT _ wfl_X2_9) (fun _ h9 => h9) rfl hnm rfl (by decide +kernel) rfl rfl (Nat.le_of_ble_eq_true rfl) dX2_init_6 (fun H locs hP hD hS => ?_)
  have hP : va_P D vwCl [(h, .inr (1, [.ref a, .null, .int 0, .int 0, .int 0, .int 0]))] H := hP
  have hD : va_D A [(h, .inr (1, [.ref a, .null, .int 0, .int 0, .int 0, .int 0]))] := hD
  refine lv_aload_n hx hb dX2_init_9 rfl (lv_at hl 0 rfl) ?_
  refine lv_aload_n hx hb dX2_init_10 rfl (lv_at hl 2 rfl) ?_
  refine va_putF (ci := 1) (v := .ref b) (ty := .object "TextBridge$Row") (C := RX1) (T := TX1) (N := 6) hx hb hT i_X1 tyX1 tyX1_ok nmX1 hown hK hP hD hS 0 rfl rfl 1 (by decide) (hT _ wfl_X2_15) (fun _ h9 => h9) rfl hnm rfl (by decide +kernel) rfl rfl (Nat.le_of_ble_eq_true rfl) dX2_init_11 (fun H locs hP hD hS => ?_)
  have hP : va_P D vwCl [(h, .inr (1, [.ref a, .ref b, .int 0, .int 0, .int 0, .int 0]))] H := hP
  have hD : va_D A [(h, .inr (1, [.ref a, .ref b, .int 0, .int 0, .int 0, .int 0]))] := hD
  refine lv_aload_n hx hb dX2_init_14 rfl (lv_at hl 0 rfl) ?_
  refine lv_iload_n hx hb dX2_init_15 rfl (lv_at hl 3 rfl) ?_
  refine va_putF (ci := 1) (v := .int d) (ty := .int) (C := RX1) (T := TX1) (N := 6) hx hb hT i_X1 tyX1 tyX1_ok nmX1 hown hK hP hD hS 0 rfl rfl 2 (by decide) (hT _ wfl_X2_18) (fun _ h9 => h9) rfl hnm rfl (by decide +kernel) rfl rfl (Nat.le_of_ble_eq_true rfl) dX2_init_16 (fun H locs hP hD hS => ?_)
  have hP : va_P D vwCl [(h, .inr (1, [.ref a, .ref b, .int d, .int 0, .int 0, .int 0]))] H := hP
  have hD : va_D A [(h, .inr (1, [.ref a, .ref b, .int d, .int 0, .int 0, .int 0]))] := hD
  refine lv_aload_n hx hb dX2_init_19 rfl (lv_at hl 0 rfl) ?_
  refine lv_iconst (v := 0) hx hb dX2_init_20 (by decide) ?_
  refine va_put (ci := 1) (v := .int 0) (ty := .int) (C := RX1) (T := TX1) (N := 6) hx hb hT i_X1 tyX1 tyX1_ok nmX1 hown hK hP hD hS 0 rfl rfl 3 (by decide) (hT _ wfl_X2_22) (fun _ h9 => h9) rfl (by decide +kernel) rfl rfl (Nat.le_of_ble_eq_true rfl) dX2_init_21 (fun H locs hP hD hS => ?_)
  have hP : va_P D vwCl [(h, .inr (1, [.ref a, .ref b, .int d, .int 0, .int 0, .int 0]))] H := hP
  have hD : va_D A [(h, .inr (1, [.ref a, .ref b, .int d, .int 0, .int 0, .int 0]))] := hD
  refine lv_aload_n hx hb dX2_init_24 rfl (lv_at hl 0 rfl) ?_
  refine lv_iconst (v := 0) hx hb dX2_init_25 (by decide) ?_
  refine va_put (ci := 1) (v := .int 0) (ty := .int) (C := RX1) (T := TX1) (N := 6) hx hb hT i_X1 tyX1 tyX1_ok nmX1 hown hK hP hD hS 0 rfl rfl 4 (by decide) (hT _ wfl_X2_25) (fun _ h9 => h9) rfl (by decide +kernel) rfl rfl (Nat.le_of_ble_eq_true rfl) dX2_init_26 (fun H locs hP hD hS => ?_)
  have hP : va_P D vwCl [(h, .inr (1, [.ref a, .ref b, .int d, .int 0, .int 0, .int 0]))] H := hP
  have hD : va_D A [(h, .inr (1, [.ref a, .ref b, .int d, .int 0, .int 0, .int 0]))] := hD
  refine lv_aload_n hx hb dX2_init_29 rfl (lv_at hl 0 rfl) ?_
  refine lv_iconst (v := -1) hx hb dX2_init_30 (by decide) ?_
  refine va_put (ci := 1) (v := .int (-1)) (ty := .int) (C := RX1) (T := TX1) (N := 6) hx hb hT i_X1 tyX1 tyX1_ok nmX1 hown hK hP hD hS 0 rfl rfl 5 (by decide) (hT _ wfl_X2_28) (fun _ h9 => h9) rfl (by decide +kernel) rfl rfl (Nat.le_of_ble_eq_true rfl) dX2_init_31 (fun H locs hP hD hS => ?_)
  have hP : va_P D vwCl [(h, .inr (1, [.ref a, .ref b, .int d, .int 0, .int 0, .int (-1)]))] H := hP
  have hD : va_D A [(h, .inr (1, [.ref a, .ref b, .int d, .int 0, .int 0, .int (-1)]))] := hD
  exact ct_vret G hP hD hS dX2_init_34
set_option maxHeartbeats 4000000 in
set_option maxRecDepth 100000 in
theorem c_ini_j {l : Launch} {D : va_G} {aK aV : Nat → Nat} {cB cI cJ : ClassId} {h a b : Nat} {d : Int32} : CT l D (gTy cB cI cJ) aK aV yX1_init (wM yX1_init cX1_init 4 none) { frames := 2, cells := 0, slots := 0, locals := 43 } 0 0 [.ref h, .ref a, .ref b, .int d] [(h, .inr (1, [.null, .null, .int 0, .int 0, .int 0, .int 0]))] none [(h, .inr (1, [.ref a, .ref b, .int d, .int 0, .int 0, .int (-1)]))] := by
  refine CT.of (by decide) rfl ?_
  intro p e s m below meth c A G hnm hP hD hS
  obtain ⟨hx, hb, hml, hown, hT, hrt, hlk, hK, hA, hG, hE⟩ := id G
  have hl := lv_entry [.ref h, .ref a, .ref b, .int d] (n := 4) (Nat.le_of_ble_eq_true rfl)
  rw [lg_entry_eq]
  generalize (lg_sl [.ref h, .ref a, .ref b, .int d] ++ List.replicate (4 - (lg_sl [.ref h, .ref a, .ref b, .int d]).length) Slot.unset).toArray = ls at hl ⊢
  have hl : lv_has ls 4 [(0, .ref h), (1, .ref a), (2, .ref b), (3, .int d)] := hl
  refine lv_aload_n hx hb dX1_init_0 rfl (lv_at hl 0 rfl) ?_
  refine lv_aload_n hx hb dX1_init_1 rfl (lv_at hl 1 rfl) ?_
  refine lv_aload_n hx hb dX1_init_2 rfl (lv_at hl 2 rfl) ?_
  refine lv_iload_n hx hb dX1_init_3 rfl (lv_at hl 3 rfl) ?_
  refine ct_i (As := [.ref a, .ref b, .int d]) (rest := []) (wr := []) G kX1_3 c_rini_j hP hD hS [0] [] rfl rfl rfl rfl (fun _ h => absurd h List.not_mem_nil) ⟨rfl, rfl, Nat.le_of_ble_eq_true rfl, Nat.le_of_ble_eq_true rfl⟩ rfl hl.1 (Nat.le_of_ble_eq_true rfl) dX1_init_4 ⟨Nat.le_refl _, Nat.le_refl _⟩ (fun H locs hP hD hS => ?_)
  refine W.eq (g2 := F0 m 7 ls []) rfl ?_
  have hP : va_P D vwCl [(h, .inr (1, [.ref a, .ref b, .int d, .int 0, .int 0, .int (-1)]))] H := hP
  have hD : va_D A [(h, .inr (1, [.ref a, .ref b, .int d, .int 0, .int 0, .int (-1)]))] := hD
  exact ct_vret G hP hD hS dX1_init_7
set_option maxHeartbeats 4000000 in
set_option maxRecDepth 100000 in
theorem c_rini_k {l : Launch} {D : va_G} {aK aV : Nat → Nat} {cB cI cJ : ClassId} {h a b : Nat} {d : Int32} : CT l D (gTy cB cI cJ) aK aV yX2_init (wM yX2_init cX2_init 4 none) { frames := 1, cells := 0, slots := 0, locals := 20 } 0 0 [.ref h, .ref a, .ref b, .int d] [(h, .inr (0, [.null, .null, .int 0, .int 0, .int 0, .int 0, .int 0, .long 0]))] none [(h, .inr (0, [.ref a, .ref b, .int d, .int 0, .int 0, .int (-1), .int 0, .long 0]))] := by
  refine CT.of (by decide) rfl ?_
  intro p e s m below meth c A G hnm hP hD hS
  obtain ⟨hx, hb, hml, hown, hT, hrt, hlk, hK, hA, hG, hE⟩ := id G
  have hl := lv_entry [.ref h, .ref a, .ref b, .int d] (n := 4) (Nat.le_of_ble_eq_true rfl)
  rw [lg_entry_eq]
  generalize (lg_sl [.ref h, .ref a, .ref b, .int d] ++ List.replicate (4 - (lg_sl [.ref h, .ref a, .ref b, .int d]).length) Slot.unset).toArray = ls at hl ⊢
  have hl : lv_has ls 4 [(0, .ref h), (1, .ref a), (2, .ref b), (3, .int d)] := hl
  refine lv_aload_n hx hb dX2_init_0 rfl (lv_at hl 0 rfl) ?_
  refine W.objInit hx hb hown (hT _ oX2) (hT _ o_inst) (hT _ o_code) rfl (by rw [hml]; exact hl.1) rfl dX2_init_1 (Nat.le_of_ble_eq_true rfl) (Nat.le_of_ble_eq_true rfl) ?_
  refine W.eq (g2 := F0 m 4 ls []) rfl ?_
  refine lv_aload_n hx hb dX2_init_4 rfl (lv_at hl 0 rfl) ?_
  refine lv_aload_n hx hb dX2_init_5 rfl (lv_at hl 1 rfl) ?_
  refine va_putF (ci := 0) (v := .ref a) (ty := .object "TextBridge$Row") (C := RX0) (T := TX0) (N := 8) hx hb hT i_X0 tyX0 tyX0_ok nmX0 hown hK hP hD hS 0 rfl rfl 0 (by decide) (hT _ wfl_X2_9) (fun _ h9 => h9) rfl hnm rfl (by decide +kernel) rfl rfl (Nat.le_of_ble_eq_true rfl) dX2_init_6 (fun H locs hP hD hS => ?_)
  have hP : va_P D vwCl [(h, .inr (0, [.ref a, .null, .int 0, .int 0, .int 0, .int 0, .int 0, .long 0]))] H := hP
  have hD : va_D A [(h, .inr (0, [.ref a, .null, .int 0, .int 0, .int 0, .int 0, .int 0, .long 0]))] := hD
  refine lv_aload_n hx hb dX2_init_9 rfl (lv_at hl 0 rfl) ?_
  refine lv_aload_n hx hb dX2_init_10 rfl (lv_at hl 2 rfl) ?_
  refine va_putF (ci := 0) (v := .ref b) (ty := .object "TextBridge$Row") (C := RX0) (T := TX0) (N := 8) hx hb hT i_X0 tyX0 tyX0_ok nmX0 hown hK hP hD hS 0 rfl rfl 1 (by decide) (hT _ wfl_X2_15) (fun _ h9 => h9) rfl hnm rfl (by decide +kernel) rfl rfl (Nat.le_of_ble_eq_true rfl) dX2_init_11 (fun H locs hP hD hS => ?_)
  have hP : va_P D vwCl [(h, .inr (0, [.ref a, .ref b, .int 0, .int 0, .int 0, .int 0, .int 0, .long 0]))] H := hP
  have hD : va_D A [(h, .inr (0, [.ref a, .ref b, .int 0, .int 0, .int 0, .int 0, .int 0, .long 0]))] := hD
  refine lv_aload_n hx hb dX2_init_14 rfl (lv_at hl 0 rfl) ?_
  refine lv_iload_n hx hb dX2_init_15 rfl (lv_at hl 3 rfl) ?_
  refine va_putF (ci := 0) (v := .int d) (ty := .int) (C := RX0) (T := TX0) (N := 8) hx hb hT i_X0 tyX0 tyX0_ok nmX0 hown hK hP hD hS 0 rfl rfl 2 (by decide) (hT _ wfl_X2_18) (fun _ h9 => h9) rfl hnm rfl (by decide +kernel) rfl rfl (Nat.le_of_ble_eq_true rfl) dX2_init_16 (fun H locs hP hD hS => ?_)
  have hP : va_P D vwCl [(h, .inr (0, [.ref a, .ref b, .int d, .int 0, .int 0, .int 0, .int 0, .long 0]))] H := hP
  have hD : va_D A [(h, .inr (0, [.ref a, .ref b, .int d, .int 0, .int 0, .int 0, .int 0, .long 0]))] := hD
  refine lv_aload_n hx hb dX2_init_19 rfl (lv_at hl 0 rfl) ?_
  refine lv_iconst (v := 0) hx hb dX2_init_20 (by decide) ?_
  refine va_put (ci := 0) (v := .int 0) (ty := .int) (C := RX0) (T := TX0) (N := 8) hx hb hT i_X0 tyX0 tyX0_ok nmX0 hown hK hP hD hS 0 rfl rfl 3 (by decide) (hT _ wfl_X2_22) (fun _ h9 => h9) rfl (by decide +kernel) rfl rfl (Nat.le_of_ble_eq_true rfl) dX2_init_21 (fun H locs hP hD hS => ?_)
  have hP : va_P D vwCl [(h, .inr (0, [.ref a, .ref b, .int d, .int 0, .int 0, .int 0, .int 0, .long 0]))] H := hP
  have hD : va_D A [(h, .inr (0, [.ref a, .ref b, .int d, .int 0, .int 0, .int 0, .int 0, .long 0]))] := hD
  refine lv_aload_n hx hb dX2_init_24 rfl (lv_at hl 0 rfl) ?_
  refine lv_iconst (v := 0) hx hb dX2_init_25 (by decide) ?_
  refine va_put (ci := 0) (v := .int 0) (ty := .int) (C := RX0) (T := TX0) (N := 8) hx hb hT i_X0 tyX0 tyX0_ok nmX0 hown hK hP hD hS 0 rfl rfl 4 (by decide) (hT _ wfl_X2_25) (fun _ h9 => h9) rfl (by decide +kernel) rfl rfl (Nat.le_of_ble_eq_true rfl) dX2_init_26 (fun H locs hP hD hS => ?_)
  have hP : va_P D vwCl [(h, .inr (0, [.ref a, .ref b, .int d, .int 0, .int 0, .int 0, .int 0, .long 0]))] H := hP
  have hD : va_D A [(h, .inr (0, [.ref a, .ref b, .int d, .int 0, .int 0, .int 0, .int 0, .long 0]))] := hD
  refine lv_aload_n hx hb dX2_init_29 rfl (lv_at hl 0 rfl) ?_
  refine lv_iconst (v := -1) hx hb dX2_init_30 (by decide) ?_
  refine va_put (ci := 0) (v := .int (-1)) (ty := .int) (C := RX0) (T := TX0) (N := 8) hx hb hT i_X0 tyX0 tyX0_ok nmX0 hown hK hP hD hS 0 rfl rfl 5 (by decide) (hT _ wfl_X2_28) (fun _ h9 => h9) rfl (by decide +kernel) rfl rfl (Nat.le_of_ble_eq_true rfl) dX2_init_31 (fun H locs hP hD hS => ?_)
  have hP : va_P D vwCl [(h, .inr (0, [.ref a, .ref b, .int d, .int 0, .int 0, .int (-1), .int 0, .long 0]))] H := hP
  have hD : va_D A [(h, .inr (0, [.ref a, .ref b, .int d, .int 0, .int 0, .int (-1), .int 0, .long 0]))] := hD
  exact ct_vret G hP hD hS dX2_init_34
set_option maxHeartbeats 4000000 in
set_option maxRecDepth 100000 in
theorem c_ini_k {l : Launch} {D : va_G} {aK aV : Nat → Nat} {cB cI cJ : ClassId} {h a b : Nat} {d : Int32} : CT l D (gTy cB cI cJ) aK aV yX0_init (wM yX0_init cX0_init 4 none) { frames := 2, cells := 0, slots := 0, locals := 43 } 0 0 [.ref h, .ref a, .ref b, .int d] [(h, .inr (0, [.null, .null, .int 0, .int 0, .int 0, .int 0, .int 0, .long 0]))] none [(h, .inr (0, [.ref a, .ref b, .int d, .int 0, .int 0, .int (-1), .int 0, .long 0]))] := by
  refine CT.of (by decide) rfl ?_
  intro p e s m below meth c A G hnm hP hD hS
  obtain ⟨hx, hb, hml, hown, hT, hrt, hlk, hK, hA, hG, hE⟩ := id G
  have hl := lv_entry [.ref h, .ref a, .ref b, .int d] (n := 4) (Nat.le_of_ble_eq_true rfl)
  rw [lg_entry_eq]
  generalize (lg_sl [.ref h, .ref a, .ref b, .int d] ++ List.replicate (4 - (lg_sl [.ref h, .ref a, .ref b, .int d]).length) Slot.unset).toArray = ls at hl ⊢
  have hl : lv_has ls 4 [(0, .ref h), (1, .ref a), (2, .ref b), (3, .int d)] := hl
  refine lv_aload_n hx hb dX0_init_0 rfl (lv_at hl 0 rfl) ?_
  refine lv_aload_n hx hb dX0_init_1 rfl (lv_at hl 1 rfl) ?_
  refine lv_aload_n hx hb dX0_init_2 rfl (lv_at hl 2 rfl) ?_
  refine lv_iload_n hx hb dX0_init_3 rfl (lv_at hl 3 rfl) ?_
  refine ct_i (As := [.ref a, .ref b, .int d]) (rest := []) (wr := []) G kX0_3 c_rini_k hP hD hS [0] [] rfl rfl rfl rfl (fun _ h => absurd h List.not_mem_nil) ⟨rfl, rfl, Nat.le_of_ble_eq_true rfl, Nat.le_of_ble_eq_true rfl⟩ rfl hl.1 (Nat.le_of_ble_eq_true rfl) dX0_init_4 ⟨Nat.le_refl _, Nat.le_refl _⟩ (fun H locs hP hD hS => ?_)
  refine W.eq (g2 := F0 m 7 ls []) rfl ?_
  have hP : va_P D vwCl [(h, .inr (0, [.ref a, .ref b, .int d, .int 0, .int 0, .int (-1), .int 0, .long 0]))] H := hP
  have hD : va_D A [(h, .inr (0, [.ref a, .ref b, .int d, .int 0, .int 0, .int (-1), .int 0, .long 0]))] := hD
  refine lv_aload_n hx hb dX0_init_7 rfl (lv_at hl 0 rfl) ?_
  refine lv_iconst (v := 0) hx hb dX0_init_8 (by decide) ?_
  refine va_put (ci := 0) (v := .int 0) (ty := .int) (C := RX0) (T := TX0) (N := 8) hx hb hT i_X0 tyX0 tyX0_ok nmX0 hown hK hP hD hS 0 rfl rfl 6 (by decide) (hT _ wfl_X0_9) (fun _ h9 => h9) rfl (by decide +kernel) rfl rfl (Nat.le_of_ble_eq_true rfl) dX0_init_9 (fun H locs hP hD hS => ?_)
  have hP : va_P D vwCl [(h, .inr (0, [.ref a, .ref b, .int d, .int 0, .int 0, .int (-1), .int 0, .long 0]))] H := hP
  have hD : va_D A [(h, .inr (0, [.ref a, .ref b, .int d, .int 0, .int 0, .int (-1), .int 0, .long 0]))] := hD
  refine lv_aload_n hx hb dX0_init_12 rfl (lv_at hl 0 rfl) ?_
  refine lv_lconst (v := 0) hx hb dX0_init_13 (by decide) ?_
  refine va_put (ci := 0) (v := .long 0) (ty := .long) (C := RX0) (T := TX0) (N := 8) hx hb hT i_X0 tyX0 tyX0_ok nmX0 hown hK hP hD hS 0 rfl rfl 7 (by decide) (hT _ wfl_X0_15) (fun _ h9 => h9) rfl (by decide +kernel) rfl rfl (Nat.le_of_ble_eq_true rfl) dX0_init_14 (fun H locs hP hD hS => ?_)
  have hP : va_P D vwCl [(h, .inr (0, [.ref a, .ref b, .int d, .int 0, .int 0, .int (-1), .int 0, .long 0]))] H := hP
  have hD : va_D A [(h, .inr (0, [.ref a, .ref b, .int d, .int 0, .int 0, .int (-1), .int 0, .long 0]))] := hD
  exact ct_vret G hP hD hS dX0_init_17
def jj_readValue : Nat → Int32 → JSt → Option (Bool × JSt)
  | 0, _, _ => none
  | n + 1, a, σ => jj_valueOf (jj_readValue n) a σ
abbrev rm_jj_readValue (n : Nat) : Room := { frames := 32 * n, cells := 0, slots := 0, locals := 800 * n }
set_option maxHeartbeats 4000000 in
set_option maxRecDepth 100000 in
theorem c_jj_readValue {l : Launch} {D : va_G} {aK aV : Nat → Nat} {cB cI cJ : ClassId} {q : Nat → Nat} : ∀ (n : Nat) {a : Int32} {σ : JSt} {x : Bool × JSt} (hf : jj_readValue n a σ = some x), CT l D (gTy cB cI cJ) aK aV yX1_readValue (wM yX1_readValue cX1_readValue 3 (some .boolean)) (rm_jj_readValue n) 0 0 [.ref (q 0), .int a] (jW cB q σ) (some (.int (bI x.1))) (jW cB q x.2) := by
  intro n
  induction n with
  | zero =>
    intro a σ x hf
    cases hf
  | succ n ih =>
    intro a σ x hf
    exact c_jj_valueOf (rmv := rm_jj_readValue n) ⟨fun hf => ih hf, rfl, rfl⟩ hf
def kk_readItem : Nat → Int32 → KSt → Option (Bool × KSt)
  | 0, _, _ => none
  | n + 1, a, σ => kk_itemOf (kk_readItem n) a σ
abbrev rm_kk_readItem (n : Nat) : Room := { frames := 32 * n, cells := 0, slots := 0, locals := 800 * n }
set_option maxHeartbeats 4000000 in
set_option maxRecDepth 100000 in
theorem c_kk_readItem {l : Launch} {D : va_G} {aK aV : Nat → Nat} {cB cI cJ : ClassId} {q : Nat → Nat} : ∀ (n : Nat) {a : Int32} {σ : KSt} {x : Bool × KSt} (hf : kk_readItem n a σ = some x), CT l D (gTy cB cI cJ) aK aV yX0_readItem (wM yX0_readItem cX0_readItem 3 (some .boolean)) (rm_kk_readItem n) 0 0 [.ref (q 0), .int a] (kW cB q σ) (some (.int (bI x.1))) (kW cB q x.2) := by
  intro n
  induction n with
  | zero =>
    intro a σ x hf
    cases hf
  | succ n ih =>
    intro a σ x hf
    exact c_kk_itemOf (rmv := rm_kk_readItem n) ⟨fun hf => ih hf, rfl, rfl⟩ hf
set_option maxHeartbeats 4000000 in
set_option maxRecDepth 100000 in
theorem c_exch {l : Launch} {D : va_G} {aK aV : Nat → Nat} {cB cI cJ : ClassId} {h t y z : Nat} {d r f : Int32} : CT l D (gTy cB cI cJ) aK aV yX4_exchangeRows (wM yX4_exchangeRows cX4_exchangeRows 2 none) { frames := 0, cells := 0, slots := 0, locals := 0 } 0 0 [.ref h] [(h, .inr (3, [.ref t, .ref y, .ref z, .int d, .int r, .int f]))] none [(h, .inr (3, [.ref t, .ref z, .ref y, .int d, .int r, .int f]))] := by
  refine CT.of (by decide) rfl ?_
  intro p e s m below meth c A G hnm hP hD hS
  obtain ⟨hx, hb, hml, hown, hT, hrt, hlk, hK, hA, hG, hE⟩ := id G
  have hl := lv_entry [.ref h] (n := 2) (Nat.le_of_ble_eq_true rfl)
  rw [lg_entry_eq]
  generalize (lg_sl [.ref h] ++ List.replicate (2 - (lg_sl [.ref h]).length) Slot.unset).toArray = ls at hl ⊢
  have hl : lv_has ls 2 [(0, .ref h)] := hl
  refine lv_aload_n hx hb dX4_exchangeRows_0 rfl (lv_at hl 0 rfl) ?_
  refine va_get (ci := 3) (v := .ref y) (C := RX4) (T := TX4) (N := 6) hx hb hT i_X4 hown hK hP 0 rfl rfl 1 (by decide) (hT _ wfl_X4_18) (fun _ h9 => h9) rfl dX4_exchangeRows_1 ?_
  refine lv_astore_n (lv' := [(1, .ref y), (0, .ref h)]) hx hb dX4_exchangeRows_4 rfl hl (by decide) rfl (fun ls hl => ?_)
  refine lv_aload_n hx hb dX4_exchangeRows_5 rfl (lv_at hl 1 rfl) ?_
  refine lv_aload_n hx hb dX4_exchangeRows_6 rfl (lv_at hl 1 rfl) ?_
  refine va_get (ci := 3) (v := .ref z) (C := RX4) (T := TX4) (N := 6) hx hb hT i_X4 hown hK hP 0 rfl rfl 2 (by decide) (hT _ wfl_X4_21) (fun _ h9 => h9) rfl dX4_exchangeRows_7 ?_
  refine va_put (ci := 3) (v := .ref z) (ty := .object "TextBridge$Row") (C := RX4) (T := TX4) (N := 6) hx hb hT i_X4 tyX4 tyX4_ok nmX4 hown hK hP hD hS 0 rfl rfl 1 (by decide) (hT _ wfl_X4_18) (fun _ h9 => h9) rfl (by decide +kernel) rfl rfl (Nat.le_of_ble_eq_true rfl) dX4_exchangeRows_10 (fun H locs hP hD hS => ?_)
  have hP : va_P D vwCl [(h, .inr (3, [.ref t, .ref z, .ref z, .int d, .int r, .int f]))] H := hP
  have hD : va_D A [(h, .inr (3, [.ref t, .ref z, .ref z, .int d, .int r, .int f]))] := hD
  refine lv_aload_n hx hb dX4_exchangeRows_13 rfl (lv_at hl 1 rfl) ?_
  refine lv_aload_n hx hb dX4_exchangeRows_14 rfl (lv_at hl 0 rfl) ?_
  refine va_put (ci := 3) (v := .ref y) (ty := .object "TextBridge$Row") (C := RX4) (T := TX4) (N := 6) hx hb hT i_X4 tyX4 tyX4_ok nmX4 hown hK hP hD hS 0 rfl rfl 2 (by decide) (hT _ wfl_X4_21) (fun _ h9 => h9) rfl (by decide +kernel) rfl rfl (Nat.le_of_ble_eq_true rfl) dX4_exchangeRows_15 (fun H locs hP hD hS => ?_)
  have hP : va_P D vwCl [(h, .inr (3, [.ref t, .ref z, .ref y, .int d, .int r, .int f]))] H := hP
  have hD : va_D A [(h, .inr (3, [.ref t, .ref z, .ref y, .int d, .int r, .int f]))] := hD
  exact ct_vret G hP hD hS dX4_exchangeRows_18
abbrev JR : Type := Int32 × Int32 × Int32 × Int32
abbrev KR : Type := Int32 × Int32 × Int32 × Int32 × Int32 × Int64
def jQ (q : Nat → Nat) (h : Nat) : Nat → Nat := fun i => match i with
  | 0 => h
  | 1 => q 1
  | 2 => q 2
  | 3 => q 5
  | _ => q 6
def qS (q : Nat → Nat) : Nat → Nat := fun i => match i with
  | 0 => q 0
  | 1 => q 1
  | 2 => q 2
  | 3 => q 5
  | 4 => q 6
  | 5 => q 3
  | _ => q 4
def qB (b : Bool) (q : Nat → Nat) : Nat → Nat := if b then qS q else q
def swT (σ : TSt) : TSt := ts_draft (ts_written σ (tf_draft σ)) (tf_written σ)
def jS (σ : TSt) (j : JR) : JSt := (j.1, j.2.1, j.2.2.1, j.2.2.2, tf_tape σ, tf_draft σ)
def kS (σ : TSt) (j : KR) : KSt := (j.1, j.2.1, j.2.2.1, j.2.2.2.1, j.2.2.2.2.1, j.2.2.2.2.2, tf_tape σ, tf_draft σ)
def jT (σ : TSt) (x : JSt) : TSt := ts_draft (ts_tape σ (jf_tape x)) (jf_target x)
def kT (σ : TSt) (x : KSt) : TSt := ts_draft (ts_tape σ (kf_tape x)) (kf_target x)
def jU (x : JSt) : JR := (jf_depthLimit x, jf_place x, jf_faultKind x, jf_faultPlace x)
def kU (x : KSt) : KR := (kf_depthLimit x, kf_place x, kf_faultKind x, kf_faultPlace x, kf_type x, kf_number x)
def tjW (cB : ClassId) (q : Nat → Nat) (h : Nat) (σ : TSt) (j : JR) : va_W := tW cB q σ ++ [(h, .inr (1, [.ref (q 1), .ref (q 5), .int j.1, .int j.2.1, .int j.2.2.1, .int j.2.2.2]))]
def tkW (cB : ClassId) (q : Nat → Nat) (h : Nat) (σ : TSt) (j : KR) : va_W := tW cB q σ ++ [(h, .inr (0, [.ref (q 1), .ref (q 5), .int j.1, .int j.2.1, .int j.2.2.1, .int j.2.2.2.1, .int j.2.2.2.2.1, .long j.2.2.2.2.2]))]
/-- the answer of a reading, from what the reader has found -/
def an2 (σ : TSt) (fk fp : Int32) : Int32 × Bool × TSt := if fk = 0 then (rf_sz (tf_draft σ), true, swT (ts_faultPlace σ fp)) else (-fk, false, ts_faultPlace σ fp)
def an1 (p1 : Int32) (σ : TSt) (fk fp : Int32) : Int32 × Bool × TSt := if p1 = 0 then an2 σ fk fp else (if rf_sz (tf_draft σ) ≤ tf_room σ then an2 σ fk fp else an2 σ (5 : Int32) (rf_sz (tf_tape σ)))
theorem jS_jT (σ : TSt) (x : JSt) : jS (jT σ x) (jU x) = x := rfl
theorem kS_kT (σ : TSt) (x : KSt) : kS (kT σ x) (kU x) = x := rfl
theorem vTJ {p : Program} {l : Launch} {e : Env} {R : Room} {s : State} {m : MethodId} {args : Array Value} {below : List Frame} {meth : Method} {c : Code} {H : Heap} {locs : List Loc} {cells slots : Nat} {Q : State → Prop} {D : va_G} {aK aV : Nat → Nat} {A : Nat → Prop} {cc : ByteArray} {nL : Nat} {ret : Option FieldType} {pc : Nat} {ls : Array Slot} {rest : List Value} {cB cI cJ : ClassId} {ov : Option Value} {y : MethodName} {bytes : ByteArray} {maxL n index : Nat} {ret' : Option FieldType} {rm : Room} {As : List Value} {q : Nat → Nat} {h : Nat} {σ : TSt} {j : JR} {x : JSt} (G : CX p s m args meth c D (gTy cB cI cJ) aK aV A RX4 cc nL ret) (M : MV RX4 index RX1 y bytes maxL ret' n) (hM : CT l D (gTy cB cI cJ) aK aV y (wM y bytes maxL ret') rm 0 0 (.ref h :: As) (jW cB (jQ q h) (jS σ j)) ov (jW cB (jQ q h) x)) (hP : va_P D vwCl (tjW cB q h σ j) H) (hD : va_D A (tjW cB q h σ j)) (hS : va_S A s.heap H locs) (hrm : rm.cells = 0 ∧ rm.slots = 0 ∧ rm.frames + 1 ≤ R.frames ∧ 8 + (maxL + 11) + rm.locals ≤ R.locals) (hc : cells ≤ R.cells ∧ slots ≤ R.slots) (hA : As.length = n) (hls : ls.size = nL) (hst : (rest.map fun v => v.category).sum ≤ 8) (hdg : decode cc pc = .ok (.invokevirtual index, 3)) (k : ∀ (H1 : Heap) (locs1 : List Loc), va_P D vwCl (tjW cB q h (jT σ x) (jU x)) H1 → va_D A (tjW cB q h (jT σ x) (jU x)) → va_S A s.heap H1 locs1 → W p l e R s m args below meth c H1 locs1 cells slots Q (F0 m (pc + 3) ls (ov.toList ++ rest))) : W p l e R s m args below meth c H locs cells slots Q (F0 m pc ls (As.reverse ++ .ref h :: rest)) :=
  ct_v (wr := [(tjW cB q h σ j).getD 0 (0, .inr (0, [])), (tjW cB q h σ j).getD 3 (0, .inr (0, [])), (tjW cB q h σ j).getD 4 (0, .inr (0, []))]) G M hM hP hD hS [7, 1, 2, 5, 6] [0, 3, 4] rfl rfl rfl rfl (by decide) (ci := 1) (q0 := 7) rfl rfl rfl hrm hA hls hst hdg hc (fun H1 l1 hP hD hS => k H1 l1 (hP.sub [0, 4, 5, 1, 2, 6, 7, 3] rfl) (hD.sub [0, 4, 5, 1, 2, 6, 7, 3] rfl rfl) hS)
theorem uTJ {p : Program} {l : Launch} {e : Env} {R : Room} {s : State} {m : MethodId} {args : Array Value} {below : List Frame} {meth : Method} {c : Code} {H : Heap} {locs : List Loc} {cells slots : Nat} {Q : State → Prop} {D : va_G} {aK aV : Nat → Nat} {A : Nat → Prop} {cc : ByteArray} {nL : Nat} {ret : Option FieldType} {pc : Nat} {ls : Array Slot} {rest : List Value} {cB cI cJ : ClassId} {ov : Option Value} {y : MethodName} {bytes : ByteArray} {maxL n index : Nat} {ret' : Option FieldType} {rm : Room} {As : List Value} {q : Nat → Nat} {h : Nat} {σ : TSt} {j : JR} {x : JSt} (G : CX p s m args meth c D (gTy cB cI cJ) aK aV A RX4 cc nL ret) {xm : MethodName} (M : MU RX4 index RX1 "TextBridge$Reader" xm y bytes maxL ret' n) (hM : CT l D (gTy cB cI cJ) aK aV y (wM y bytes maxL ret') rm 0 0 (.ref h :: As) (jW cB (jQ q h) (jS σ j)) ov (jW cB (jQ q h) x)) (hP : va_P D vwCl (tjW cB q h σ j) H) (hD : va_D A (tjW cB q h σ j)) (hS : va_S A s.heap H locs) (hrm : rm.cells = 0 ∧ rm.slots = 0 ∧ rm.frames + 1 ≤ R.frames ∧ 8 + (maxL + 11) + rm.locals ≤ R.locals) (hc : cells ≤ R.cells ∧ slots ≤ R.slots) (hA : As.length = n) (hls : ls.size = nL) (hst : (rest.map fun v => v.category).sum ≤ 8) (hdg : decode cc pc = .ok (.invokevirtual index, 3)) (k : ∀ (H1 : Heap) (locs1 : List Loc), va_P D vwCl (tjW cB q h (jT σ x) (jU x)) H1 → va_D A (tjW cB q h (jT σ x) (jU x)) → va_S A s.heap H1 locs1 → W p l e R s m args below meth c H1 locs1 cells slots Q (F0 m (pc + 3) ls (ov.toList ++ rest))) : W p l e R s m args below meth c H locs cells slots Q (F0 m pc ls (As.reverse ++ .ref h :: rest)) :=
  ct_u (wr := [(tjW cB q h σ j).getD 0 (0, .inr (0, [])), (tjW cB q h σ j).getD 3 (0, .inr (0, [])), (tjW cB q h σ j).getD 4 (0, .inr (0, []))]) G M hM hP hD hS [7, 1, 2, 5, 6] [0, 3, 4] rfl rfl rfl rfl (by decide) (ci := 1) (q0 := 7) rfl rfl rfl hrm hA hls hst hdg hc (fun H1 l1 hP hD hS => k H1 l1 (hP.sub [0, 4, 5, 1, 2, 6, 7, 3] rfl) (hD.sub [0, 4, 5, 1, 2, 6, 7, 3] rfl rfl) hS)
theorem zJ_draft {p : Program} {l : Launch} {e : Env} {R : Room} {s : State} {m : MethodId} {args : Array Value} {below : List Frame} {meth : Method} {c : Code} {H : Heap} {locs : List Loc} {cells slots : Nat} {Q : State → Prop} {D : va_G} {aK aV : Nat → Nat} {A : Nat → Prop} {cc : ByteArray} {nL : Nat} {ret : Option FieldType} {pc : Nat} {ls : Array Slot} {rest : List Value} {cB cI cJ : ClassId} {q : Nat → Nat} {h : Nat} {σ : TSt} {j : JR} (G : CX p s m args meth c D (gTy cB cI cJ) aK aV A RX4 cc nL ret) (hP : va_P D vwCl (tjW cB q h σ j) H) (hD : va_D A (tjW cB q h σ j)) (hS : va_S A s.heap H locs) (hrm : 1 ≤ R.frames ∧ 20 ≤ R.locals) (hc : cells ≤ R.cells ∧ slots ≤ R.slots) (hls : ls.size = nL) (hst : (rest.map fun v => v.category).sum ≤ 8) (hdg : decode cc pc = .ok (.invokevirtual 34, 3)) (k : ∀ (H1 : Heap) (locs1 : List Loc), va_P D vwCl (tjW cB q h σ j) H1 → va_D A (tjW cB q h σ j) → va_S A s.heap H1 locs1 → W p l e R s m args below meth c H1 locs1 cells slots Q (F0 m (pc + 3) ls (.int (rf_sz (tf_draft σ)) :: rest))) : W p l e R s m args below meth c H locs cells slots Q (F0 m pc ls (.ref (q 5) :: rest)) :=
  ct_v (As := []) (wr := [(tjW cB q h σ j).getD 0 (0, .inr (0, [])), (tjW cB q h σ j).getD 1 (0, .inr (0, [])), (tjW cB q h σ j).getD 2 (0, .inr (0, [])), (tjW cB q h σ j).getD 3 (0, .inr (0, [])), (tjW cB q h σ j).getD 4 (0, .inr (0, [])), (tjW cB q h σ j).getD 7 (0, .inr (0, []))]) G kX4_34 (c_rr_size (r := q 5) (b := q 6) (N := 6000) (ρ := (rf_sz (tf_draft σ), tf_draft σ)) rfl) hP hD hS [5, 6] [0, 1, 2, 3, 4, 7] rfl rfl rfl rfl (by decide) (ci := 2) (q0 := 5) rfl rfl rfl ⟨rfl, rfl, hrm.1, hrm.2⟩ rfl hls hst hdg hc (fun H1 l1 hP hD hS => k H1 l1 (hP.sub [0, 1, 2, 3, 4, 6, 7, 5] rfl) (hD.sub [0, 1, 2, 3, 4, 6, 7, 5] rfl rfl) hS)
theorem zJ_tape {p : Program} {l : Launch} {e : Env} {R : Room} {s : State} {m : MethodId} {args : Array Value} {below : List Frame} {meth : Method} {c : Code} {H : Heap} {locs : List Loc} {cells slots : Nat} {Q : State → Prop} {D : va_G} {aK aV : Nat → Nat} {A : Nat → Prop} {cc : ByteArray} {nL : Nat} {ret : Option FieldType} {pc : Nat} {ls : Array Slot} {rest : List Value} {cB cI cJ : ClassId} {q : Nat → Nat} {h : Nat} {σ : TSt} {j : JR} (G : CX p s m args meth c D (gTy cB cI cJ) aK aV A RX4 cc nL ret) (hP : va_P D vwCl (tjW cB q h σ j) H) (hD : va_D A (tjW cB q h σ j)) (hS : va_S A s.heap H locs) (hrm : 1 ≤ R.frames ∧ 20 ≤ R.locals) (hc : cells ≤ R.cells ∧ slots ≤ R.slots) (hls : ls.size = nL) (hst : (rest.map fun v => v.category).sum ≤ 8) (hdg : decode cc pc = .ok (.invokevirtual 34, 3)) (k : ∀ (H1 : Heap) (locs1 : List Loc), va_P D vwCl (tjW cB q h σ j) H1 → va_D A (tjW cB q h σ j) → va_S A s.heap H1 locs1 → W p l e R s m args below meth c H1 locs1 cells slots Q (F0 m (pc + 3) ls (.int (rf_sz (tf_tape σ)) :: rest))) : W p l e R s m args below meth c H locs cells slots Q (F0 m pc ls (.ref (q 1) :: rest)) :=
  ct_v (As := []) (wr := [(tjW cB q h σ j).getD 0 (0, .inr (0, [])), (tjW cB q h σ j).getD 3 (0, .inr (0, [])), (tjW cB q h σ j).getD 4 (0, .inr (0, [])), (tjW cB q h σ j).getD 5 (0, .inr (0, [])), (tjW cB q h σ j).getD 6 (0, .inr (0, [])), (tjW cB q h σ j).getD 7 (0, .inr (0, []))]) G kX4_34 (c_rr_size (r := q 1) (b := q 2) (N := 4000) (ρ := (rf_sz (tf_tape σ), tf_tape σ)) rfl) hP hD hS [1, 2] [0, 3, 4, 5, 6, 7] rfl rfl rfl rfl (by decide) (ci := 2) (q0 := 1) rfl rfl rfl ⟨rfl, rfl, hrm.1, hrm.2⟩ rfl hls hst hdg hc (fun H1 l1 hP hD hS => k H1 l1 (hP.sub [0, 6, 7, 1, 2, 3, 4, 5] rfl) (hD.sub [0, 6, 7, 1, 2, 3, 4, 5] rfl rfl) hS)
abbrev rm_ansj : Room := { frames := 1, cells := 0, slots := 0, locals := 22 }
set_option maxHeartbeats 4000000 in
set_option maxRecDepth 100000 in
theorem ansj_31 {p : Program} {l : Launch} {e : Env} {s : State} {m : MethodId} {args : Array Value} {below : List Frame} {meth : Method} {c : Code} {D : va_G} {aK aV : Nat → Nat} {A : Nat → Prop} {cB cI cJ : ClassId} {q : Nat → Nat} {h : Nat} {H : Heap} {locs : List Loc} {ls : Array Slot} {ρ : Int32 × Bool × TSt} {σ : TSt} {j : JR} {p1 : Int32} (G : CX p s m args meth c D (gTy cB cI cJ) aK aV A RX4 cX4_answerOf 3 (some .int)) (hl : lv_has ls 3 [(0, .ref (q 0)), (1, .ref h), (2, .int p1)]) (hP : va_P D vwCl (tjW cB q h σ j) H) (hD : va_D A (tjW cB q h σ j)) (hS : va_S A s.heap H locs) (hf : an2 σ j.2.2.1 j.2.2.2 = ρ) : W p l e rm_ansj s m args below meth c H locs 0 0 (MQ below (cQ D (gTy cB cI cJ) A (tW cB (qB ρ.2.1 q) ρ.2.2) (some (.int ρ.1))) args s 0 0 A) (F0 m 31 ls []) := by
  unfold an2 at hf
  obtain ⟨hx, hb, hml, hown, hT, hrt, hlk, hK, hA, hG, hE⟩ := id G
  refine lv_aload_n hx hb dX4_answerOf_31 rfl (lv_at hl 0 rfl) ?_
  refine lv_aload_n hx hb dX4_answerOf_32 rfl (lv_at hl 1 rfl) ?_
  refine uTJ (As := []) (rest := [.ref (q 0)]) (x := jS σ j) G kX4_82_X1 (c_jj_faultPlace (q := jQ q h) (ρ := (j.2.2.2, jS σ j)) rfl) hP hD hS ⟨rfl, rfl, Nat.le_of_ble_eq_true rfl, Nat.le_of_ble_eq_true rfl⟩ ⟨Nat.zero_le _, Nat.zero_le _⟩ rfl hl.1 (Nat.le_of_ble_eq_true rfl) dX4_answerOf_33 (fun H locs hP hD hS => ?_)
  refine W.eq (g2 := F0 m 36 ls [.int j.2.2.2, .ref (q 0)]) rfl ?_
  have hP : va_P D vwCl (tjW cB q h σ j) H := hP
  have hD : va_D A (tjW cB q h σ j) := hD
  refine va_put (ci := 3) (v := .int j.2.2.2) (ty := .int) (C := RX4) (T := TX4) (N := 6) hx hb hT i_X4 tyX4 tyX4_ok nmX4 hown hK hP hD hS 0 rfl rfl 5 (by decide) (hT _ wfl_X4_31) (fun _ h9 => h9) rfl (by decide +kernel) rfl rfl (Nat.le_of_ble_eq_true rfl) dX4_answerOf_36 (fun H locs hP hD hS => ?_)
  have hP : va_P D vwCl (tjW cB q h (ts_faultPlace σ j.2.2.2) j) H := hP
  have hD : va_D A (tjW cB q h (ts_faultPlace σ j.2.2.2) j) := hD
  refine lv_aload_n hx hb dX4_answerOf_39 rfl (lv_at hl 1 rfl) ?_
  refine uTJ (As := []) (rest := []) (x := jS (ts_faultPlace σ j.2.2.2) j) G kX4_84_X1 (c_jj_faultKind (q := jQ q h) (ρ := (j.2.2.1, jS (ts_faultPlace σ j.2.2.2) j)) rfl) hP hD hS ⟨rfl, rfl, Nat.le_of_ble_eq_true rfl, Nat.le_of_ble_eq_true rfl⟩ ⟨Nat.zero_le _, Nat.zero_le _⟩ rfl hl.1 (Nat.le_of_ble_eq_true rfl) dX4_answerOf_40 (fun H locs hP hD hS => ?_)
  refine W.eq (g2 := F0 m 43 ls [.int j.2.2.1]) rfl ?_
  have hP : va_P D vwCl (tjW cB q h (ts_faultPlace σ j.2.2.2) j) H := hP
  have hD : va_D A (tjW cB q h (ts_faultPlace σ j.2.2.2) j) := hD
  refine lv_if_eq (tgt := 52) hx hb dX4_answerOf_43 (by decide) (fun c1 => ?_) (fun c1 => ?_)
  · have hf := (if_pos c1).symm.trans hf
    subst hf
    refine lv_aload_n hx hb dX4_answerOf_52 rfl (lv_at hl 0 rfl) ?_
    refine ct_v (As := []) (rest := []) (wr := [(tjW cB q h (ts_faultPlace σ j.2.2.2) j).getD 1 (0, .inr (0, [])), (tjW cB q h (ts_faultPlace σ j.2.2.2) j).getD 2 (0, .inr (0, [])), (tjW cB q h (ts_faultPlace σ j.2.2.2) j).getD 3 (0, .inr (0, [])), (tjW cB q h (ts_faultPlace σ j.2.2.2) j).getD 4 (0, .inr (0, [])), (tjW cB q h (ts_faultPlace σ j.2.2.2) j).getD 5 (0, .inr (0, [])), (tjW cB q h (ts_faultPlace σ j.2.2.2) j).getD 6 (0, .inr (0, [])), (tjW cB q h (ts_faultPlace σ j.2.2.2) j).getD 7 (0, .inr (0, []))]) G kX4_87 c_exch hP hD hS [0] [1, 2, 3, 4, 5, 6, 7] rfl rfl rfl rfl (by decide) (ci := 3) (q0 := 0) rfl rfl rfl ⟨rfl, rfl, Nat.le_of_ble_eq_true rfl, Nat.le_of_ble_eq_true rfl⟩ rfl hl.1 (Nat.le_of_ble_eq_true rfl) dX4_answerOf_53 ⟨Nat.zero_le _, Nat.zero_le _⟩ (fun H locs hP hD hS => ?_)
    refine W.eq (g2 := F0 m 56 ls []) rfl ?_
    have hP := hP.sub (ws' := tW cB (qS q) (swT (ts_faultPlace σ j.2.2.2))) [7, 0, 1, 4, 5, 2, 3] rfl
    have hD := hD.sub (ws' := tW cB (qS q) (swT (ts_faultPlace σ j.2.2.2))) [7, 0, 1, 4, 5, 2, 3] rfl rfl
    refine lv_aload_n hx hb dX4_answerOf_56 rfl (lv_at hl 0 rfl) ?_
    refine gt_X4_written (q := qS q) G hP dX4_answerOf_57 ?_
    refine vT_written (q := qS q) (As := []) (rest := []) (τ := tf_draft σ) G kX4_34 rfl (c_rr_size (ρ := (rf_sz (tf_draft σ), tf_draft σ)) rfl) hP hD hS ⟨rfl, rfl, Nat.le_of_ble_eq_true rfl, Nat.le_of_ble_eq_true rfl⟩ ⟨Nat.zero_le _, Nat.zero_le _⟩ rfl hl.1 (Nat.le_of_ble_eq_true rfl) dX4_answerOf_60 (fun H locs hP hD hS => ?_)
    refine W.eq (g2 := F0 m 63 ls [.int (rf_sz (tf_draft σ))]) rfl ?_
    have hP : va_P D vwCl (tW cB (qS q) (swT (ts_faultPlace σ j.2.2.2))) H := hP
    have hD : va_D A (tW cB (qS q) (swT (ts_faultPlace σ j.2.2.2))) := hD
    exact ct_iret G rfl hP hD hS dX4_answerOf_63
  · have hf := (if_neg c1).symm.trans hf
    subst hf
    refine lv_aload_n hx hb dX4_answerOf_46 rfl (lv_at hl 1 rfl) ?_
    refine uTJ (As := []) (rest := []) (x := jS (ts_faultPlace σ j.2.2.2) j) G kX4_84_X1 (c_jj_faultKind (q := jQ q h) (ρ := (j.2.2.1, jS (ts_faultPlace σ j.2.2.2) j)) rfl) hP hD hS ⟨rfl, rfl, Nat.le_of_ble_eq_true rfl, Nat.le_of_ble_eq_true rfl⟩ ⟨Nat.zero_le _, Nat.zero_le _⟩ rfl hl.1 (Nat.le_of_ble_eq_true rfl) dX4_answerOf_47 (fun H locs hP hD hS => ?_)
    refine W.eq (g2 := F0 m 50 ls [.int j.2.2.1]) rfl ?_
    refine lv_ineg hx hb dX4_answerOf_50 ?_
    have hP := hP.sub (ws' := tW cB q (ts_faultPlace σ j.2.2.2)) [0, 1, 2, 3, 4, 5, 6] rfl
    have hD := hD.sub (ws' := tW cB q (ts_faultPlace σ j.2.2.2)) [0, 1, 2, 3, 4, 5, 6] rfl rfl
    exact ct_iret G rfl hP hD hS dX4_answerOf_51
set_option maxHeartbeats 4000000 in
set_option maxRecDepth 100000 in
theorem c_ansj {l : Launch} {D : va_G} {aK aV : Nat → Nat} {cB cI cJ : ClassId} {q : Nat → Nat} {h : Nat} {σ : TSt} {j : JR} {p1 : Int32} {ρ : Int32 × Bool × TSt} (hf : an1 p1 σ j.2.2.1 j.2.2.2 = ρ) : CT l D (gTy cB cI cJ) aK aV yX4_answerOf (wM yX4_answerOf cX4_answerOf 3 (some .int)) rm_ansj 0 0 [.ref (q 0), .ref h, .int p1] (tjW cB q h σ j) (some (.int ρ.1)) (tW cB (qB ρ.2.1 q) ρ.2.2) := by
  refine CT.of (by decide) rfl ?_
  intro p e s m below meth c A G hnm hP hD hS
  obtain ⟨hx, hb, hml, hown, hT, hrt, hlk, hK, hA, hG, hE⟩ := id G
  have hl := lv_entry [.ref (q 0), .ref h, .int p1] (n := 3) (Nat.le_of_ble_eq_true rfl)
  rw [lg_entry_eq]
  generalize (lg_sl [.ref (q 0), .ref h, .int p1] ++ List.replicate (3 - (lg_sl [.ref (q 0), .ref h, .int p1]).length) Slot.unset).toArray = ls at hl ⊢
  have hl : lv_has ls 3 [(0, .ref (q 0)), (1, .ref h), (2, .int p1)] := hl
  unfold an1 at hf
  refine lv_iload_n hx hb dX4_answerOf_0 rfl (lv_at hl 2 rfl) ?_
  refine lv_if_eq (tgt := 31) hx hb dX4_answerOf_1 (by decide) (fun c1 => ?_) (fun c1 => ?_)
  · exact ansj_31 G hl hP hD hS ((if_pos c1).symm.trans hf)
  have hf := (if_neg c1).symm.trans hf
  refine lv_aload_n hx hb dX4_answerOf_4 rfl (lv_at hl 0 rfl) ?_
  refine va_get (ci := 3) (v := .ref (q 5)) (C := RX4) (T := TX4) (N := 6) hx hb hT i_X4 hown hK hP 0 rfl rfl 2 (by decide) (hT _ wfl_X4_21) (fun _ h9 => h9) rfl dX4_answerOf_5 ?_
  refine zJ_draft (rest := []) G hP hD hS ⟨Nat.le_of_ble_eq_true rfl, Nat.le_of_ble_eq_true rfl⟩ ⟨Nat.zero_le _, Nat.zero_le _⟩ hl.1 (Nat.le_of_ble_eq_true rfl) dX4_answerOf_8 (fun H locs hP hD hS => ?_)
  refine lv_aload_n hx hb dX4_answerOf_11 rfl (lv_at hl 0 rfl) ?_
  refine va_get (ci := 3) (v := .int (tf_room σ)) (C := RX4) (T := TX4) (N := 6) hx hb hT i_X4 hown hK hP 0 rfl rfl 4 (by decide) (hT _ wfl_X4_28) (fun _ h9 => h9) rfl dX4_answerOf_12 ?_
  refine lv_icmp_le (tgt := 31) hx hb dX4_answerOf_15 (by decide) (fun c2 => ?_) (fun c2 => ?_)
  · exact ansj_31 G hl hP hD hS ((if_pos c2).symm.trans hf)
  have hf := (if_neg c2).symm.trans hf
  refine lv_aload_n hx hb dX4_answerOf_18 rfl (lv_at hl 1 rfl) ?_
  refine lv_iconst (v := 5) hx hb dX4_answerOf_19 (by decide) ?_
  refine lv_aload_n hx hb dX4_answerOf_20 rfl (lv_at hl 0 rfl) ?_
  refine va_get (ci := 3) (v := .ref (q 1)) (C := RX4) (T := TX4) (N := 6) hx hb hT i_X4 hown hK hP 0 rfl rfl 0 (by decide) (hT _ wfl_X4_14) (fun _ h9 => h9) rfl dX4_answerOf_21 ?_
  refine zJ_tape (rest := [.int 5, .ref h]) G hP hD hS ⟨Nat.le_of_ble_eq_true rfl, Nat.le_of_ble_eq_true rfl⟩ ⟨Nat.zero_le _, Nat.zero_le _⟩ hl.1 (Nat.le_of_ble_eq_true rfl) dX4_answerOf_24 (fun H locs hP hD hS => ?_)
  refine uTJ (As := [.int 5, .int (rf_sz (tf_tape σ))]) (rest := []) (x := jS σ (j.1, j.2.1, (5 : Int32), rf_sz (tf_tape σ))) G kX4_76_X1 (c_jj_refuse (q := jQ q h) (ρ := (false, jS σ (j.1, j.2.1, (5 : Int32), rf_sz (tf_tape σ)))) rfl) hP hD hS ⟨rfl, rfl, Nat.le_of_ble_eq_true rfl, Nat.le_of_ble_eq_true rfl⟩ ⟨Nat.zero_le _, Nat.zero_le _⟩ rfl hl.1 (Nat.le_of_ble_eq_true rfl) dX4_answerOf_27 (fun H locs hP hD hS => ?_)
  refine W.eq (g2 := F0 m 30 ls [.int (bI false)]) rfl ?_
  refine lv_pop hx hb dX4_answerOf_30 rfl ?_
  have hP : va_P D vwCl (tjW cB q h σ (j.1, j.2.1, (5 : Int32), rf_sz (tf_tape σ))) H := hP
  have hD : va_D A (tjW cB q h σ (j.1, j.2.1, (5 : Int32), rf_sz (tf_tape σ))) := hD
  exact ansj_31 G hl hP hD hS hf
def tt_toCbor (d : Nat) (σ : TSt) : Option (Int32 × Bool × TSt) := bd (rr_cutTo 6000 (0 : Int32) (tf_draft σ)) (fun (dr : RSt) => bd (jj_readValue d (0 : Int32) (jS (ts_draft σ dr) (tf_depth σ, (0 : Int32), (0 : Int32), (-1 : Int32)))) (fun (x : Bool × JSt) => (if x.1 = true then bd (jj_readEnd x.2) (fun (y : Bool × JSt) => (if y.1 = true then some (an1 (1 : Int32) (jT (jT (ts_draft σ dr) x.2) y.2) (jf_faultKind y.2) (jf_faultPlace y.2)) else some (an1 (0 : Int32) (jT (jT (ts_draft σ dr) x.2) y.2) (jf_faultKind y.2) (jf_faultPlace y.2)))) else some (an1 (0 : Int32) (jT (ts_draft σ dr) x.2) (jf_faultKind x.2) (jf_faultPlace x.2)))))
abbrev rm_tt_toCbor (d : Nat) : Room := { frames := 32 * d + 20, cells := 1, slots := 6, locals := 800 * d + 300 }
set_option maxHeartbeats 4000000 in
set_option maxRecDepth 100000 in
theorem c_tt_toCbor {l : Launch} {D : va_G} {aK aV : Nat → Nat} {cB cI cJ : ClassId} {q : Nat → Nat} {σ : TSt} (d : Nat) {ρ : Int32 × Bool × TSt} (hf : tt_toCbor d σ = some ρ) : CT l D (gTy cB cI cJ) aK aV yX4_toCbor (wM yX4_toCbor cX4_toCbor 2 (some .int)) (rm_tt_toCbor d) 1 6 [.ref (q 0)] (tW cB q σ) (some (.int ρ.1)) (tW cB (qB ρ.2.1 q) ρ.2.2) := by
  refine CT.of (by decide) rfl ?_
  intro p e s m below meth c A G hnm hP hD hS
  obtain ⟨hx, hb, hml, hown, hT, hrt, hlk, hK, hA, hG, hE⟩ := id G
  have hl := lv_entry [.ref (q 0)] (n := 2) (Nat.le_of_ble_eq_true rfl)
  rw [lg_entry_eq]
  generalize (lg_sl [.ref (q 0)] ++ List.replicate (2 - (lg_sl [.ref (q 0)]).length) Slot.unset).toArray = ls at hl ⊢
  have hl : lv_has ls 2 [(0, .ref (q 0))] := hl
  unfold tt_toCbor at hf
  obtain ⟨dr, hdr, hf⟩ := bd_some hf
  refine lv_aload_n hx hb dX4_toCbor_0 rfl (lv_at hl 0 rfl) ?_
  refine gt_X4_draft G hP dX4_toCbor_1 ?_
  refine lv_iconst (v := 0) hx hb dX4_toCbor_4 (by decide) ?_
  refine vT_draft (As := [.int 0]) (rest := []) (τ := dr) G kX4_41 rfl (c_rr_cutTo hdr) hP hD hS ⟨rfl, rfl, Nat.le_trans (m := 20) (Nat.le_of_ble_eq_true rfl) (Nat.le_add_left 20 _), Nat.le_trans (m := 300) (Nat.le_of_ble_eq_true rfl) (Nat.le_add_left 300 _)⟩ ⟨Nat.zero_le _, Nat.zero_le _⟩ rfl hl.1 (Nat.le_of_ble_eq_true rfl) dX4_toCbor_5 (fun H locs hP hD hS => ?_)
  refine W.eq (g2 := F0 m 8 ls []) rfl ?_
  refine va_new (ci := 1) (fs := [.null, .null, .int 0, .int 0, .int 0, .int 0]) (C := RX1) (T := TX1) (N := 6) hx hb hT i_X1 tyX1 tyX1_ok hown (hT _ wcl_44) (hT _ wins_X1) (hT _ wini_X1) hK hP hD hS hA rfl (fun j hj => by rcases (show j = 0 ∨ j = 1 ∨ j = 2 ∨ j = 3 ∨ j = 4 ∨ j = 5 by omega) with rfl | rfl | rfl | rfl | rfl | rfl <;> rfl) (Nat.le_refl _) (by show 0 + 6 ≤ 6; omega) dX4_toCbor_8 (fun h H hP hD hS => ?_)
  refine W.widen (k := 1) (n := 6) (by omega) (by omega) ?_
  have hP : va_P D vwCl (tW cB q (ts_draft σ dr) ++ [(h, .inr (1, [.null, .null, .int 0, .int 0, .int 0, .int 0]))]) H := hP
  have hD : va_D A (tW cB q (ts_draft σ dr) ++ [(h, .inr (1, [.null, .null, .int 0, .int 0, .int 0, .int 0]))]) := hD
  refine lv_dup hx hb dX4_toCbor_11 rfl ?_
  refine lv_aload_n hx hb dX4_toCbor_12 rfl (lv_at hl 0 rfl) ?_
  refine va_get (ci := 3) (v := .ref (q 1)) (C := RX4) (T := TX4) (N := 6) hx hb hT i_X4 hown hK hP 0 rfl rfl 0 (by decide) (hT _ wfl_X4_14) (fun _ h9 => h9) rfl dX4_toCbor_13 ?_
  refine lv_aload_n hx hb dX4_toCbor_16 rfl (lv_at hl 0 rfl) ?_
  refine va_get (ci := 3) (v := .ref (q 5)) (C := RX4) (T := TX4) (N := 6) hx hb hT i_X4 hown hK hP 0 rfl rfl 2 (by decide) (hT _ wfl_X4_21) (fun _ h9 => h9) rfl dX4_toCbor_17 ?_
  refine lv_aload_n hx hb dX4_toCbor_20 rfl (lv_at hl 0 rfl) ?_
  refine va_get (ci := 3) (v := .int (tf_depth σ)) (C := RX4) (T := TX4) (N := 6) hx hb hT i_X4 hown hK hP 0 rfl rfl 3 (by decide) (hT _ wfl_X4_24) (fun _ h9 => h9) rfl dX4_toCbor_21 ?_
  refine ct_i (As := [.ref (q 1), .ref (q 5), .int (tf_depth σ)]) (rest := [.ref h]) (wr := tW cB q (ts_draft σ dr)) G kX4_46 c_ini_j hP hD hS [7] [0, 1, 2, 3, 4, 5, 6] rfl rfl rfl rfl (by decide) ⟨rfl, rfl, Nat.le_trans (m := 20) (Nat.le_of_ble_eq_true rfl) (Nat.le_add_left 20 _), Nat.le_trans (m := 300) (Nat.le_of_ble_eq_true rfl) (Nat.le_add_left 300 _)⟩ rfl hl.1 (Nat.le_of_ble_eq_true rfl) dX4_toCbor_24 ⟨Nat.le_refl _, Nat.le_refl _⟩ (fun H locs hP hD hS => ?_)
  refine W.eq (g2 := F0 m 27 ls [.ref h]) rfl ?_
  have hP : va_P D vwCl (tjW cB q h (ts_draft σ dr) (tf_depth σ, (0 : Int32), (0 : Int32), (-1 : Int32))) H := hP
  have hD : va_D A (tjW cB q h (ts_draft σ dr) (tf_depth σ, (0 : Int32), (0 : Int32), (-1 : Int32))) := hD
  refine lv_astore_n (lv' := [(1, .ref h), (0, .ref (q 0))]) hx hb dX4_toCbor_27 rfl hl (by decide) rfl (fun ls hl => ?_)
  refine lv_aload_n hx hb dX4_toCbor_28 rfl (lv_at hl 1 rfl) ?_
  refine lv_aload_n hx hb dX4_toCbor_29 rfl (lv_at hl 0 rfl) ?_
  refine lv_aload_n hx hb dX4_toCbor_30 rfl (lv_at hl 0 rfl) ?_
  refine lv_iconst (v := 0) hx hb dX4_toCbor_31 (by decide) ?_
  obtain ⟨x, hx1, hf⟩ := bd_some hf
  refine vTJ (As := [.int 0]) (rest := [.ref h, .ref (q 0)]) (σ := ts_draft σ dr) (j := (tf_depth σ, (0 : Int32), (0 : Int32), (-1 : Int32))) (x := x.2) (rm := rm_jj_readValue d) G kX4_49 (c_jj_readValue (q := jQ q h) d hx1) hP hD hS ⟨rfl, rfl, (by show 32 * d + 1 ≤ 32 * d + 20; omega), (by show 8 + (3 + 11) + 800 * d ≤ 800 * d + 300; omega)⟩ ⟨Nat.le_refl _, Nat.le_refl _⟩ rfl hl.1 (Nat.le_of_ble_eq_true rfl) dX4_toCbor_32 (fun H locs hP hD hS => ?_)
  refine W.eq (g2 := F0 m 35 ls [.int (bI x.1), .ref h, .ref (q 0)]) rfl ?_
  have fin : ∀ {τ : TSt} {j : JR} {v : Int32} {H : Heap} {locs : List Loc} {ρ : Int32 × Bool × TSt} (hP : va_P D vwCl (tjW cB q h τ j) H) (hD : va_D A (tjW cB q h τ j)) (hS : va_S A s.heap H locs) (hf : an1 v τ j.2.2.1 j.2.2.2 = ρ), W p l e (rm_tt_toCbor d) s m [Value.ref (q 0)].toArray below meth c H locs 1 6 (MQ below (cQ D (gTy cB cI cJ) A (tW cB (qB ρ.2.1 q) ρ.2.2) (some (.int ρ.1))) [Value.ref (q 0)].toArray s 1 6 A) (F0 m 50 ls [.int v, .ref h, .ref (q 0)]) := by
    intro τ j v H locs ρ hP hD hS hf
    refine ct_v (As := [.ref h, .int v]) (rest := []) (wr := []) G kX4_57 (c_ansj hf) hP hD hS [0, 1, 2, 3, 4, 5, 6, 7] [] rfl rfl rfl rfl (fun _ h => absurd h List.not_mem_nil) (ci := 3) (q0 := 0) rfl rfl rfl ⟨rfl, rfl, Nat.le_trans (m := 20) (Nat.le_of_ble_eq_true rfl) (Nat.le_add_left 20 _), Nat.le_trans (m := 300) (Nat.le_of_ble_eq_true rfl) (Nat.le_add_left 300 _)⟩ rfl hl.1 (Nat.le_of_ble_eq_true rfl) dX4_toCbor_50 ⟨Nat.le_refl _, Nat.le_refl _⟩ (fun H locs hP hD hS => ?_)
    exact ct_iret G rfl hP hD hS dX4_toCbor_53
  refine lv_if_eq (tgt := 49) hx hb dX4_toCbor_35 (by decide) (fun c1 => ?_) (fun c1 => ?_)
  · have hf := (if_neg (bI_0 c1)).symm.trans hf
    have hf := Option.some.inj hf
    refine lv_iconst (v := 0) hx hb dX4_toCbor_49 (by decide) ?_
    exact fin (τ := jT (ts_draft σ dr) x.2) (j := jU x.2) hP hD hS hf
  have hf := (if_pos (bI_n c1)).symm.trans hf
  obtain ⟨y, hy1, hf⟩ := bd_some hf
  have hy2 : jj_readEnd (jS (jT (ts_draft σ dr) x.2) (jU x.2)) = some y := by rw [jS_jT]; exact hy1
  refine lv_aload_n hx hb dX4_toCbor_38 rfl (lv_at hl 0 rfl) ?_
  refine vTJ (As := []) (rest := [.ref h, .ref (q 0)]) (σ := jT (ts_draft σ dr) x.2) (j := jU x.2) (x := y.2) G kX4_53 (c_jj_readEnd (q := jQ q h) hy2) hP hD hS ⟨rfl, rfl, Nat.le_trans (m := 20) (Nat.le_of_ble_eq_true rfl) (Nat.le_add_left 20 _), Nat.le_trans (m := 300) (Nat.le_of_ble_eq_true rfl) (Nat.le_add_left 300 _)⟩ ⟨Nat.le_refl _, Nat.le_refl _⟩ rfl hl.1 (Nat.le_of_ble_eq_true rfl) dX4_toCbor_39 (fun H locs hP hD hS => ?_)
  refine W.eq (g2 := F0 m 42 ls [.int (bI y.1), .ref h, .ref (q 0)]) rfl ?_
  refine lv_if_eq (tgt := 49) hx hb dX4_toCbor_42 (by decide) (fun c2 => ?_) (fun c2 => ?_)
  · have hf := (if_neg (bI_0 c2)).symm.trans hf
    have hf := Option.some.inj hf
    refine lv_iconst (v := 0) hx hb dX4_toCbor_49 (by decide) ?_
    exact fin (τ := jT (jT (ts_draft σ dr) x.2) y.2) (j := jU y.2) hP hD hS hf
  · have hf := (if_pos (bI_n c2)).symm.trans hf
    have hf := Option.some.inj hf
    refine lv_iconst (v := 1) hx hb dX4_toCbor_45 (by decide) ?_
    refine lv_goto (tgt := 50) hx hb dX4_toCbor_46 (by decide) ?_
    exact fin (τ := jT (jT (ts_draft σ dr) x.2) y.2) (j := jU y.2) hP hD hS hf
theorem vTK {p : Program} {l : Launch} {e : Env} {R : Room} {s : State} {m : MethodId} {args : Array Value} {below : List Frame} {meth : Method} {c : Code} {H : Heap} {locs : List Loc} {cells slots : Nat} {Q : State → Prop} {D : va_G} {aK aV : Nat → Nat} {A : Nat → Prop} {cc : ByteArray} {nL : Nat} {ret : Option FieldType} {pc : Nat} {ls : Array Slot} {rest : List Value} {cB cI cJ : ClassId} {ov : Option Value} {y : MethodName} {bytes : ByteArray} {maxL n index : Nat} {ret' : Option FieldType} {rm : Room} {As : List Value} {q : Nat → Nat} {h : Nat} {σ : TSt} {j : KR} {x : KSt} (G : CX p s m args meth c D (gTy cB cI cJ) aK aV A RX4 cc nL ret) (M : MV RX4 index RX0 y bytes maxL ret' n) (hM : CT l D (gTy cB cI cJ) aK aV y (wM y bytes maxL ret') rm 0 0 (.ref h :: As) (kW cB (jQ q h) (kS σ j)) ov (kW cB (jQ q h) x)) (hP : va_P D vwCl (tkW cB q h σ j) H) (hD : va_D A (tkW cB q h σ j)) (hS : va_S A s.heap H locs) (hrm : rm.cells = 0 ∧ rm.slots = 0 ∧ rm.frames + 1 ≤ R.frames ∧ 8 + (maxL + 11) + rm.locals ≤ R.locals) (hc : cells ≤ R.cells ∧ slots ≤ R.slots) (hA : As.length = n) (hls : ls.size = nL) (hst : (rest.map fun v => v.category).sum ≤ 8) (hdg : decode cc pc = .ok (.invokevirtual index, 3)) (k : ∀ (H1 : Heap) (locs1 : List Loc), va_P D vwCl (tkW cB q h (kT σ x) (kU x)) H1 → va_D A (tkW cB q h (kT σ x) (kU x)) → va_S A s.heap H1 locs1 → W p l e R s m args below meth c H1 locs1 cells slots Q (F0 m (pc + 3) ls (ov.toList ++ rest))) : W p l e R s m args below meth c H locs cells slots Q (F0 m pc ls (As.reverse ++ .ref h :: rest)) :=
  ct_v (wr := [(tkW cB q h σ j).getD 0 (0, .inr (0, [])), (tkW cB q h σ j).getD 3 (0, .inr (0, [])), (tkW cB q h σ j).getD 4 (0, .inr (0, []))]) G M hM hP hD hS [7, 1, 2, 5, 6] [0, 3, 4] rfl rfl rfl rfl (by decide) (ci := 0) (q0 := 7) rfl rfl rfl hrm hA hls hst hdg hc (fun H1 l1 hP hD hS => k H1 l1 (hP.sub [0, 4, 5, 1, 2, 6, 7, 3] rfl) (hD.sub [0, 4, 5, 1, 2, 6, 7, 3] rfl rfl) hS)
theorem uTK {p : Program} {l : Launch} {e : Env} {R : Room} {s : State} {m : MethodId} {args : Array Value} {below : List Frame} {meth : Method} {c : Code} {H : Heap} {locs : List Loc} {cells slots : Nat} {Q : State → Prop} {D : va_G} {aK aV : Nat → Nat} {A : Nat → Prop} {cc : ByteArray} {nL : Nat} {ret : Option FieldType} {pc : Nat} {ls : Array Slot} {rest : List Value} {cB cI cJ : ClassId} {ov : Option Value} {y : MethodName} {bytes : ByteArray} {maxL n index : Nat} {ret' : Option FieldType} {rm : Room} {As : List Value} {q : Nat → Nat} {h : Nat} {σ : TSt} {j : KR} {x : KSt} (G : CX p s m args meth c D (gTy cB cI cJ) aK aV A RX4 cc nL ret) {xm : MethodName} (M : MU RX4 index RX0 "TextBridge$Reader" xm y bytes maxL ret' n) (hM : CT l D (gTy cB cI cJ) aK aV y (wM y bytes maxL ret') rm 0 0 (.ref h :: As) (kW cB (jQ q h) (kS σ j)) ov (kW cB (jQ q h) x)) (hP : va_P D vwCl (tkW cB q h σ j) H) (hD : va_D A (tkW cB q h σ j)) (hS : va_S A s.heap H locs) (hrm : rm.cells = 0 ∧ rm.slots = 0 ∧ rm.frames + 1 ≤ R.frames ∧ 8 + (maxL + 11) + rm.locals ≤ R.locals) (hc : cells ≤ R.cells ∧ slots ≤ R.slots) (hA : As.length = n) (hls : ls.size = nL) (hst : (rest.map fun v => v.category).sum ≤ 8) (hdg : decode cc pc = .ok (.invokevirtual index, 3)) (k : ∀ (H1 : Heap) (locs1 : List Loc), va_P D vwCl (tkW cB q h (kT σ x) (kU x)) H1 → va_D A (tkW cB q h (kT σ x) (kU x)) → va_S A s.heap H1 locs1 → W p l e R s m args below meth c H1 locs1 cells slots Q (F0 m (pc + 3) ls (ov.toList ++ rest))) : W p l e R s m args below meth c H locs cells slots Q (F0 m pc ls (As.reverse ++ .ref h :: rest)) :=
  ct_u (wr := [(tkW cB q h σ j).getD 0 (0, .inr (0, [])), (tkW cB q h σ j).getD 3 (0, .inr (0, [])), (tkW cB q h σ j).getD 4 (0, .inr (0, []))]) G M hM hP hD hS [7, 1, 2, 5, 6] [0, 3, 4] rfl rfl rfl rfl (by decide) (ci := 0) (q0 := 7) rfl rfl rfl hrm hA hls hst hdg hc (fun H1 l1 hP hD hS => k H1 l1 (hP.sub [0, 4, 5, 1, 2, 6, 7, 3] rfl) (hD.sub [0, 4, 5, 1, 2, 6, 7, 3] rfl rfl) hS)
theorem zK_draft {p : Program} {l : Launch} {e : Env} {R : Room} {s : State} {m : MethodId} {args : Array Value} {below : List Frame} {meth : Method} {c : Code} {H : Heap} {locs : List Loc} {cells slots : Nat} {Q : State → Prop} {D : va_G} {aK aV : Nat → Nat} {A : Nat → Prop} {cc : ByteArray} {nL : Nat} {ret : Option FieldType} {pc : Nat} {ls : Array Slot} {rest : List Value} {cB cI cJ : ClassId} {q : Nat → Nat} {h : Nat} {σ : TSt} {j : KR} (G : CX p s m args meth c D (gTy cB cI cJ) aK aV A RX4 cc nL ret) (hP : va_P D vwCl (tkW cB q h σ j) H) (hD : va_D A (tkW cB q h σ j)) (hS : va_S A s.heap H locs) (hrm : 1 ≤ R.frames ∧ 20 ≤ R.locals) (hc : cells ≤ R.cells ∧ slots ≤ R.slots) (hls : ls.size = nL) (hst : (rest.map fun v => v.category).sum ≤ 8) (hdg : decode cc pc = .ok (.invokevirtual 34, 3)) (k : ∀ (H1 : Heap) (locs1 : List Loc), va_P D vwCl (tkW cB q h σ j) H1 → va_D A (tkW cB q h σ j) → va_S A s.heap H1 locs1 → W p l e R s m args below meth c H1 locs1 cells slots Q (F0 m (pc + 3) ls (.int (rf_sz (tf_draft σ)) :: rest))) : W p l e R s m args below meth c H locs cells slots Q (F0 m pc ls (.ref (q 5) :: rest)) :=
  ct_v (As := []) (wr := [(tkW cB q h σ j).getD 0 (0, .inr (0, [])), (tkW cB q h σ j).getD 1 (0, .inr (0, [])), (tkW cB q h σ j).getD 2 (0, .inr (0, [])), (tkW cB q h σ j).getD 3 (0, .inr (0, [])), (tkW cB q h σ j).getD 4 (0, .inr (0, [])), (tkW cB q h σ j).getD 7 (0, .inr (0, []))]) G kX4_34 (c_rr_size (r := q 5) (b := q 6) (N := 6000) (ρ := (rf_sz (tf_draft σ), tf_draft σ)) rfl) hP hD hS [5, 6] [0, 1, 2, 3, 4, 7] rfl rfl rfl rfl (by decide) (ci := 2) (q0 := 5) rfl rfl rfl ⟨rfl, rfl, hrm.1, hrm.2⟩ rfl hls hst hdg hc (fun H1 l1 hP hD hS => k H1 l1 (hP.sub [0, 1, 2, 3, 4, 6, 7, 5] rfl) (hD.sub [0, 1, 2, 3, 4, 6, 7, 5] rfl rfl) hS)
theorem zK_tape {p : Program} {l : Launch} {e : Env} {R : Room} {s : State} {m : MethodId} {args : Array Value} {below : List Frame} {meth : Method} {c : Code} {H : Heap} {locs : List Loc} {cells slots : Nat} {Q : State → Prop} {D : va_G} {aK aV : Nat → Nat} {A : Nat → Prop} {cc : ByteArray} {nL : Nat} {ret : Option FieldType} {pc : Nat} {ls : Array Slot} {rest : List Value} {cB cI cJ : ClassId} {q : Nat → Nat} {h : Nat} {σ : TSt} {j : KR} (G : CX p s m args meth c D (gTy cB cI cJ) aK aV A RX4 cc nL ret) (hP : va_P D vwCl (tkW cB q h σ j) H) (hD : va_D A (tkW cB q h σ j)) (hS : va_S A s.heap H locs) (hrm : 1 ≤ R.frames ∧ 20 ≤ R.locals) (hc : cells ≤ R.cells ∧ slots ≤ R.slots) (hls : ls.size = nL) (hst : (rest.map fun v => v.category).sum ≤ 8) (hdg : decode cc pc = .ok (.invokevirtual 34, 3)) (k : ∀ (H1 : Heap) (locs1 : List Loc), va_P D vwCl (tkW cB q h σ j) H1 → va_D A (tkW cB q h σ j) → va_S A s.heap H1 locs1 → W p l e R s m args below meth c H1 locs1 cells slots Q (F0 m (pc + 3) ls (.int (rf_sz (tf_tape σ)) :: rest))) : W p l e R s m args below meth c H locs cells slots Q (F0 m pc ls (.ref (q 1) :: rest)) :=
  ct_v (As := []) (wr := [(tkW cB q h σ j).getD 0 (0, .inr (0, [])), (tkW cB q h σ j).getD 3 (0, .inr (0, [])), (tkW cB q h σ j).getD 4 (0, .inr (0, [])), (tkW cB q h σ j).getD 5 (0, .inr (0, [])), (tkW cB q h σ j).getD 6 (0, .inr (0, [])), (tkW cB q h σ j).getD 7 (0, .inr (0, []))]) G kX4_34 (c_rr_size (r := q 1) (b := q 2) (N := 4000) (ρ := (rf_sz (tf_tape σ), tf_tape σ)) rfl) hP hD hS [1, 2] [0, 3, 4, 5, 6, 7] rfl rfl rfl rfl (by decide) (ci := 2) (q0 := 1) rfl rfl rfl ⟨rfl, rfl, hrm.1, hrm.2⟩ rfl hls hst hdg hc (fun H1 l1 hP hD hS => k H1 l1 (hP.sub [0, 6, 7, 1, 2, 3, 4, 5] rfl) (hD.sub [0, 6, 7, 1, 2, 3, 4, 5] rfl rfl) hS)
abbrev rm_ansk : Room := { frames := 1, cells := 0, slots := 0, locals := 22 }
set_option maxHeartbeats 4000000 in
set_option maxRecDepth 100000 in
theorem ansk_31 {p : Program} {l : Launch} {e : Env} {s : State} {m : MethodId} {args : Array Value} {below : List Frame} {meth : Method} {c : Code} {D : va_G} {aK aV : Nat → Nat} {A : Nat → Prop} {cB cI cJ : ClassId} {q : Nat → Nat} {h : Nat} {H : Heap} {locs : List Loc} {ls : Array Slot} {ρ : Int32 × Bool × TSt} {σ : TSt} {j : KR} {p1 : Int32} (G : CX p s m args meth c D (gTy cB cI cJ) aK aV A RX4 cX4_answerOf 3 (some .int)) (hl : lv_has ls 3 [(0, .ref (q 0)), (1, .ref h), (2, .int p1)]) (hP : va_P D vwCl (tkW cB q h σ j) H) (hD : va_D A (tkW cB q h σ j)) (hS : va_S A s.heap H locs) (hf : an2 σ j.2.2.1 j.2.2.2.1 = ρ) : W p l e rm_ansk s m args below meth c H locs 0 0 (MQ below (cQ D (gTy cB cI cJ) A (tW cB (qB ρ.2.1 q) ρ.2.2) (some (.int ρ.1))) args s 0 0 A) (F0 m 31 ls []) := by
  unfold an2 at hf
  obtain ⟨hx, hb, hml, hown, hT, hrt, hlk, hK, hA, hG, hE⟩ := id G
  refine lv_aload_n hx hb dX4_answerOf_31 rfl (lv_at hl 0 rfl) ?_
  refine lv_aload_n hx hb dX4_answerOf_32 rfl (lv_at hl 1 rfl) ?_
  refine uTK (As := []) (rest := [.ref (q 0)]) (x := kS σ j) G kX4_82_X0 (c_kk_faultPlace (q := jQ q h) (ρ := (j.2.2.2.1, kS σ j)) rfl) hP hD hS ⟨rfl, rfl, Nat.le_of_ble_eq_true rfl, Nat.le_of_ble_eq_true rfl⟩ ⟨Nat.zero_le _, Nat.zero_le _⟩ rfl hl.1 (Nat.le_of_ble_eq_true rfl) dX4_answerOf_33 (fun H locs hP hD hS => ?_)
  refine W.eq (g2 := F0 m 36 ls [.int j.2.2.2.1, .ref (q 0)]) rfl ?_
  have hP : va_P D vwCl (tkW cB q h σ j) H := hP
  have hD : va_D A (tkW cB q h σ j) := hD
  refine va_put (ci := 3) (v := .int j.2.2.2.1) (ty := .int) (C := RX4) (T := TX4) (N := 6) hx hb hT i_X4 tyX4 tyX4_ok nmX4 hown hK hP hD hS 0 rfl rfl 5 (by decide) (hT _ wfl_X4_31) (fun _ h9 => h9) rfl (by decide +kernel) rfl rfl (Nat.le_of_ble_eq_true rfl) dX4_answerOf_36 (fun H locs hP hD hS => ?_)
  have hP : va_P D vwCl (tkW cB q h (ts_faultPlace σ j.2.2.2.1) j) H := hP
  have hD : va_D A (tkW cB q h (ts_faultPlace σ j.2.2.2.1) j) := hD
  refine lv_aload_n hx hb dX4_answerOf_39 rfl (lv_at hl 1 rfl) ?_
  refine uTK (As := []) (rest := []) (x := kS (ts_faultPlace σ j.2.2.2.1) j) G kX4_84_X0 (c_kk_faultKind (q := jQ q h) (ρ := (j.2.2.1, kS (ts_faultPlace σ j.2.2.2.1) j)) rfl) hP hD hS ⟨rfl, rfl, Nat.le_of_ble_eq_true rfl, Nat.le_of_ble_eq_true rfl⟩ ⟨Nat.zero_le _, Nat.zero_le _⟩ rfl hl.1 (Nat.le_of_ble_eq_true rfl) dX4_answerOf_40 (fun H locs hP hD hS => ?_)
  refine W.eq (g2 := F0 m 43 ls [.int j.2.2.1]) rfl ?_
  have hP : va_P D vwCl (tkW cB q h (ts_faultPlace σ j.2.2.2.1) j) H := hP
  have hD : va_D A (tkW cB q h (ts_faultPlace σ j.2.2.2.1) j) := hD
  refine lv_if_eq (tgt := 52) hx hb dX4_answerOf_43 (by decide) (fun c1 => ?_) (fun c1 => ?_)
  · have hf := (if_pos c1).symm.trans hf
    subst hf
    refine lv_aload_n hx hb dX4_answerOf_52 rfl (lv_at hl 0 rfl) ?_
    refine ct_v (As := []) (rest := []) (wr := [(tkW cB q h (ts_faultPlace σ j.2.2.2.1) j).getD 1 (0, .inr (0, [])), (tkW cB q h (ts_faultPlace σ j.2.2.2.1) j).getD 2 (0, .inr (0, [])), (tkW cB q h (ts_faultPlace σ j.2.2.2.1) j).getD 3 (0, .inr (0, [])), (tkW cB q h (ts_faultPlace σ j.2.2.2.1) j).getD 4 (0, .inr (0, [])), (tkW cB q h (ts_faultPlace σ j.2.2.2.1) j).getD 5 (0, .inr (0, [])), (tkW cB q h (ts_faultPlace σ j.2.2.2.1) j).getD 6 (0, .inr (0, [])), (tkW cB q h (ts_faultPlace σ j.2.2.2.1) j).getD 7 (0, .inr (0, []))]) G kX4_87 c_exch hP hD hS [0] [1, 2, 3, 4, 5, 6, 7] rfl rfl rfl rfl (by decide) (ci := 3) (q0 := 0) rfl rfl rfl ⟨rfl, rfl, Nat.le_of_ble_eq_true rfl, Nat.le_of_ble_eq_true rfl⟩ rfl hl.1 (Nat.le_of_ble_eq_true rfl) dX4_answerOf_53 ⟨Nat.zero_le _, Nat.zero_le _⟩ (fun H locs hP hD hS => ?_)
    refine W.eq (g2 := F0 m 56 ls []) rfl ?_
    have hP := hP.sub (ws' := tW cB (qS q) (swT (ts_faultPlace σ j.2.2.2.1))) [7, 0, 1, 4, 5, 2, 3] rfl
    have hD := hD.sub (ws' := tW cB (qS q) (swT (ts_faultPlace σ j.2.2.2.1))) [7, 0, 1, 4, 5, 2, 3] rfl rfl
    refine lv_aload_n hx hb dX4_answerOf_56 rfl (lv_at hl 0 rfl) ?_
    refine gt_X4_written (q := qS q) G hP dX4_answerOf_57 ?_
    refine vT_written (q := qS q) (As := []) (rest := []) (τ := tf_draft σ) G kX4_34 rfl (c_rr_size (ρ := (rf_sz (tf_draft σ), tf_draft σ)) rfl) hP hD hS ⟨rfl, rfl, Nat.le_of_ble_eq_true rfl, Nat.le_of_ble_eq_true rfl⟩ ⟨Nat.zero_le _, Nat.zero_le _⟩ rfl hl.1 (Nat.le_of_ble_eq_true rfl) dX4_answerOf_60 (fun H locs hP hD hS => ?_)
    refine W.eq (g2 := F0 m 63 ls [.int (rf_sz (tf_draft σ))]) rfl ?_
    have hP : va_P D vwCl (tW cB (qS q) (swT (ts_faultPlace σ j.2.2.2.1))) H := hP
    have hD : va_D A (tW cB (qS q) (swT (ts_faultPlace σ j.2.2.2.1))) := hD
    exact ct_iret G rfl hP hD hS dX4_answerOf_63
  · have hf := (if_neg c1).symm.trans hf
    subst hf
    refine lv_aload_n hx hb dX4_answerOf_46 rfl (lv_at hl 1 rfl) ?_
    refine uTK (As := []) (rest := []) (x := kS (ts_faultPlace σ j.2.2.2.1) j) G kX4_84_X0 (c_kk_faultKind (q := jQ q h) (ρ := (j.2.2.1, kS (ts_faultPlace σ j.2.2.2.1) j)) rfl) hP hD hS ⟨rfl, rfl, Nat.le_of_ble_eq_true rfl, Nat.le_of_ble_eq_true rfl⟩ ⟨Nat.zero_le _, Nat.zero_le _⟩ rfl hl.1 (Nat.le_of_ble_eq_true rfl) dX4_answerOf_47 (fun H locs hP hD hS => ?_)
    refine W.eq (g2 := F0 m 50 ls [.int j.2.2.1]) rfl ?_
    refine lv_ineg hx hb dX4_answerOf_50 ?_
    have hP := hP.sub (ws' := tW cB q (ts_faultPlace σ j.2.2.2.1)) [0, 1, 2, 3, 4, 5, 6] rfl
    have hD := hD.sub (ws' := tW cB q (ts_faultPlace σ j.2.2.2.1)) [0, 1, 2, 3, 4, 5, 6] rfl rfl
    exact ct_iret G rfl hP hD hS dX4_answerOf_51
set_option maxHeartbeats 4000000 in
set_option maxRecDepth 100000 in
theorem c_ansk {l : Launch} {D : va_G} {aK aV : Nat → Nat} {cB cI cJ : ClassId} {q : Nat → Nat} {h : Nat} {σ : TSt} {j : KR} {p1 : Int32} {ρ : Int32 × Bool × TSt} (hf : an1 p1 σ j.2.2.1 j.2.2.2.1 = ρ) : CT l D (gTy cB cI cJ) aK aV yX4_answerOf (wM yX4_answerOf cX4_answerOf 3 (some .int)) rm_ansk 0 0 [.ref (q 0), .ref h, .int p1] (tkW cB q h σ j) (some (.int ρ.1)) (tW cB (qB ρ.2.1 q) ρ.2.2) := by
  refine CT.of (by decide) rfl ?_
  intro p e s m below meth c A G hnm hP hD hS
  obtain ⟨hx, hb, hml, hown, hT, hrt, hlk, hK, hA, hG, hE⟩ := id G
  have hl := lv_entry [.ref (q 0), .ref h, .int p1] (n := 3) (Nat.le_of_ble_eq_true rfl)
  rw [lg_entry_eq]
  generalize (lg_sl [.ref (q 0), .ref h, .int p1] ++ List.replicate (3 - (lg_sl [.ref (q 0), .ref h, .int p1]).length) Slot.unset).toArray = ls at hl ⊢
  have hl : lv_has ls 3 [(0, .ref (q 0)), (1, .ref h), (2, .int p1)] := hl
  unfold an1 at hf
  refine lv_iload_n hx hb dX4_answerOf_0 rfl (lv_at hl 2 rfl) ?_
  refine lv_if_eq (tgt := 31) hx hb dX4_answerOf_1 (by decide) (fun c1 => ?_) (fun c1 => ?_)
  · exact ansk_31 G hl hP hD hS ((if_pos c1).symm.trans hf)
  have hf := (if_neg c1).symm.trans hf
  refine lv_aload_n hx hb dX4_answerOf_4 rfl (lv_at hl 0 rfl) ?_
  refine va_get (ci := 3) (v := .ref (q 5)) (C := RX4) (T := TX4) (N := 6) hx hb hT i_X4 hown hK hP 0 rfl rfl 2 (by decide) (hT _ wfl_X4_21) (fun _ h9 => h9) rfl dX4_answerOf_5 ?_
  refine zK_draft (rest := []) G hP hD hS ⟨Nat.le_of_ble_eq_true rfl, Nat.le_of_ble_eq_true rfl⟩ ⟨Nat.zero_le _, Nat.zero_le _⟩ hl.1 (Nat.le_of_ble_eq_true rfl) dX4_answerOf_8 (fun H locs hP hD hS => ?_)
  refine lv_aload_n hx hb dX4_answerOf_11 rfl (lv_at hl 0 rfl) ?_
  refine va_get (ci := 3) (v := .int (tf_room σ)) (C := RX4) (T := TX4) (N := 6) hx hb hT i_X4 hown hK hP 0 rfl rfl 4 (by decide) (hT _ wfl_X4_28) (fun _ h9 => h9) rfl dX4_answerOf_12 ?_
  refine lv_icmp_le (tgt := 31) hx hb dX4_answerOf_15 (by decide) (fun c2 => ?_) (fun c2 => ?_)
  · exact ansk_31 G hl hP hD hS ((if_pos c2).symm.trans hf)
  have hf := (if_neg c2).symm.trans hf
  refine lv_aload_n hx hb dX4_answerOf_18 rfl (lv_at hl 1 rfl) ?_
  refine lv_iconst (v := 5) hx hb dX4_answerOf_19 (by decide) ?_
  refine lv_aload_n hx hb dX4_answerOf_20 rfl (lv_at hl 0 rfl) ?_
  refine va_get (ci := 3) (v := .ref (q 1)) (C := RX4) (T := TX4) (N := 6) hx hb hT i_X4 hown hK hP 0 rfl rfl 0 (by decide) (hT _ wfl_X4_14) (fun _ h9 => h9) rfl dX4_answerOf_21 ?_
  refine zK_tape (rest := [.int 5, .ref h]) G hP hD hS ⟨Nat.le_of_ble_eq_true rfl, Nat.le_of_ble_eq_true rfl⟩ ⟨Nat.zero_le _, Nat.zero_le _⟩ hl.1 (Nat.le_of_ble_eq_true rfl) dX4_answerOf_24 (fun H locs hP hD hS => ?_)
  refine uTK (As := [.int 5, .int (rf_sz (tf_tape σ))]) (rest := []) (x := kS σ (j.1, j.2.1, (5 : Int32), rf_sz (tf_tape σ), j.2.2.2.2.1, j.2.2.2.2.2)) G kX4_76_X0 (c_kk_refuse (q := jQ q h) (ρ := (false, kS σ (j.1, j.2.1, (5 : Int32), rf_sz (tf_tape σ), j.2.2.2.2.1, j.2.2.2.2.2))) rfl) hP hD hS ⟨rfl, rfl, Nat.le_of_ble_eq_true rfl, Nat.le_of_ble_eq_true rfl⟩ ⟨Nat.zero_le _, Nat.zero_le _⟩ rfl hl.1 (Nat.le_of_ble_eq_true rfl) dX4_answerOf_27 (fun H locs hP hD hS => ?_)
  refine W.eq (g2 := F0 m 30 ls [.int (bI false)]) rfl ?_
  refine lv_pop hx hb dX4_answerOf_30 rfl ?_
  have hP : va_P D vwCl (tkW cB q h σ (j.1, j.2.1, (5 : Int32), rf_sz (tf_tape σ), j.2.2.2.2.1, j.2.2.2.2.2)) H := hP
  have hD : va_D A (tkW cB q h σ (j.1, j.2.1, (5 : Int32), rf_sz (tf_tape σ), j.2.2.2.2.1, j.2.2.2.2.2)) := hD
  exact ansk_31 G hl hP hD hS hf
def tt_toJson (d : Nat) (σ : TSt) : Option (Int32 × Bool × TSt) := bd (rr_cutTo 6000 (0 : Int32) (tf_draft σ)) (fun (dr : RSt) => bd (kk_readItem d (0 : Int32) (kS (ts_draft σ dr) (tf_depth σ, (0 : Int32), (0 : Int32), (-1 : Int32), (0 : Int32), (0 : Int64)))) (fun (x : Bool × KSt) => (if x.1 = true then bd (kk_readEnd x.2) (fun (y : Bool × KSt) => (if y.1 = true then some (an1 (1 : Int32) (kT (kT (ts_draft σ dr) x.2) y.2) (kf_faultKind y.2) (kf_faultPlace y.2)) else some (an1 (0 : Int32) (kT (kT (ts_draft σ dr) x.2) y.2) (kf_faultKind y.2) (kf_faultPlace y.2)))) else some (an1 (0 : Int32) (kT (ts_draft σ dr) x.2) (kf_faultKind x.2) (kf_faultPlace x.2)))))
abbrev rm_tt_toJson (d : Nat) : Room := { frames := 32 * d + 20, cells := 1, slots := 8, locals := 800 * d + 300 }
set_option maxHeartbeats 4000000 in
set_option maxRecDepth 100000 in
theorem c_tt_toJson {l : Launch} {D : va_G} {aK aV : Nat → Nat} {cB cI cJ : ClassId} {q : Nat → Nat} {σ : TSt} (d : Nat) {ρ : Int32 × Bool × TSt} (hf : tt_toJson d σ = some ρ) : CT l D (gTy cB cI cJ) aK aV yX4_toJson (wM yX4_toJson cX4_toJson 2 (some .int)) (rm_tt_toJson d) 1 8 [.ref (q 0)] (tW cB q σ) (some (.int ρ.1)) (tW cB (qB ρ.2.1 q) ρ.2.2) := by
  refine CT.of (by decide) rfl ?_
  intro p e s m below meth c A G hnm hP hD hS
  obtain ⟨hx, hb, hml, hown, hT, hrt, hlk, hK, hA, hG, hE⟩ := id G
  have hl := lv_entry [.ref (q 0)] (n := 2) (Nat.le_of_ble_eq_true rfl)
  rw [lg_entry_eq]
  generalize (lg_sl [.ref (q 0)] ++ List.replicate (2 - (lg_sl [.ref (q 0)]).length) Slot.unset).toArray = ls at hl ⊢
  have hl : lv_has ls 2 [(0, .ref (q 0))] := hl
  unfold tt_toJson at hf
  obtain ⟨dr, hdr, hf⟩ := bd_some hf
  refine lv_aload_n hx hb dX4_toJson_0 rfl (lv_at hl 0 rfl) ?_
  refine gt_X4_draft G hP dX4_toJson_1 ?_
  refine lv_iconst (v := 0) hx hb dX4_toJson_4 (by decide) ?_
  refine vT_draft (As := [.int 0]) (rest := []) (τ := dr) G kX4_41 rfl (c_rr_cutTo hdr) hP hD hS ⟨rfl, rfl, Nat.le_trans (m := 20) (Nat.le_of_ble_eq_true rfl) (Nat.le_add_left 20 _), Nat.le_trans (m := 300) (Nat.le_of_ble_eq_true rfl) (Nat.le_add_left 300 _)⟩ ⟨Nat.zero_le _, Nat.zero_le _⟩ rfl hl.1 (Nat.le_of_ble_eq_true rfl) dX4_toJson_5 (fun H locs hP hD hS => ?_)
  refine W.eq (g2 := F0 m 8 ls []) rfl ?_
  refine va_new (ci := 0) (fs := [.null, .null, .int 0, .int 0, .int 0, .int 0, .int 0, .long 0]) (C := RX0) (T := TX0) (N := 8) hx hb hT i_X0 tyX0 tyX0_ok hown (hT _ wcl_61) (hT _ wins_X0) (hT _ wini_X0) hK hP hD hS hA rfl (fun j hj => by rcases (show j = 0 ∨ j = 1 ∨ j = 2 ∨ j = 3 ∨ j = 4 ∨ j = 5 ∨ j = 6 ∨ j = 7 by omega) with rfl | rfl | rfl | rfl | rfl | rfl | rfl | rfl <;> rfl) (Nat.le_refl _) (by show 0 + 8 ≤ 8; omega) dX4_toJson_8 (fun h H hP hD hS => ?_)
  refine W.widen (k := 1) (n := 8) (by omega) (by omega) ?_
  have hP : va_P D vwCl (tW cB q (ts_draft σ dr) ++ [(h, .inr (0, [.null, .null, .int 0, .int 0, .int 0, .int 0, .int 0, .long 0]))]) H := hP
  have hD : va_D A (tW cB q (ts_draft σ dr) ++ [(h, .inr (0, [.null, .null, .int 0, .int 0, .int 0, .int 0, .int 0, .long 0]))]) := hD
  refine lv_dup hx hb dX4_toJson_11 rfl ?_
  refine lv_aload_n hx hb dX4_toJson_12 rfl (lv_at hl 0 rfl) ?_
  refine va_get (ci := 3) (v := .ref (q 1)) (C := RX4) (T := TX4) (N := 6) hx hb hT i_X4 hown hK hP 0 rfl rfl 0 (by decide) (hT _ wfl_X4_14) (fun _ h9 => h9) rfl dX4_toJson_13 ?_
  refine lv_aload_n hx hb dX4_toJson_16 rfl (lv_at hl 0 rfl) ?_
  refine va_get (ci := 3) (v := .ref (q 5)) (C := RX4) (T := TX4) (N := 6) hx hb hT i_X4 hown hK hP 0 rfl rfl 2 (by decide) (hT _ wfl_X4_21) (fun _ h9 => h9) rfl dX4_toJson_17 ?_
  refine lv_aload_n hx hb dX4_toJson_20 rfl (lv_at hl 0 rfl) ?_
  refine va_get (ci := 3) (v := .int (tf_depth σ)) (C := RX4) (T := TX4) (N := 6) hx hb hT i_X4 hown hK hP 0 rfl rfl 3 (by decide) (hT _ wfl_X4_24) (fun _ h9 => h9) rfl dX4_toJson_21 ?_
  refine ct_i (As := [.ref (q 1), .ref (q 5), .int (tf_depth σ)]) (rest := [.ref h]) (wr := tW cB q (ts_draft σ dr)) G kX4_63 c_ini_k hP hD hS [7] [0, 1, 2, 3, 4, 5, 6] rfl rfl rfl rfl (by decide) ⟨rfl, rfl, Nat.le_trans (m := 20) (Nat.le_of_ble_eq_true rfl) (Nat.le_add_left 20 _), Nat.le_trans (m := 300) (Nat.le_of_ble_eq_true rfl) (Nat.le_add_left 300 _)⟩ rfl hl.1 (Nat.le_of_ble_eq_true rfl) dX4_toJson_24 ⟨Nat.le_refl _, Nat.le_refl _⟩ (fun H locs hP hD hS => ?_)
  refine W.eq (g2 := F0 m 27 ls [.ref h]) rfl ?_
  have hP : va_P D vwCl (tkW cB q h (ts_draft σ dr) (tf_depth σ, (0 : Int32), (0 : Int32), (-1 : Int32), (0 : Int32), (0 : Int64))) H := hP
  have hD : va_D A (tkW cB q h (ts_draft σ dr) (tf_depth σ, (0 : Int32), (0 : Int32), (-1 : Int32), (0 : Int32), (0 : Int64))) := hD
  refine lv_astore_n (lv' := [(1, .ref h), (0, .ref (q 0))]) hx hb dX4_toJson_27 rfl hl (by decide) rfl (fun ls hl => ?_)
  refine lv_aload_n hx hb dX4_toJson_28 rfl (lv_at hl 1 rfl) ?_
  refine lv_aload_n hx hb dX4_toJson_29 rfl (lv_at hl 0 rfl) ?_
  refine lv_aload_n hx hb dX4_toJson_30 rfl (lv_at hl 0 rfl) ?_
  refine lv_iconst (v := 0) hx hb dX4_toJson_31 (by decide) ?_
  obtain ⟨x, hx1, hf⟩ := bd_some hf
  refine vTK (As := [.int 0]) (rest := [.ref h, .ref (q 0)]) (σ := ts_draft σ dr) (j := (tf_depth σ, (0 : Int32), (0 : Int32), (-1 : Int32), (0 : Int32), (0 : Int64))) (x := x.2) (rm := rm_kk_readItem d) G kX4_64 (c_kk_readItem (q := jQ q h) d hx1) hP hD hS ⟨rfl, rfl, (by show 32 * d + 1 ≤ 32 * d + 20; omega), (by show 8 + (3 + 11) + 800 * d ≤ 800 * d + 300; omega)⟩ ⟨Nat.le_refl _, Nat.le_refl _⟩ rfl hl.1 (Nat.le_of_ble_eq_true rfl) dX4_toJson_32 (fun H locs hP hD hS => ?_)
  refine W.eq (g2 := F0 m 35 ls [.int (bI x.1), .ref h, .ref (q 0)]) rfl ?_
  have fin : ∀ {τ : TSt} {j : KR} {v : Int32} {H : Heap} {locs : List Loc} {ρ : Int32 × Bool × TSt} (hP : va_P D vwCl (tkW cB q h τ j) H) (hD : va_D A (tkW cB q h τ j)) (hS : va_S A s.heap H locs) (hf : an1 v τ j.2.2.1 j.2.2.2.1 = ρ), W p l e (rm_tt_toJson d) s m [Value.ref (q 0)].toArray below meth c H locs 1 8 (MQ below (cQ D (gTy cB cI cJ) A (tW cB (qB ρ.2.1 q) ρ.2.2) (some (.int ρ.1))) [Value.ref (q 0)].toArray s 1 8 A) (F0 m 50 ls [.int v, .ref h, .ref (q 0)]) := by
    intro τ j v H locs ρ hP hD hS hf
    refine ct_v (As := [.ref h, .int v]) (rest := []) (wr := []) G kX4_57 (c_ansk hf) hP hD hS [0, 1, 2, 3, 4, 5, 6, 7] [] rfl rfl rfl rfl (fun _ h => absurd h List.not_mem_nil) (ci := 3) (q0 := 0) rfl rfl rfl ⟨rfl, rfl, Nat.le_trans (m := 20) (Nat.le_of_ble_eq_true rfl) (Nat.le_add_left 20 _), Nat.le_trans (m := 300) (Nat.le_of_ble_eq_true rfl) (Nat.le_add_left 300 _)⟩ rfl hl.1 (Nat.le_of_ble_eq_true rfl) dX4_toJson_50 ⟨Nat.le_refl _, Nat.le_refl _⟩ (fun H locs hP hD hS => ?_)
    exact ct_iret G rfl hP hD hS dX4_toJson_53
  refine lv_if_eq (tgt := 49) hx hb dX4_toJson_35 (by decide) (fun c1 => ?_) (fun c1 => ?_)
  · have hf := (if_neg (bI_0 c1)).symm.trans hf
    have hf := Option.some.inj hf
    refine lv_iconst (v := 0) hx hb dX4_toJson_49 (by decide) ?_
    exact fin (τ := kT (ts_draft σ dr) x.2) (j := kU x.2) hP hD hS hf
  have hf := (if_pos (bI_n c1)).symm.trans hf
  obtain ⟨y, hy1, hf⟩ := bd_some hf
  have hy2 : kk_readEnd (kS (kT (ts_draft σ dr) x.2) (kU x.2)) = some y := by rw [kS_kT]; exact hy1
  refine lv_aload_n hx hb dX4_toJson_38 rfl (lv_at hl 0 rfl) ?_
  refine vTK (As := []) (rest := [.ref h, .ref (q 0)]) (σ := kT (ts_draft σ dr) x.2) (j := kU x.2) (x := y.2) G kX4_67 (c_kk_readEnd (q := jQ q h) hy2) hP hD hS ⟨rfl, rfl, Nat.le_trans (m := 20) (Nat.le_of_ble_eq_true rfl) (Nat.le_add_left 20 _), Nat.le_trans (m := 300) (Nat.le_of_ble_eq_true rfl) (Nat.le_add_left 300 _)⟩ ⟨Nat.le_refl _, Nat.le_refl _⟩ rfl hl.1 (Nat.le_of_ble_eq_true rfl) dX4_toJson_39 (fun H locs hP hD hS => ?_)
  refine W.eq (g2 := F0 m 42 ls [.int (bI y.1), .ref h, .ref (q 0)]) rfl ?_
  refine lv_if_eq (tgt := 49) hx hb dX4_toJson_42 (by decide) (fun c2 => ?_) (fun c2 => ?_)
  · have hf := (if_neg (bI_0 c2)).symm.trans hf
    have hf := Option.some.inj hf
    refine lv_iconst (v := 0) hx hb dX4_toJson_49 (by decide) ?_
    exact fin (τ := kT (kT (ts_draft σ dr) x.2) y.2) (j := kU y.2) hP hD hS hf
  · have hf := (if_pos (bI_n c2)).symm.trans hf
    have hf := Option.some.inj hf
    refine lv_iconst (v := 1) hx hb dX4_toJson_45 (by decide) ?_
    refine lv_goto (tgt := 50) hx hb dX4_toJson_46 (by decide) ?_
    exact fin (τ := kT (kT (ts_draft σ dr) x.2) y.2) (j := kU y.2) hP hD hS hf
