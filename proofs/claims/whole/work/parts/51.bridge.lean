/-! READERS MADE; THE BRIDGE'S OWN METHODS -/
theorem wcl_44 : Cond.classLink RX4 44 RX1 ∈ wT := wT_of (in1 (i := 89) rfl) rfl
theorem wcl_64 : Cond.classLink RX4 64 RX0 ∈ wT := wT_of (in2 (i := 135) rfl) rfl
theorem wcl_7 : Cond.classLink RX4 7 RX3 ∈ wT := wT_of (in1 (i := 21) rfl) rfl
theorem wins_X0 : Cond.instantiable RX0 8 ∈ wT := wT_of (in2 (i := 136) rfl) rfl
theorem wini_X0 : Cond.initialized RX0 ∈ wT := wT_of (in1 (i := 12) rfl) rfl
theorem wins_X1 : Cond.instantiable RX1 6 ∈ wT := wT_of (in1 (i := 90) rfl) rfl
theorem wini_X1 : Cond.initialized RX1 ∈ wT := wT_of (in1 (i := 6) rfl) rfl
theorem wins_X3 : Cond.instantiable RX3 2 ∈ wT := wT_of (in1 (i := 22) rfl) rfl
theorem wini_X3 : Cond.initialized RX3 ∈ wT := wT_of (in1 (i := 2) rfl) rfl
theorem wins_X4 : Cond.instantiable RX4 6 ∈ wT := wT_of (in1 (i := 14) rfl) rfl
theorem wini_X4 : Cond.initialized RX4 ∈ wT := wT_of (in1 (i := 1) rfl) rfl
theorem wins_X5 : Cond.instantiable RX5 22 ∈ wT := wT_of (in3 (i := 24) rfl) rfl
theorem wini_X5 : Cond.initialized RX5 ∈ wT := wT_of (in1 (i := 4) rfl) rfl
set_option maxHeartbeats 4000000 in
set_option maxRecDepth 100000 in
theorem c_rini_j {l : Launch} {D : va_G} {aK aV : Nat → Nat} {cB cI cJ : ClassId} {h a b : Nat} {d : Int32} : CT l D (gTy cB cI cJ) aK aV yX2_init (wM yX2_init cX2_init 4 none) { frames := 1, cells := 0, slots := 0, locals := 20 } 0 0 [.ref h, .ref a, .ref b, .int d] [(h, .inr (1, [.null, .null, .int 0, .int 0, .int 0, .int 0]))] none [(h, .inr (1, [.ref a, .ref b, .int d, .int 0, .int 0, .int (-1)]))] := by
  refine CT.of (by decide) rfl ?_
  intro p e s m below meth c A G hnm hP hD hS
  obtain ⟨hx, hb, hml, hown, hT, hrt, hlk, hK, hA, hG, hE⟩ := id G
  have hl := lv_entry [.ref h, .ref a, .ref b, .int d] (n := 4) (Nat.le_of_ble_eq_true rfl)
  rw [lg_entry_eq]
  generalize (lg_sl [.ref h, .ref a, .ref b, .int d] ++ List.replicate (4 - (lg_sl [.ref h, .ref a, .ref b, .int d]).length) Slot.unset).toArray = ls at hl ⊢
  have hl : lv_has ls 4 [(0, .ref h), (1, .ref a), (2, .ref b), (3, .int d)] := hl
  refine lv_aload_n hx hb dX2_init_0 rfl (lv_at hl 0 rfl) ?_
  refine W.objInit hx hb hown (hT _ oX2) (hT _ o_inst) (hT _ o_code) rfl (by rw [hml]; exact hl.1) rfl dX2_init_1 (Nat.le_of_ble_eq_true rfl) (Nat.le_of_ble_eq_true rfl) ?_
  refine W.eq (g2 := F0 m 4 ls []) rfl ?_
  refine lv_aload_n hx hb dX2_init_4 rfl (lv_at hl 0 rfl) ?_
  refine lv_aload_n hx hb dX2_init_5 rfl (lv_at hl 1 rfl) ?_
  refine va_putF (ci := 1) (v := .ref a) (ty := .object "TextBridge$Row") (C := RX1) (T := TX1) (N := 6) hx hb hT i_X1 tyX1 tyX1_ok nmX1 hown hK hP hD hS 0 rfl rfl 0 (by decide) (hT _ wfl_X2_9) (fun _ h9 => h9) rfl hnm rfl (by decide +kernel) rfl rfl (Nat.le_of_ble_eq_true rfl) dX2_init_6 (fun H locs hP hD hS => ?_)
  have hP : va_P D vwCl [(h, .inr (1, [.ref a, .null, .int 0, .int 0, .int 0, .int 0]))] H := hP
  have hD : va_D A [(h, .inr (1, [.ref a, .null, .int 0, .int 0, .int 0, .int 0]))] := hD
  refine lv_aload_n hx hb dX2_init_9 rfl (lv_at hl 0 rfl) ?_
  refine lv_aload_n hx hb dX2_init_10 rfl (lv_at hl 2 rfl) ?_
  refine va_putF (ci := 1) (v := .ref b) (ty := .object "TextBridge$Row") (C := RX1) (T := TX1) (N := 6) hx hb hT i_X1 tyX1 tyX1_ok nmX1 hown hK hP hD hS 0 rfl rfl 1 (by decide) (hT _ wfl_X2_15) (fun _ h9 => h9) rfl hnm rfl (by decide +kernel) rfl rfl (Nat.le_of_ble_eq_true rfl) dX2_init_11 (fun H locs hP hD hS => ?_)
  have hP : va_P D vwCl [(h, .inr (1, [.ref a, .ref b, .int 0, .int 0, .int 0, .int 0]))] H := hP
  have hD : va_D A [(h, .inr (1, [.ref a, .ref b, .int 0, .int 0, .int 0, .int 0]))] := hD
  refine lv_aload_n hx hb dX2_init_14 rfl (lv_at hl 0 rfl) ?_
  refine lv_iload_n hx hb dX2_init_15 rfl (lv_at hl 3 rfl) ?_
  refine va_putF (ci := 1) (v := .int d) (ty := .int) (C := RX1) (T := TX1) (N := 6) hx hb hT i_X1 tyX1 tyX1_ok nmX1 hown hK hP hD hS 0 rfl rfl 2 (by decide) (hT _ wfl_X2_18) (fun _ h9 => h9) rfl hnm rfl (by decide +kernel) rfl rfl (Nat.le_of_ble_eq_true rfl) dX2_init_16 (fun H locs hP hD hS => ?_)
  have hP : va_P D vwCl [(h, .inr (1, [.ref a, .ref b, .int d, .int 0, .int 0, .int 0]))] H := hP
  have hD : va_D A [(h, .inr (1, [.ref a, .ref b, .int d, .int 0, .int 0, .int 0]))] := hD
  refine lv_aload_n hx hb dX2_init_19 rfl (lv_at hl 0 rfl) ?_
  refine lv_iconst (v := 0) hx hb dX2_init_20 (by decide) ?_
  refine va_put (ci := 1) (v := .int 0) (ty := .int) (C := RX1) (T := TX1) (N := 6) hx hb hT i_X1 tyX1 tyX1_ok nmX1 hown hK hP hD hS 0 rfl rfl 3 (by decide) (hT _ wfl_X2_22) (fun _ h9 => h9) rfl (by decide +kernel) rfl rfl (Nat.le_of_ble_eq_true rfl) dX2_init_21 (fun H locs hP hD hS => ?_)
  have hP : va_P D vwCl [(h, .inr (1, [.ref a, .ref b, .int d, .int 0, .int 0, .int 0]))] H := hP
  have hD : va_D A [(h, .inr (1, [.ref a, .ref b, .int d, .int 0, .int 0, .int 0]))] := hD
  refine lv_aload_n hx hb dX2_init_24 rfl (lv_at hl 0 rfl) ?_
  refine lv_iconst (v := 0) hx hb dX2_init_25 (by decide) ?_
  refine va_put (ci := 1) (v := .int 0) (ty := .int) (C := RX1) (T := TX1) (N := 6) hx hb hT i_X1 tyX1 tyX1_ok nmX1 hown hK hP hD hS 0 rfl rfl 4 (by decide) (hT _ wfl_X2_25) (fun _ h9 => h9) rfl (by decide +kernel) rfl rfl (Nat.le_of_ble_eq_true rfl) dX2_init_26 (fun H locs hP hD hS => ?_)
  have hP : va_P D vwCl [(h, .inr (1, [.ref a, .ref b, .int d, .int 0, .int 0, .int 0]))] H := hP
  have hD : va_D A [(h, .inr (1, [.ref a, .ref b, .int d, .int 0, .int 0, .int 0]))] := hD
  refine lv_aload_n hx hb dX2_init_29 rfl (lv_at hl 0 rfl) ?_
  refine lv_iconst (v := -1) hx hb dX2_init_30 (by decide) ?_
  refine va_put (ci := 1) (v := .int (-1)) (ty := .int) (C := RX1) (T := TX1) (N := 6) hx hb hT i_X1 tyX1 tyX1_ok nmX1 hown hK hP hD hS 0 rfl rfl 5 (by decide) (hT _ wfl_X2_28) (fun _ h9 => h9) rfl (by decide +kernel) rfl rfl (Nat.le_of_ble_eq_true rfl) dX2_init_31 (fun H locs hP hD hS => ?_)
  have hP : va_P D vwCl [(h, .inr (1, [.ref a, .ref b, .int d, .int 0, .int 0, .int (-1)]))] H := hP
  have hD : va_D A [(h, .inr (1, [.ref a, .ref b, .int d, .int 0, .int 0, .int (-1)]))] := hD
  exact ct_vret G hP hD hS dX2_init_34
set_option maxHeartbeats 4000000 in
set_option maxRecDepth 100000 in
theorem c_ini_j {l : Launch} {D : va_G} {aK aV : Nat → Nat} {cB cI cJ : ClassId} {h a b : Nat} {d : Int32} : CT l D (gTy cB cI cJ) aK aV yX1_init (wM yX1_init cX1_init 4 none) { frames := 2, cells := 0, slots := 0, locals := 43 } 0 0 [.ref h, .ref a, .ref b, .int d] [(h, .inr (1, [.null, .null, .int 0, .int 0, .int 0, .int 0]))] none [(h, .inr (1, [.ref a, .ref b, .int d, .int 0, .int 0, .int (-1)]))] := by
  refine CT.of (by decide) rfl ?_
  intro p e s m below meth c A G hnm hP hD hS
  obtain ⟨hx, hb, hml, hown, hT, hrt, hlk, hK, hA, hG, hE⟩ := id G
  have hl := lv_entry [.ref h, .ref a, .ref b, .int d] (n := 4) (Nat.le_of_ble_eq_true rfl)
  rw [lg_entry_eq]
  generalize (lg_sl [.ref h, .ref a, .ref b, .int d] ++ List.replicate (4 - (lg_sl [.ref h, .ref a, .ref b, .int d]).length) Slot.unset).toArray = ls at hl ⊢
  have hl : lv_has ls 4 [(0, .ref h), (1, .ref a), (2, .ref b), (3, .int d)] := hl
  refine lv_aload_n hx hb dX1_init_0 rfl (lv_at hl 0 rfl) ?_
  refine lv_aload_n hx hb dX1_init_1 rfl (lv_at hl 1 rfl) ?_
  refine lv_aload_n hx hb dX1_init_2 rfl (lv_at hl 2 rfl) ?_
  refine lv_iload_n hx hb dX1_init_3 rfl (lv_at hl 3 rfl) ?_
  refine ct_i (As := [.ref a, .ref b, .int d]) (rest := []) (wr := []) G kX1_3 c_rini_j hP hD hS [0] [] rfl rfl rfl rfl (fun _ h => absurd h List.not_mem_nil) ⟨rfl, rfl, Nat.le_of_ble_eq_true rfl, Nat.le_of_ble_eq_true rfl⟩ rfl hl.1 (Nat.le_of_ble_eq_true rfl) dX1_init_4 ⟨Nat.le_refl _, Nat.le_refl _⟩ (fun H locs hP hD hS => ?_)
  refine W.eq (g2 := F0 m 7 ls []) rfl ?_
  have hP : va_P D vwCl [(h, .inr (1, [.ref a, .ref b, .int d, .int 0, .int 0, .int (-1)]))] H := hP
  have hD : va_D A [(h, .inr (1, [.ref a, .ref b, .int d, .int 0, .int 0, .int (-1)]))] := hD
  exact ct_vret G hP hD hS dX1_init_7
set_option maxHeartbeats 4000000 in
set_option maxRecDepth 100000 in
theorem c_rini_k {l : Launch} {D : va_G} {aK aV : Nat → Nat} {cB cI cJ : ClassId} {h a b : Nat} {d : Int32} : CT l D (gTy cB cI cJ) aK aV yX2_init (wM yX2_init cX2_init 4 none) { frames := 1, cells := 0, slots := 0, locals := 20 } 0 0 [.ref h, .ref a, .ref b, .int d] [(h, .inr (0, [.null, .null, .int 0, .int 0, .int 0, .int 0, .int 0, .long 0]))] none [(h, .inr (0, [.ref a, .ref b, .int d, .int 0, .int 0, .int (-1), .int 0, .long 0]))] := by
  refine CT.of (by decide) rfl ?_
  intro p e s m below meth c A G hnm hP hD hS
  obtain ⟨hx, hb, hml, hown, hT, hrt, hlk, hK, hA, hG, hE⟩ := id G
  have hl := lv_entry [.ref h, .ref a, .ref b, .int d] (n := 4) (Nat.le_of_ble_eq_true rfl)
  rw [lg_entry_eq]
  generalize (lg_sl [.ref h, .ref a, .ref b, .int d] ++ List.replicate (4 - (lg_sl [.ref h, .ref a, .ref b, .int d]).length) Slot.unset).toArray = ls at hl ⊢
  have hl : lv_has ls 4 [(0, .ref h), (1, .ref a), (2, .ref b), (3, .int d)] := hl
  refine lv_aload_n hx hb dX2_init_0 rfl (lv_at hl 0 rfl) ?_
  refine W.objInit hx hb hown (hT _ oX2) (hT _ o_inst) (hT _ o_code) rfl (by rw [hml]; exact hl.1) rfl dX2_init_1 (Nat.le_of_ble_eq_true rfl) (Nat.le_of_ble_eq_true rfl) ?_
  refine W.eq (g2 := F0 m 4 ls []) rfl ?_
  refine lv_aload_n hx hb dX2_init_4 rfl (lv_at hl 0 rfl) ?_
  refine lv_aload_n hx hb dX2_init_5 rfl (lv_at hl 1 rfl) ?_
  refine va_putF (ci := 0) (v := .ref a) (ty := .object "TextBridge$Row") (C := RX0) (T := TX0) (N := 8) hx hb hT i_X0 tyX0 tyX0_ok nmX0 hown hK hP hD hS 0 rfl rfl 0 (by decide) (hT _ wfl_X2_9) (fun _ h9 => h9) rfl hnm rfl (by decide +kernel) rfl rfl (Nat.le_of_ble_eq_true rfl) dX2_init_6 (fun H locs hP hD hS => ?_)
  have hP : va_P D vwCl [(h, .inr (0, [.ref a, .null, .int 0, .int 0, .int 0, .int 0, .int 0, .long 0]))] H := hP
  have hD : va_D A [(h, .inr (0, [.ref a, .null, .int 0, .int 0, .int 0, .int 0, .int 0, .long 0]))] := hD
  refine lv_aload_n hx hb dX2_init_9 rfl (lv_at hl 0 rfl) ?_
  refine lv_aload_n hx hb dX2_init_10 rfl (lv_at hl 2 rfl) ?_
  refine va_putF (ci := 0) (v := .ref b) (ty := .object "TextBridge$Row") (C := RX0) (T := TX0) (N := 8) hx hb hT i_X0 tyX0 tyX0_ok nmX0 hown hK hP hD hS 0 rfl rfl 1 (by decide) (hT _ wfl_X2_15) (fun _ h9 => h9) rfl hnm rfl (by decide +kernel) rfl rfl (Nat.le_of_ble_eq_true rfl) dX2_init_11 (fun H locs hP hD hS => ?_)
  have hP : va_P D vwCl [(h, .inr (0, [.ref a, .ref b, .int 0, .int 0, .int 0, .int 0, .int 0, .long 0]))] H := hP
  have hD : va_D A [(h, .inr (0, [.ref a, .ref b, .int 0, .int 0, .int 0, .int 0, .int 0, .long 0]))] := hD
  refine lv_aload_n hx hb dX2_init_14 rfl (lv_at hl 0 rfl) ?_
  refine lv_iload_n hx hb dX2_init_15 rfl (lv_at hl 3 rfl) ?_
  refine va_putF (ci := 0) (v := .int d) (ty := .int) (C := RX0) (T := TX0) (N := 8) hx hb hT i_X0 tyX0 tyX0_ok nmX0 hown hK hP hD hS 0 rfl rfl 2 (by decide) (hT _ wfl_X2_18) (fun _ h9 => h9) rfl hnm rfl (by decide +kernel) rfl rfl (Nat.le_of_ble_eq_true rfl) dX2_init_16 (fun H locs hP hD hS => ?_)
  have hP : va_P D vwCl [(h, .inr (0, [.ref a, .ref b, .int d, .int 0, .int 0, .int 0, .int 0, .long 0]))] H := hP
  have hD : va_D A [(h, .inr (0, [.ref a, .ref b, .int d, .int 0, .int 0, .int 0, .int 0, .long 0]))] := hD
  refine lv_aload_n hx hb dX2_init_19 rfl (lv_at hl 0 rfl) ?_
  refine lv_iconst (v := 0) hx hb dX2_init_20 (by decide) ?_
  refine va_put (ci := 0) (v := .int 0) (ty := .int) (C := RX0) (T := TX0) (N := 8) hx hb hT i_X0 tyX0 tyX0_ok nmX0 hown hK hP hD hS 0 rfl rfl 3 (by decide) (hT _ wfl_X2_22) (fun _ h9 => h9) rfl (by decide +kernel) rfl rfl (Nat.le_of_ble_eq_true rfl) dX2_init_21 (fun H locs hP hD hS => ?_)
  have hP : va_P D vwCl [(h, .inr (0, [.ref a, .ref b, .int d, .int 0, .int 0, .int 0, .int 0, .long 0]))] H := hP
  have hD : va_D A [(h, .inr (0, [.ref a, .ref b, .int d, .int 0, .int 0, .int 0, .int 0, .long 0]))] := hD
  refine lv_aload_n hx hb dX2_init_24 rfl (lv_at hl 0 rfl) ?_
  refine lv_iconst (v := 0) hx hb dX2_init_25 (by decide) ?_
  refine va_put (ci := 0) (v := .int 0) (ty := .int) (C := RX0) (T := TX0) (N := 8) hx hb hT i_X0 tyX0 tyX0_ok nmX0 hown hK hP hD hS 0 rfl rfl 4 (by decide) (hT _ wfl_X2_25) (fun _ h9 => h9) rfl (by decide +kernel) rfl rfl (Nat.le_of_ble_eq_true rfl) dX2_init_26 (fun H locs hP hD hS => ?_)
  have hP : va_P D vwCl [(h, .inr (0, [.ref a, .ref b, .int d, .int 0, .int 0, .int 0, .int 0, .long 0]))] H := hP
  have hD : va_D A [(h, .inr (0, [.ref a, .ref b, .int d, .int 0, .int 0, .int 0, .int 0, .long 0]))] := hD
  refine lv_aload_n hx hb dX2_init_29 rfl (lv_at hl 0 rfl) ?_
  refine lv_iconst (v := -1) hx hb dX2_init_30 (by decide) ?_
  refine va_put (ci := 0) (v := .int (-1)) (ty := .int) (C := RX0) (T := TX0) (N := 8) hx hb hT i_X0 tyX0 tyX0_ok nmX0 hown hK hP hD hS 0 rfl rfl 5 (by decide) (hT _ wfl_X2_28) (fun _ h9 => h9) rfl (by decide +kernel) rfl rfl (Nat.le_of_ble_eq_true rfl) dX2_init_31 (fun H locs hP hD hS => ?_)
  have hP : va_P D vwCl [(h, .inr (0, [.ref a, .ref b, .int d, .int 0, .int 0, .int (-1), .int 0, .long 0]))] H := hP
  have hD : va_D A [(h, .inr (0, [.ref a, .ref b, .int d, .int 0, .int 0, .int (-1), .int 0, .long 0]))] := hD
  exact ct_vret G hP hD hS dX2_init_34
set_option maxHeartbeats 4000000 in
set_option maxRecDepth 100000 in
theorem c_ini_k {l : Launch} {D : va_G} {aK aV : Nat → Nat} {cB cI cJ : ClassId} {h a b : Nat} {d : Int32} : CT l D (gTy cB cI cJ) aK aV yX0_init (wM yX0_init cX0_init 4 none) { frames := 2, cells := 0, slots := 0, locals := 43 } 0 0 [.ref h, .ref a, .ref b, .int d] [(h, .inr (0, [.null, .null, .int 0, .int 0, .int 0, .int 0, .int 0, .long 0]))] none [(h, .inr (0, [.ref a, .ref b, .int d, .int 0, .int 0, .int (-1), .int 0, .long 0]))] := by
  refine CT.of (by decide) rfl ?_
  intro p e s m below meth c A G hnm hP hD hS
  obtain ⟨hx, hb, hml, hown, hT, hrt, hlk, hK, hA, hG, hE⟩ := id G
  have hl := lv_entry [.ref h, .ref a, .ref b, .int d] (n := 4) (Nat.le_of_ble_eq_true rfl)
  rw [lg_entry_eq]
  generalize (lg_sl [.ref h, .ref a, .ref b, .int d] ++ List.replicate (4 - (lg_sl [.ref h, .ref a, .ref b, .int d]).length) Slot.unset).toArray = ls at hl ⊢
  have hl : lv_has ls 4 [(0, .ref h), (1, .ref a), (2, .ref b), (3, .int d)] := hl
  refine lv_aload_n hx hb dX0_init_0 rfl (lv_at hl 0 rfl) ?_
  refine lv_aload_n hx hb dX0_init_1 rfl (lv_at hl 1 rfl) ?_
  refine lv_aload_n hx hb dX0_init_2 rfl (lv_at hl 2 rfl) ?_
  refine lv_iload_n hx hb dX0_init_3 rfl (lv_at hl 3 rfl) ?_
  refine ct_i (As := [.ref a, .ref b, .int d]) (rest := []) (wr := []) G kX0_3 c_rini_k hP hD hS [0] [] rfl rfl rfl rfl (fun _ h => absurd h List.not_mem_nil) ⟨rfl, rfl, Nat.le_of_ble_eq_true rfl, Nat.le_of_ble_eq_true rfl⟩ rfl hl.1 (Nat.le_of_ble_eq_true rfl) dX0_init_4 ⟨Nat.le_refl _, Nat.le_refl _⟩ (fun H locs hP hD hS => ?_)
  refine W.eq (g2 := F0 m 7 ls []) rfl ?_
  have hP : va_P D vwCl [(h, .inr (0, [.ref a, .ref b, .int d, .int 0, .int 0, .int (-1), .int 0, .long 0]))] H := hP
  have hD : va_D A [(h, .inr (0, [.ref a, .ref b, .int d, .int 0, .int 0, .int (-1), .int 0, .long 0]))] := hD
  refine lv_aload_n hx hb dX0_init_7 rfl (lv_at hl 0 rfl) ?_
  refine lv_iconst (v := 0) hx hb dX0_init_8 (by decide) ?_
  refine va_put (ci := 0) (v := .int 0) (ty := .int) (C := RX0) (T := TX0) (N := 8) hx hb hT i_X0 tyX0 tyX0_ok nmX0 hown hK hP hD hS 0 rfl rfl 6 (by decide) (hT _ wfl_X0_9) (fun _ h9 => h9) rfl (by decide +kernel) rfl rfl (Nat.le_of_ble_eq_true rfl) dX0_init_9 (fun H locs hP hD hS => ?_)
  have hP : va_P D vwCl [(h, .inr (0, [.ref a, .ref b, .int d, .int 0, .int 0, .int (-1), .int 0, .long 0]))] H := hP
  have hD : va_D A [(h, .inr (0, [.ref a, .ref b, .int d, .int 0, .int 0, .int (-1), .int 0, .long 0]))] := hD
  refine lv_aload_n hx hb dX0_init_12 rfl (lv_at hl 0 rfl) ?_
  refine lv_lconst (v := 0) hx hb dX0_init_13 (by decide) ?_
  refine va_put (ci := 0) (v := .long 0) (ty := .long) (C := RX0) (T := TX0) (N := 8) hx hb hT i_X0 tyX0 tyX0_ok nmX0 hown hK hP hD hS 0 rfl rfl 7 (by decide) (hT _ wfl_X0_15) (fun _ h9 => h9) rfl (by decide +kernel) rfl rfl (Nat.le_of_ble_eq_true rfl) dX0_init_14 (fun H locs hP hD hS => ?_)
  have hP : va_P D vwCl [(h, .inr (0, [.ref a, .ref b, .int d, .int 0, .int 0, .int (-1), .int 0, .long 0]))] H := hP
  have hD : va_D A [(h, .inr (0, [.ref a, .ref b, .int d, .int 0, .int 0, .int (-1), .int 0, .long 0]))] := hD
  exact ct_vret G hP hD hS dX0_init_17
def jj_readValue (N : Nat) : Nat → Int32 → JSt → Option (Bool × JSt)
  | 0, _, _ => none
  | n + 1, a, σ => jj_valueOf N (jj_readValue N n) a σ
abbrev rm_jj_readValue (n : Nat) : Room := { frames := 32 * n, cells := 0, slots := 0, locals := 800 * n }
set_option maxHeartbeats 4000000 in
set_option maxRecDepth 100000 in
theorem c_jj_readValue {l : Launch} {D : va_G} {aK aV : Nat → Nat} {cB cI cJ : ClassId} {q : Nat → Nat} {N : Nat} : ∀ (n : Nat) {a : Int32} {σ : JSt} {x : Bool × JSt} (hf : jj_readValue N n a σ = some x), CT l D (gTy cB cI cJ) aK aV yX1_readValue (wM yX1_readValue cX1_readValue 3 (some .boolean)) (rm_jj_readValue n) 0 0 [.ref (q 0), .int a] (jW cB N q σ) (some (.int (bI x.1))) (jW cB N q x.2) := by
  intro n
  induction n with
  | zero =>
    intro a σ x hf
    cases hf
  | succ n ih =>
    intro a σ x hf
    exact c_jj_valueOf (rmv := rm_jj_readValue n) ⟨fun hf => ih hf, rfl, rfl⟩ hf
def kk_readItem (N : Nat) : Nat → Int32 → KSt → Option (Bool × KSt)
  | 0, _, _ => none
  | n + 1, a, σ => kk_itemOf N (kk_readItem N n) a σ
abbrev rm_kk_readItem (n : Nat) : Room := { frames := 32 * n, cells := 0, slots := 0, locals := 800 * n }
set_option maxHeartbeats 4000000 in
set_option maxRecDepth 100000 in
theorem c_kk_readItem {l : Launch} {D : va_G} {aK aV : Nat → Nat} {cB cI cJ : ClassId} {q : Nat → Nat} {N : Nat} : ∀ (n : Nat) {a : Int32} {σ : KSt} {x : Bool × KSt} (hf : kk_readItem N n a σ = some x), CT l D (gTy cB cI cJ) aK aV yX0_readItem (wM yX0_readItem cX0_readItem 3 (some .boolean)) (rm_kk_readItem n) 0 0 [.ref (q 0), .int a] (kW cB N q σ) (some (.int (bI x.1))) (kW cB N q x.2) := by
  intro n
  induction n with
  | zero =>
    intro a σ x hf
    cases hf
  | succ n ih =>
    intro a σ x hf
    exact c_kk_itemOf (rmv := rm_kk_readItem n) ⟨fun hf => ih hf, rfl, rfl⟩ hf
abbrev JR : Type := Int32 × Int32 × Int32 × Int32
abbrev KR : Type := Int32 × Int32 × Int32 × Int32 × Int32 × Int64
def jQ (q : Nat → Nat) (h : Nat) : Nat → Nat := fun i => match i with
  | 0 => h
  | 1 => q 1
  | 2 => q 2
  | 3 => q 5
  | _ => q 6
def jQ2 (q : Nat → Nat) (h : Nat) : Nat → Nat := fun i => match i with
  | 0 => h
  | 1 => q 1
  | 2 => q 2
  | 3 => q 3
  | _ => q 4
def jS (σ : TSt) (j : JR) : JSt := (j.1, j.2.1, j.2.2.1, j.2.2.2, tf_tape σ, tf_measure σ)
def kS (σ : TSt) (j : KR) : KSt := (j.1, j.2.1, j.2.2.1, j.2.2.2.1, j.2.2.2.2.1, j.2.2.2.2.2, tf_tape σ, tf_measure σ)
def jS2 (σ : TSt) (j : JR) : JSt := (j.1, j.2.1, j.2.2.1, j.2.2.2, tf_tape σ, tf_written σ)
def kS2 (σ : TSt) (j : KR) : KSt := (j.1, j.2.1, j.2.2.1, j.2.2.2.1, j.2.2.2.2.1, j.2.2.2.2.2, tf_tape σ, tf_written σ)
def jT (σ : TSt) (x : JSt) : TSt := ts_measure (ts_tape σ (jf_tape x)) (jf_target x)
def kT (σ : TSt) (x : KSt) : TSt := ts_measure (ts_tape σ (kf_tape x)) (kf_target x)
def jT2 (σ : TSt) (x : JSt) : TSt := ts_written (ts_tape σ (jf_tape x)) (jf_target x)
def kT2 (σ : TSt) (x : KSt) : TSt := ts_written (ts_tape σ (kf_tape x)) (kf_target x)
def jU (x : JSt) : JR := (jf_depthLimit x, jf_place x, jf_faultKind x, jf_faultPlace x)
def kU (x : KSt) : KR := (kf_depthLimit x, kf_place x, kf_faultKind x, kf_faultPlace x, kf_type x, kf_number x)
def jX (j : JR) (k : Int32 × Int32) : JR := (j.1, j.2.1, k.1, k.2)
def kX (j : KR) (k : Int32 × Int32) : KR := (j.1, j.2.1, k.1, k.2, j.2.2.2.2.1, j.2.2.2.2.2)
def tjW (cB : ClassId) (q : Nat → Nat) (h : Nat) (σ : TSt) (j : JR) : va_W := tW cB q σ ++ [(h, .inr (1, [.ref (q 1), .ref (q 5), .int j.1, .int j.2.1, .int j.2.2.1, .int j.2.2.2]))]
def tkW (cB : ClassId) (q : Nat → Nat) (h : Nat) (σ : TSt) (j : KR) : va_W := tW cB q σ ++ [(h, .inr (0, [.ref (q 1), .ref (q 5), .int j.1, .int j.2.1, .int j.2.2.1, .int j.2.2.2.1, .int j.2.2.2.2.1, .long j.2.2.2.2.2]))]
def tjW2 (cB : ClassId) (q : Nat → Nat) (h : Nat) (σ : TSt) (j : JR) : va_W := tW cB q σ ++ [(h, .inr (1, [.ref (q 1), .ref (q 3), .int j.1, .int j.2.1, .int j.2.2.1, .int j.2.2.2]))]
def tkW2 (cB : ClassId) (q : Nat → Nat) (h : Nat) (σ : TSt) (j : KR) : va_W := tW cB q σ ++ [(h, .inr (0, [.ref (q 1), .ref (q 3), .int j.1, .int j.2.1, .int j.2.2.1, .int j.2.2.2.1, .int j.2.2.2.2.1, .long j.2.2.2.2.2]))]
/-- what a first reading has found: its fault's kind and place, 0 without one -/
def rf1 (p1 : Int32) (σ : TSt) (fk fp : Int32) : Int32 × Int32 := if p1 = 0 then (fk, fp) else (if rf_sz (tf_measure σ) ≤ tf_room σ then (fk, fp) else ((5 : Int32), rf_sz (tf_tape σ)))
def rfB (k : Int32) : Bool := if k = 0 then false else true
theorem rfB_0 {k : Int32} (h : bI (rfB k) = 0) : k = 0 := by
  by_cases c : k = 0
  · exact c
  · rw [show rfB k = true from if_neg c] at h
    exact absurd h (by decide)
theorem rfB_n {k : Int32} (h : ¬ bI (rfB k) = 0) : ¬ k = 0 := fun c => h (by rw [show rfB k = false from if_pos c]; rfl)
theorem jS_jT (σ : TSt) (x : JSt) : jS (jT σ x) (jU x) = x := rfl
theorem kS_kT (σ : TSt) (x : KSt) : kS (kT σ x) (kU x) = x := rfl
theorem vTJ {p : Program} {l : Launch} {e : Env} {R : Room} {s : State} {m : MethodId} {args : Array Value} {below : List Frame} {meth : Method} {c : Code} {H : Heap} {locs : List Loc} {cells slots : Nat} {Q : State → Prop} {D : va_G} {aK aV : Nat → Nat} {A : Nat → Prop} {cc : ByteArray} {nL : Nat} {ret : Option FieldType} {pc : Nat} {ls : Array Slot} {rest : List Value} {cB cI cJ : ClassId} {ov : Option Value} {y : MethodName} {bytes : ByteArray} {maxL n index : Nat} {ret' : Option FieldType} {rm : Room} {As : List Value} {q : Nat → Nat} {h : Nat} {σ : TSt} {j : JR} {x : JSt} (G : CX p s m args meth c D (gTy cB cI cJ) aK aV A RX4 cc nL ret) (M : MV RX4 index RX1 y bytes maxL ret' n) (hM : CT l D (gTy cB cI cJ) aK aV y (wM y bytes maxL ret') rm 0 0 (.ref h :: As) (jW cB 0 (jQ q h) (jS σ j)) ov (jW cB 0 (jQ q h) x)) (hP : va_P D vwCl (tjW cB q h σ j) H) (hD : va_D A (tjW cB q h σ j)) (hS : va_S A s.heap H locs) (hrm : rm.cells = 0 ∧ rm.slots = 0 ∧ rm.frames + 1 ≤ R.frames ∧ 8 + (maxL + 11) + rm.locals ≤ R.locals) (hc : cells ≤ R.cells ∧ slots ≤ R.slots) (hA : As.length = n) (hls : ls.size = nL) (hst : (rest.map fun v => v.category).sum ≤ 8) (hdg : decode cc pc = .ok (.invokevirtual index, 3)) (k : ∀ (H1 : Heap) (locs1 : List Loc), va_P D vwCl (tjW cB q h (jT σ x) (jU x)) H1 → va_D A (tjW cB q h (jT σ x) (jU x)) → va_S A s.heap H1 locs1 → W p l e R s m args below meth c H1 locs1 cells slots Q (F0 m (pc + 3) ls (ov.toList ++ rest))) : W p l e R s m args below meth c H locs cells slots Q (F0 m pc ls (As.reverse ++ .ref h :: rest)) :=
  ct_v (wr := [(tjW cB q h σ j).getD 0 (0, .inr (0, [])), (tjW cB q h σ j).getD 3 (0, .inr (0, [])), (tjW cB q h σ j).getD 4 (0, .inr (0, []))]) G M hM hP hD hS [7, 1, 2, 5, 6] [0, 3, 4] rfl rfl rfl rfl (by decide) (ci := 1) (q0 := 7) rfl rfl rfl hrm hA hls hst hdg hc (fun H1 l1 hP hD hS => k H1 l1 (hP.sub [0, 4, 5, 1, 2, 6, 7, 3] rfl) (hD.sub [0, 4, 5, 1, 2, 6, 7, 3] rfl rfl) hS)
theorem uTJ {p : Program} {l : Launch} {e : Env} {R : Room} {s : State} {m : MethodId} {args : Array Value} {below : List Frame} {meth : Method} {c : Code} {H : Heap} {locs : List Loc} {cells slots : Nat} {Q : State → Prop} {D : va_G} {aK aV : Nat → Nat} {A : Nat → Prop} {cc : ByteArray} {nL : Nat} {ret : Option FieldType} {pc : Nat} {ls : Array Slot} {rest : List Value} {cB cI cJ : ClassId} {ov : Option Value} {y : MethodName} {bytes : ByteArray} {maxL n index : Nat} {ret' : Option FieldType} {rm : Room} {As : List Value} {q : Nat → Nat} {h : Nat} {σ : TSt} {j : JR} {x : JSt} (G : CX p s m args meth c D (gTy cB cI cJ) aK aV A RX4 cc nL ret) {xm : MethodName} (M : MU RX4 index RX1 "TextBridge$Reader" xm y bytes maxL ret' n) (hM : CT l D (gTy cB cI cJ) aK aV y (wM y bytes maxL ret') rm 0 0 (.ref h :: As) (jW cB 0 (jQ q h) (jS σ j)) ov (jW cB 0 (jQ q h) x)) (hP : va_P D vwCl (tjW cB q h σ j) H) (hD : va_D A (tjW cB q h σ j)) (hS : va_S A s.heap H locs) (hrm : rm.cells = 0 ∧ rm.slots = 0 ∧ rm.frames + 1 ≤ R.frames ∧ 8 + (maxL + 11) + rm.locals ≤ R.locals) (hc : cells ≤ R.cells ∧ slots ≤ R.slots) (hA : As.length = n) (hls : ls.size = nL) (hst : (rest.map fun v => v.category).sum ≤ 8) (hdg : decode cc pc = .ok (.invokevirtual index, 3)) (k : ∀ (H1 : Heap) (locs1 : List Loc), va_P D vwCl (tjW cB q h (jT σ x) (jU x)) H1 → va_D A (tjW cB q h (jT σ x) (jU x)) → va_S A s.heap H1 locs1 → W p l e R s m args below meth c H1 locs1 cells slots Q (F0 m (pc + 3) ls (ov.toList ++ rest))) : W p l e R s m args below meth c H locs cells slots Q (F0 m pc ls (As.reverse ++ .ref h :: rest)) :=
  ct_u (wr := [(tjW cB q h σ j).getD 0 (0, .inr (0, [])), (tjW cB q h σ j).getD 3 (0, .inr (0, [])), (tjW cB q h σ j).getD 4 (0, .inr (0, []))]) G M hM hP hD hS [7, 1, 2, 5, 6] [0, 3, 4] rfl rfl rfl rfl (by decide) (ci := 1) (q0 := 7) rfl rfl rfl hrm hA hls hst hdg hc (fun H1 l1 hP hD hS => k H1 l1 (hP.sub [0, 4, 5, 1, 2, 6, 7, 3] rfl) (hD.sub [0, 4, 5, 1, 2, 6, 7, 3] rfl rfl) hS)
theorem vTJ2 {p : Program} {l : Launch} {e : Env} {R : Room} {s : State} {m : MethodId} {args : Array Value} {below : List Frame} {meth : Method} {c : Code} {H : Heap} {locs : List Loc} {cells slots : Nat} {Q : State → Prop} {D : va_G} {aK aV : Nat → Nat} {A : Nat → Prop} {cc : ByteArray} {nL : Nat} {ret : Option FieldType} {pc : Nat} {ls : Array Slot} {rest : List Value} {cB cI cJ : ClassId} {ov : Option Value} {y : MethodName} {bytes : ByteArray} {maxL n index : Nat} {ret' : Option FieldType} {rm : Room} {As : List Value} {q : Nat → Nat} {h : Nat} {σ : TSt} {j : JR} {x : JSt} (G : CX p s m args meth c D (gTy cB cI cJ) aK aV A RX4 cc nL ret) (M : MV RX4 index RX1 y bytes maxL ret' n) (hM : CT l D (gTy cB cI cJ) aK aV y (wM y bytes maxL ret') rm 0 0 (.ref h :: As) (jW cB 6000 (jQ2 q h) (jS2 σ j)) ov (jW cB 6000 (jQ2 q h) x)) (hP : va_P D vwCl (tjW2 cB q h σ j) H) (hD : va_D A (tjW2 cB q h σ j)) (hS : va_S A s.heap H locs) (hrm : rm.cells = 0 ∧ rm.slots = 0 ∧ rm.frames + 1 ≤ R.frames ∧ 8 + (maxL + 11) + rm.locals ≤ R.locals) (hc : cells ≤ R.cells ∧ slots ≤ R.slots) (hA : As.length = n) (hls : ls.size = nL) (hst : (rest.map fun v => v.category).sum ≤ 8) (hdg : decode cc pc = .ok (.invokevirtual index, 3)) (k : ∀ (H1 : Heap) (locs1 : List Loc), va_P D vwCl (tjW2 cB q h (jT2 σ x) (jU x)) H1 → va_D A (tjW2 cB q h (jT2 σ x) (jU x)) → va_S A s.heap H1 locs1 → W p l e R s m args below meth c H1 locs1 cells slots Q (F0 m (pc + 3) ls (ov.toList ++ rest))) : W p l e R s m args below meth c H locs cells slots Q (F0 m pc ls (As.reverse ++ .ref h :: rest)) :=
  ct_v (wr := [(tjW2 cB q h σ j).getD 0 (0, .inr (0, [])), (tjW2 cB q h σ j).getD 5 (0, .inr (0, [])), (tjW2 cB q h σ j).getD 6 (0, .inr (0, []))]) G M hM hP hD hS [7, 1, 2, 3, 4] [0, 5, 6] rfl rfl rfl rfl (by decide) (ci := 1) (q0 := 7) rfl rfl rfl hrm hA hls hst hdg hc (fun H1 l1 hP hD hS => k H1 l1 (hP.sub [0, 4, 5, 6, 7, 1, 2, 3] rfl) (hD.sub [0, 4, 5, 6, 7, 1, 2, 3] rfl rfl) hS)
theorem zJ_measure {p : Program} {l : Launch} {e : Env} {R : Room} {s : State} {m : MethodId} {args : Array Value} {below : List Frame} {meth : Method} {c : Code} {H : Heap} {locs : List Loc} {cells slots : Nat} {Q : State → Prop} {D : va_G} {aK aV : Nat → Nat} {A : Nat → Prop} {cc : ByteArray} {nL : Nat} {ret : Option FieldType} {pc : Nat} {ls : Array Slot} {rest : List Value} {cB cI cJ : ClassId} {q : Nat → Nat} {h : Nat} {σ : TSt} {j : JR} (G : CX p s m args meth c D (gTy cB cI cJ) aK aV A RX4 cc nL ret) (hP : va_P D vwCl (tjW cB q h σ j) H) (hD : va_D A (tjW cB q h σ j)) (hS : va_S A s.heap H locs) (hrm : 1 ≤ R.frames ∧ 20 ≤ R.locals) (hc : cells ≤ R.cells ∧ slots ≤ R.slots) (hls : ls.size = nL) (hst : (rest.map fun v => v.category).sum ≤ 8) (hdg : decode cc pc = .ok (.invokevirtual 34, 3)) (k : ∀ (H1 : Heap) (locs1 : List Loc), va_P D vwCl (tjW cB q h σ j) H1 → va_D A (tjW cB q h σ j) → va_S A s.heap H1 locs1 → W p l e R s m args below meth c H1 locs1 cells slots Q (F0 m (pc + 3) ls (.int (rf_sz (tf_measure σ)) :: rest))) : W p l e R s m args below meth c H locs cells slots Q (F0 m pc ls (.ref (q 5) :: rest)) :=
  ct_v (As := []) (wr := [(tjW cB q h σ j).getD 0 (0, .inr (0, [])), (tjW cB q h σ j).getD 1 (0, .inr (0, [])), (tjW cB q h σ j).getD 2 (0, .inr (0, [])), (tjW cB q h σ j).getD 3 (0, .inr (0, [])), (tjW cB q h σ j).getD 4 (0, .inr (0, [])), (tjW cB q h σ j).getD 7 (0, .inr (0, []))]) G kX4_34 (c_rr_size (r := q 5) (b := q 6) (N := 0) (ρ := (rf_sz (tf_measure σ), tf_measure σ)) rfl) hP hD hS [5, 6] [0, 1, 2, 3, 4, 7] rfl rfl rfl rfl (by decide) (ci := 2) (q0 := 5) rfl rfl rfl ⟨rfl, rfl, hrm.1, hrm.2⟩ rfl hls hst hdg hc (fun H1 l1 hP hD hS => k H1 l1 (hP.sub [0, 1, 2, 3, 4, 6, 7, 5] rfl) (hD.sub [0, 1, 2, 3, 4, 6, 7, 5] rfl rfl) hS)
theorem zJ_tape {p : Program} {l : Launch} {e : Env} {R : Room} {s : State} {m : MethodId} {args : Array Value} {below : List Frame} {meth : Method} {c : Code} {H : Heap} {locs : List Loc} {cells slots : Nat} {Q : State → Prop} {D : va_G} {aK aV : Nat → Nat} {A : Nat → Prop} {cc : ByteArray} {nL : Nat} {ret : Option FieldType} {pc : Nat} {ls : Array Slot} {rest : List Value} {cB cI cJ : ClassId} {q : Nat → Nat} {h : Nat} {σ : TSt} {j : JR} (G : CX p s m args meth c D (gTy cB cI cJ) aK aV A RX4 cc nL ret) (hP : va_P D vwCl (tjW cB q h σ j) H) (hD : va_D A (tjW cB q h σ j)) (hS : va_S A s.heap H locs) (hrm : 1 ≤ R.frames ∧ 20 ≤ R.locals) (hc : cells ≤ R.cells ∧ slots ≤ R.slots) (hls : ls.size = nL) (hst : (rest.map fun v => v.category).sum ≤ 8) (hdg : decode cc pc = .ok (.invokevirtual 34, 3)) (k : ∀ (H1 : Heap) (locs1 : List Loc), va_P D vwCl (tjW cB q h σ j) H1 → va_D A (tjW cB q h σ j) → va_S A s.heap H1 locs1 → W p l e R s m args below meth c H1 locs1 cells slots Q (F0 m (pc + 3) ls (.int (rf_sz (tf_tape σ)) :: rest))) : W p l e R s m args below meth c H locs cells slots Q (F0 m pc ls (.ref (q 1) :: rest)) :=
  ct_v (As := []) (wr := [(tjW cB q h σ j).getD 0 (0, .inr (0, [])), (tjW cB q h σ j).getD 3 (0, .inr (0, [])), (tjW cB q h σ j).getD 4 (0, .inr (0, [])), (tjW cB q h σ j).getD 5 (0, .inr (0, [])), (tjW cB q h σ j).getD 6 (0, .inr (0, [])), (tjW cB q h σ j).getD 7 (0, .inr (0, []))]) G kX4_34 (c_rr_size (r := q 1) (b := q 2) (N := 4000) (ρ := (rf_sz (tf_tape σ), tf_tape σ)) rfl) hP hD hS [1, 2] [0, 3, 4, 5, 6, 7] rfl rfl rfl rfl (by decide) (ci := 2) (q0 := 1) rfl rfl rfl ⟨rfl, rfl, hrm.1, hrm.2⟩ rfl hls hst hdg hc (fun H1 l1 hP hD hS => k H1 l1 (hP.sub [0, 6, 7, 1, 2, 3, 4, 5] rfl) (hD.sub [0, 6, 7, 1, 2, 3, 4, 5] rfl rfl) hS)
abbrev rm_refj : Room := { frames := 1, cells := 0, slots := 0, locals := 22 }
set_option maxHeartbeats 4000000 in
set_option maxRecDepth 100000 in
theorem refj_31 {p : Program} {l : Launch} {e : Env} {s : State} {m : MethodId} {args : Array Value} {below : List Frame} {meth : Method} {c : Code} {D : va_G} {aK aV : Nat → Nat} {A : Nat → Prop} {cB cI cJ : ClassId} {q : Nat → Nat} {h : Nat} {H : Heap} {locs : List Loc} {ls : Array Slot} {σ : TSt} {j : JR} {p1 : Int32} (G : CX p s m args meth c D (gTy cB cI cJ) aK aV A RX4 cX4_isRefused 3 (some .boolean)) (hl : lv_has ls 3 [(0, .ref (q 0)), (1, .ref h), (2, .int p1)]) (hP : va_P D vwCl (tjW cB q h σ j) H) (hD : va_D A (tjW cB q h σ j)) (hS : va_S A s.heap H locs) : W p l e rm_refj s m args below meth c H locs 0 0 (MQ below (cQ D (gTy cB cI cJ) A (tjW cB q h (ts_faultPlace σ j.2.2.2) j) (some (.int (bI (rfB j.2.2.1))))) args s 0 0 A) (F0 m 31 ls []) := by
  obtain ⟨hx, hb, hml, hown, hT, hrt, hlk, hK, hA, hG, hE⟩ := id G
  refine lv_aload_n hx hb dX4_isRefused_31 rfl (lv_at hl 0 rfl) ?_
  refine lv_aload_n hx hb dX4_isRefused_32 rfl (lv_at hl 1 rfl) ?_
  refine uTJ (As := []) (rest := [.ref (q 0)]) (x := jS σ j) G kX4_86_X1 (c_jj_faultPlace (q := jQ q h) (N := 0) (ρ := (j.2.2.2, jS σ j)) rfl) hP hD hS ⟨rfl, rfl, Nat.le_of_ble_eq_true rfl, Nat.le_of_ble_eq_true rfl⟩ ⟨Nat.zero_le _, Nat.zero_le _⟩ rfl hl.1 (Nat.le_of_ble_eq_true rfl) dX4_isRefused_33 (fun H locs hP hD hS => ?_)
  refine W.eq (g2 := F0 m 36 ls [.int j.2.2.2, .ref (q 0)]) rfl ?_
  have hP : va_P D vwCl (tjW cB q h σ j) H := hP
  have hD : va_D A (tjW cB q h σ j) := hD
  refine va_put (ci := 3) (v := .int j.2.2.2) (ty := .int) (C := RX4) (T := TX4) (N := 6) hx hb hT i_X4 tyX4 tyX4_ok nmX4 hown hK hP hD hS 0 rfl rfl 5 (by decide) (hT _ wfl_X4_31) (fun _ h9 => h9) rfl (by decide +kernel) rfl rfl (Nat.le_of_ble_eq_true rfl) dX4_isRefused_36 (fun H locs hP hD hS => ?_)
  have hP : va_P D vwCl (tjW cB q h (ts_faultPlace σ j.2.2.2) j) H := hP
  have hD : va_D A (tjW cB q h (ts_faultPlace σ j.2.2.2) j) := hD
  refine lv_aload_n hx hb dX4_isRefused_39 rfl (lv_at hl 1 rfl) ?_
  refine uTJ (As := []) (rest := []) (x := jS (ts_faultPlace σ j.2.2.2) j) G kX4_88_X1 (c_jj_faultKind (q := jQ q h) (N := 0) (ρ := (j.2.2.1, jS (ts_faultPlace σ j.2.2.2) j)) rfl) hP hD hS ⟨rfl, rfl, Nat.le_of_ble_eq_true rfl, Nat.le_of_ble_eq_true rfl⟩ ⟨Nat.zero_le _, Nat.zero_le _⟩ rfl hl.1 (Nat.le_of_ble_eq_true rfl) dX4_isRefused_40 (fun H locs hP hD hS => ?_)
  refine W.eq (g2 := F0 m 43 ls [.int j.2.2.1]) rfl ?_
  have hP : va_P D vwCl (tjW cB q h (ts_faultPlace σ j.2.2.2) j) H := hP
  have hD : va_D A (tjW cB q h (ts_faultPlace σ j.2.2.2) j) := hD
  refine lv_if_eq (tgt := 50) hx hb dX4_isRefused_43 (by decide) (fun c1 => ?_) (fun c1 => ?_)
  · rw [show rfB j.2.2.1 = false from if_pos c1]
    refine lv_iconst (v := 0) hx hb dX4_isRefused_50 (by decide) ?_
    exact ct_iret G (bI_nar false) hP hD hS dX4_isRefused_51
  · rw [show rfB j.2.2.1 = true from if_neg c1]
    refine lv_iconst (v := 1) hx hb dX4_isRefused_46 (by decide) ?_
    refine lv_goto (tgt := 51) hx hb dX4_isRefused_47 (by decide) ?_
    exact ct_iret G (bI_nar true) hP hD hS dX4_isRefused_51
set_option maxHeartbeats 4000000 in
set_option maxRecDepth 100000 in
theorem c_refj {l : Launch} {D : va_G} {aK aV : Nat → Nat} {cB cI cJ : ClassId} {q : Nat → Nat} {h : Nat} {σ : TSt} {j : JR} {p1 : Int32} {k : Int32 × Int32} (hf : rf1 p1 σ j.2.2.1 j.2.2.2 = k) : CT l D (gTy cB cI cJ) aK aV yX4_isRefused (wM yX4_isRefused cX4_isRefused 3 (some .boolean)) rm_refj 0 0 [.ref (q 0), .ref h, .int p1] (tjW cB q h σ j) (some (.int (bI (rfB k.1)))) (tjW cB q h (ts_faultPlace σ k.2) (jX j k)) := by
  refine CT.of (by decide) rfl ?_
  intro p e s m below meth c A G hnm hP hD hS
  obtain ⟨hx, hb, hml, hown, hT, hrt, hlk, hK, hA, hG, hE⟩ := id G
  have hl := lv_entry [.ref (q 0), .ref h, .int p1] (n := 3) (Nat.le_of_ble_eq_true rfl)
  rw [lg_entry_eq]
  generalize (lg_sl [.ref (q 0), .ref h, .int p1] ++ List.replicate (3 - (lg_sl [.ref (q 0), .ref h, .int p1]).length) Slot.unset).toArray = ls at hl ⊢
  have hl : lv_has ls 3 [(0, .ref (q 0)), (1, .ref h), (2, .int p1)] := hl
  unfold rf1 at hf
  refine lv_iload_n hx hb dX4_isRefused_0 rfl (lv_at hl 2 rfl) ?_
  refine lv_if_eq (tgt := 31) hx hb dX4_isRefused_1 (by decide) (fun c1 => ?_) (fun c1 => ?_)
  · have hf := (if_pos c1).symm.trans hf
    subst hf
    exact refj_31 G hl hP hD hS
  have hf := (if_neg c1).symm.trans hf
  refine lv_aload_n hx hb dX4_isRefused_4 rfl (lv_at hl 0 rfl) ?_
  refine va_get (ci := 3) (v := .ref (q 5)) (C := RX4) (T := TX4) (N := 6) hx hb hT i_X4 hown hK hP 0 rfl rfl 2 (by decide) (hT _ wfl_X4_21) (fun _ h9 => h9) rfl dX4_isRefused_5 ?_
  refine zJ_measure (rest := []) G hP hD hS ⟨Nat.le_of_ble_eq_true rfl, Nat.le_of_ble_eq_true rfl⟩ ⟨Nat.zero_le _, Nat.zero_le _⟩ hl.1 (Nat.le_of_ble_eq_true rfl) dX4_isRefused_8 (fun H locs hP hD hS => ?_)
  refine lv_aload_n hx hb dX4_isRefused_11 rfl (lv_at hl 0 rfl) ?_
  refine va_get (ci := 3) (v := .int (tf_room σ)) (C := RX4) (T := TX4) (N := 6) hx hb hT i_X4 hown hK hP 0 rfl rfl 4 (by decide) (hT _ wfl_X4_28) (fun _ h9 => h9) rfl dX4_isRefused_12 ?_
  refine lv_icmp_le (tgt := 31) hx hb dX4_isRefused_15 (by decide) (fun c2 => ?_) (fun c2 => ?_)
  · have hf := (if_pos c2).symm.trans hf
    subst hf
    exact refj_31 G hl hP hD hS
  have hf := (if_neg c2).symm.trans hf
  refine lv_aload_n hx hb dX4_isRefused_18 rfl (lv_at hl 1 rfl) ?_
  refine lv_iconst (v := 5) hx hb dX4_isRefused_19 (by decide) ?_
  refine lv_aload_n hx hb dX4_isRefused_20 rfl (lv_at hl 0 rfl) ?_
  refine va_get (ci := 3) (v := .ref (q 1)) (C := RX4) (T := TX4) (N := 6) hx hb hT i_X4 hown hK hP 0 rfl rfl 0 (by decide) (hT _ wfl_X4_14) (fun _ h9 => h9) rfl dX4_isRefused_21 ?_
  refine zJ_tape (rest := [.int 5, .ref h]) G hP hD hS ⟨Nat.le_of_ble_eq_true rfl, Nat.le_of_ble_eq_true rfl⟩ ⟨Nat.zero_le _, Nat.zero_le _⟩ hl.1 (Nat.le_of_ble_eq_true rfl) dX4_isRefused_24 (fun H locs hP hD hS => ?_)
  refine uTJ (As := [.int 5, .int (rf_sz (tf_tape σ))]) (rest := []) (x := jS σ (j.1, j.2.1, (5 : Int32), rf_sz (tf_tape σ))) G kX4_80_X1 (c_jj_refuse (q := jQ q h) (N := 0) (ρ := (false, jS σ (j.1, j.2.1, (5 : Int32), rf_sz (tf_tape σ)))) rfl) hP hD hS ⟨rfl, rfl, Nat.le_of_ble_eq_true rfl, Nat.le_of_ble_eq_true rfl⟩ ⟨Nat.zero_le _, Nat.zero_le _⟩ rfl hl.1 (Nat.le_of_ble_eq_true rfl) dX4_isRefused_27 (fun H locs hP hD hS => ?_)
  refine W.eq (g2 := F0 m 30 ls [.int (bI false)]) rfl ?_
  refine lv_pop hx hb dX4_isRefused_30 rfl ?_
  have hP : va_P D vwCl (tjW cB q h σ (j.1, j.2.1, (5 : Int32), rf_sz (tf_tape σ))) H := hP
  have hD : va_D A (tjW cB q h σ (j.1, j.2.1, (5 : Int32), rf_sz (tf_tape σ))) := hD
  subst hf
  exact refj_31 (j := (j.1, j.2.1, (5 : Int32), rf_sz (tf_tape σ))) G hl hP hD hS
def tt_c3j (d : Nat) (υ : TSt) : Option (Int32 × TSt) := bd (rr_cutTo 6000 (0 : Int32) (tf_written υ)) (fun (w : RSt) => bd (jj_readValue 6000 d (0 : Int32) (jS2 (ts_written υ w) (tf_depth υ, (0 : Int32), (0 : Int32), (-1 : Int32)))) (fun (x : Bool × JSt) => some (rf_sz (tf_written (jT2 (ts_written υ w) x.2)), jT2 (ts_written υ w) x.2)))
def tt_c2j (d : Nat) (τ : TSt) (k : Int32 × Int32) : Option (Int32 × TSt) := if k.1 = 0 then tt_c3j d (ts_faultPlace τ k.2) else some (-k.1, ts_faultPlace τ k.2)
def tt_toCbor (d : Nat) (σ : TSt) : Option (Int32 × TSt) := bd (rr_cutTo 0 (0 : Int32) (tf_measure σ)) (fun (dr : RSt) => bd (jj_readValue 0 d (0 : Int32) (jS (ts_measure σ dr) (tf_depth σ, (0 : Int32), (0 : Int32), (-1 : Int32)))) (fun (x : Bool × JSt) => (if x.1 = true then bd (jj_readEnd 0 x.2) (fun (y : Bool × JSt) => (if y.1 = true then tt_c2j d (jT (jT (ts_measure σ dr) x.2) y.2) (rf1 (1 : Int32) (jT (jT (ts_measure σ dr) x.2) y.2) (jf_faultKind y.2) (jf_faultPlace y.2)) else tt_c2j d (jT (jT (ts_measure σ dr) x.2) y.2) (rf1 (0 : Int32) (jT (jT (ts_measure σ dr) x.2) y.2) (jf_faultKind y.2) (jf_faultPlace y.2)))) else tt_c2j d (jT (ts_measure σ dr) x.2) (rf1 (0 : Int32) (jT (ts_measure σ dr) x.2) (jf_faultKind x.2) (jf_faultPlace x.2)))))
abbrev rm_tt_toCbor (d : Nat) : Room := { frames := 32 * d + 20, cells := 2, slots := 12, locals := 800 * d + 300 }
set_option maxHeartbeats 4000000 in
set_option maxRecDepth 100000 in
theorem c_tt_toCbor {l : Launch} {D : va_G} {aK aV : Nat → Nat} {cB cI cJ : ClassId} {q : Nat → Nat} {σ : TSt} (d : Nat) {ρ : Int32 × TSt} (hf : tt_toCbor d σ = some ρ) : CT l D (gTy cB cI cJ) aK aV yX4_toCbor (wM yX4_toCbor cX4_toCbor 3 (some .int)) (rm_tt_toCbor d) 2 12 [.ref (q 0)] (tW cB q σ) (some (.int ρ.1)) (tW cB q ρ.2) := by
  refine CT.of (by decide) rfl ?_
  intro p e s m below meth c A G hnm hP hD hS
  obtain ⟨hx, hb, hml, hown, hT, hrt, hlk, hK, hA, hG, hE⟩ := id G
  have hl := lv_entry [.ref (q 0)] (n := 3) (Nat.le_of_ble_eq_true rfl)
  rw [lg_entry_eq]
  generalize (lg_sl [.ref (q 0)] ++ List.replicate (3 - (lg_sl [.ref (q 0)]).length) Slot.unset).toArray = ls at hl ⊢
  have hl : lv_has ls 3 [(0, .ref (q 0))] := hl
  unfold tt_toCbor at hf
  obtain ⟨dr, hdr, hf⟩ := bd_some hf
  refine lv_aload_n hx hb dX4_toCbor_0 rfl (lv_at hl 0 rfl) ?_
  refine gt_X4_measure G hP dX4_toCbor_1 ?_
  refine lv_iconst (v := 0) hx hb dX4_toCbor_4 (by decide) ?_
  refine vT_measure (As := [.int 0]) (rest := []) (τ := dr) G kX4_41 rfl (c_rr_cutTo hdr) hP hD hS ⟨rfl, rfl, Nat.le_trans (m := 20) (Nat.le_of_ble_eq_true rfl) (Nat.le_add_left 20 _), Nat.le_trans (m := 300) (Nat.le_of_ble_eq_true rfl) (Nat.le_add_left 300 _)⟩ ⟨Nat.zero_le _, Nat.zero_le _⟩ rfl hl.1 (Nat.le_of_ble_eq_true rfl) dX4_toCbor_5 (fun H locs hP hD hS => ?_)
  refine W.eq (g2 := F0 m 8 ls []) rfl ?_
  refine va_new (ci := 1) (fs := [.null, .null, .int 0, .int 0, .int 0, .int 0]) (C := RX1) (T := TX1) (N := 6) hx hb hT i_X1 tyX1 tyX1_ok hown (hT _ wcl_44) (hT _ wins_X1) (hT _ wini_X1) hK hP hD hS hA rfl (fun j hj => by rcases (show j = 0 ∨ j = 1 ∨ j = 2 ∨ j = 3 ∨ j = 4 ∨ j = 5 by omega) with rfl | rfl | rfl | rfl | rfl | rfl <;> rfl) (by show 0 + 1 ≤ 2; omega) (by show 0 + 6 ≤ 12; omega) dX4_toCbor_8 (fun h H hP hD hS => ?_)
  refine W.widen (k := 1) (n := 6) (by omega) (by omega) ?_
  have hP : va_P D vwCl (tW cB q (ts_measure σ dr) ++ [(h, .inr (1, [.null, .null, .int 0, .int 0, .int 0, .int 0]))]) H := hP
  have hD : va_D A (tW cB q (ts_measure σ dr) ++ [(h, .inr (1, [.null, .null, .int 0, .int 0, .int 0, .int 0]))]) := hD
  refine lv_dup hx hb dX4_toCbor_11 rfl ?_
  refine lv_aload_n hx hb dX4_toCbor_12 rfl (lv_at hl 0 rfl) ?_
  refine va_get (ci := 3) (v := .ref (q 1)) (C := RX4) (T := TX4) (N := 6) hx hb hT i_X4 hown hK hP 0 rfl rfl 0 (by decide) (hT _ wfl_X4_14) (fun _ h9 => h9) rfl dX4_toCbor_13 ?_
  refine lv_aload_n hx hb dX4_toCbor_16 rfl (lv_at hl 0 rfl) ?_
  refine va_get (ci := 3) (v := .ref (q 5)) (C := RX4) (T := TX4) (N := 6) hx hb hT i_X4 hown hK hP 0 rfl rfl 2 (by decide) (hT _ wfl_X4_21) (fun _ h9 => h9) rfl dX4_toCbor_17 ?_
  refine lv_aload_n hx hb dX4_toCbor_20 rfl (lv_at hl 0 rfl) ?_
  refine va_get (ci := 3) (v := .int (tf_depth σ)) (C := RX4) (T := TX4) (N := 6) hx hb hT i_X4 hown hK hP 0 rfl rfl 3 (by decide) (hT _ wfl_X4_24) (fun _ h9 => h9) rfl dX4_toCbor_21 ?_
  refine ct_i (As := [.ref (q 1), .ref (q 5), .int (tf_depth σ)]) (rest := [.ref h]) (wr := tW cB q (ts_measure σ dr)) G kX4_46 c_ini_j hP hD hS [7] [0, 1, 2, 3, 4, 5, 6] rfl rfl rfl rfl (by decide) ⟨rfl, rfl, Nat.le_trans (m := 20) (Nat.le_of_ble_eq_true rfl) (Nat.le_add_left 20 _), Nat.le_trans (m := 300) (Nat.le_of_ble_eq_true rfl) (Nat.le_add_left 300 _)⟩ rfl hl.1 (Nat.le_of_ble_eq_true rfl) dX4_toCbor_24 ⟨Nat.le_of_ble_eq_true rfl, Nat.le_of_ble_eq_true rfl⟩ (fun H locs hP hD hS => ?_)
  refine W.eq (g2 := F0 m 27 ls [.ref h]) rfl ?_
  have hP : va_P D vwCl (tjW cB q h (ts_measure σ dr) (tf_depth σ, (0 : Int32), (0 : Int32), (-1 : Int32))) H := hP
  have hD : va_D A (tjW cB q h (ts_measure σ dr) (tf_depth σ, (0 : Int32), (0 : Int32), (-1 : Int32))) := hD
  refine lv_astore_n (lv' := [(1, .ref h), (0, .ref (q 0))]) hx hb dX4_toCbor_27 rfl hl (by decide) rfl (fun ls hl => ?_)
  refine lv_aload_n hx hb dX4_toCbor_28 rfl (lv_at hl 0 rfl) ?_
  refine lv_iconst (v := 0) hx hb dX4_toCbor_29 (by decide) ?_
  obtain ⟨x, hx1, hf⟩ := bd_some hf
  refine vTJ (As := [.int 0]) (rest := []) (σ := ts_measure σ dr) (j := (tf_depth σ, (0 : Int32), (0 : Int32), (-1 : Int32))) (x := x.2) (rm := rm_jj_readValue d) G kX4_49 (c_jj_readValue (q := jQ q h) (N := 0) d hx1) hP hD hS ⟨rfl, rfl, (by show 32 * d + 1 ≤ 32 * d + 20; omega), (by show 8 + (3 + 11) + 800 * d ≤ 800 * d + 300; omega)⟩ ⟨Nat.le_of_ble_eq_true rfl, Nat.le_of_ble_eq_true rfl⟩ rfl hl.1 (Nat.le_of_ble_eq_true rfl) dX4_toCbor_30 (fun H locs hP hD hS => ?_)
  refine W.eq (g2 := F0 m 33 ls [.int (bI x.1)]) rfl ?_
  have fin : ∀ {τ : TSt} {j : JR} {v : Int32} {H : Heap} {locs : List Loc} {ρ : Int32 × TSt} (hP : va_P D vwCl (tjW cB q h τ j) H) (hD : va_D A (tjW cB q h τ j)) (hS : va_S A s.heap H locs) (hf : tt_c2j d τ (rf1 v τ j.2.2.1 j.2.2.2) = some ρ), W p l e (rm_tt_toCbor d) s m [Value.ref (q 0)].toArray below meth c H locs 1 6 (MQ below (cQ D (gTy cB cI cJ) A (tW cB q ρ.2) (some (.int ρ.1))) [Value.ref (q 0)].toArray s 2 12 A) (F0 m 48 ls [.int v]) := by
    intro τ j v H locs ρ hP hD hS hf
    obtain ⟨k, hk⟩ : ∃ k, rf1 v τ j.2.2.1 j.2.2.2 = k := ⟨_, rfl⟩
    rw [hk] at hf
    unfold tt_c2j at hf
    refine lv_istore_n (lv' := [(2, .int v), (1, .ref h), (0, .ref (q 0))]) hx hb dX4_toCbor_48 rfl hl (by decide) rfl (fun ls hl => ?_)
    refine lv_aload_n hx hb dX4_toCbor_49 rfl (lv_at hl 2 rfl) ?_
    refine lv_aload_n hx hb dX4_toCbor_50 rfl (lv_at hl 1 rfl) ?_
    refine lv_iload_n hx hb dX4_toCbor_51 rfl (lv_at hl 0 rfl) ?_
    refine ct_v (As := [.ref h, .int v]) (rest := []) (wr := []) G kX4_57 (c_refj hk) hP hD hS [0, 1, 2, 3, 4, 5, 6, 7] [] rfl rfl rfl rfl (fun _ h => absurd h List.not_mem_nil) (ci := 3) (q0 := 0) rfl rfl rfl ⟨rfl, rfl, Nat.le_trans (m := 20) (Nat.le_of_ble_eq_true rfl) (Nat.le_add_left 20 _), Nat.le_trans (m := 300) (Nat.le_of_ble_eq_true rfl) (Nat.le_add_left 300 _)⟩ rfl hl.1 (Nat.le_of_ble_eq_true rfl) dX4_toCbor_52 ⟨Nat.le_of_ble_eq_true rfl, Nat.le_of_ble_eq_true rfl⟩ (fun H locs hP hD hS => ?_)
    refine W.eq (g2 := F0 m 55 ls [.int (bI (rfB k.1))]) rfl ?_
    have hP : va_P D vwCl (tjW cB q h (ts_faultPlace τ k.2) (jX j k)) H := hP
    have hD : va_D A (tjW cB q h (ts_faultPlace τ k.2) (jX j k)) := hD
    refine lv_if_eq (tgt := 64) hx hb dX4_toCbor_55 (by decide) (fun c1 => ?_) (fun c1 => ?_)
    · have hf := (if_pos (rfB_0 c1)).symm.trans hf
      unfold tt_c3j at hf
      obtain ⟨w, hw, hf⟩ := bd_some hf
      have hP := hP.sub (ws' := tW cB q (ts_faultPlace τ k.2)) [0, 1, 2, 3, 4, 5, 6] rfl
      have hD := hD.sub (ws' := tW cB q (ts_faultPlace τ k.2)) [0, 1, 2, 3, 4, 5, 6] rfl rfl
      refine lv_aload_n hx hb dX4_toCbor_64 rfl (lv_at hl 2 rfl) ?_
      refine gt_X4_written G hP dX4_toCbor_65 ?_
      refine lv_iconst (v := 0) hx hb dX4_toCbor_68 (by decide) ?_
      refine vT_written (As := [.int 0]) (rest := []) (τ := w) G kX4_41 rfl (c_rr_cutTo hw) hP hD hS ⟨rfl, rfl, Nat.le_trans (m := 20) (Nat.le_of_ble_eq_true rfl) (Nat.le_add_left 20 _), Nat.le_trans (m := 300) (Nat.le_of_ble_eq_true rfl) (Nat.le_add_left 300 _)⟩ ⟨Nat.le_of_ble_eq_true rfl, Nat.le_of_ble_eq_true rfl⟩ rfl hl.1 (Nat.le_of_ble_eq_true rfl) dX4_toCbor_69 (fun H locs hP hD hS => ?_)
      refine W.eq (g2 := F0 m 72 ls []) rfl ?_
      refine va_new (ci := 1) (fs := [.null, .null, .int 0, .int 0, .int 0, .int 0]) (C := RX1) (T := TX1) (N := 6) hx hb hT i_X1 tyX1 tyX1_ok hown (hT _ wcl_44) (hT _ wins_X1) (hT _ wini_X1) hK hP hD hS hA rfl (fun j hj => by rcases (show j = 0 ∨ j = 1 ∨ j = 2 ∨ j = 3 ∨ j = 4 ∨ j = 5 by omega) with rfl | rfl | rfl | rfl | rfl | rfl <;> rfl) (by show 1 + 1 ≤ 2; omega) (by show 6 + 6 ≤ 12; omega) dX4_toCbor_72 (fun g H hP hD hS => ?_)
      refine W.widen (k := 2) (n := 12) (by omega) (by omega) ?_
      have hP : va_P D vwCl (tW cB q (ts_written (ts_faultPlace τ k.2) w) ++ [(g, .inr (1, [.null, .null, .int 0, .int 0, .int 0, .int 0]))]) H := hP
      have hD : va_D A (tW cB q (ts_written (ts_faultPlace τ k.2) w) ++ [(g, .inr (1, [.null, .null, .int 0, .int 0, .int 0, .int 0]))]) := hD
      refine lv_dup hx hb dX4_toCbor_75 rfl ?_
      refine lv_aload_n hx hb dX4_toCbor_76 rfl (lv_at hl 2 rfl) ?_
      refine va_get (ci := 3) (v := .ref (q 1)) (C := RX4) (T := TX4) (N := 6) hx hb hT i_X4 hown hK hP 0 rfl rfl 0 (by decide) (hT _ wfl_X4_14) (fun _ h9 => h9) rfl dX4_toCbor_77 ?_
      refine lv_aload_n hx hb dX4_toCbor_80 rfl (lv_at hl 2 rfl) ?_
      refine va_get (ci := 3) (v := .ref (q 3)) (C := RX4) (T := TX4) (N := 6) hx hb hT i_X4 hown hK hP 0 rfl rfl 1 (by decide) (hT _ wfl_X4_18) (fun _ h9 => h9) rfl dX4_toCbor_81 ?_
      refine lv_aload_n hx hb dX4_toCbor_84 rfl (lv_at hl 2 rfl) ?_
      refine va_get (ci := 3) (v := .int (tf_depth (ts_faultPlace τ k.2))) (C := RX4) (T := TX4) (N := 6) hx hb hT i_X4 hown hK hP 0 rfl rfl 3 (by decide) (hT _ wfl_X4_24) (fun _ h9 => h9) rfl dX4_toCbor_85 ?_
      refine ct_i (As := [.ref (q 1), .ref (q 3), .int (tf_depth (ts_faultPlace τ k.2))]) (rest := [.ref g]) (wr := tW cB q (ts_written (ts_faultPlace τ k.2) w)) G kX4_46 c_ini_j hP hD hS [7] [0, 1, 2, 3, 4, 5, 6] rfl rfl rfl rfl (by decide) ⟨rfl, rfl, Nat.le_trans (m := 20) (Nat.le_of_ble_eq_true rfl) (Nat.le_add_left 20 _), Nat.le_trans (m := 300) (Nat.le_of_ble_eq_true rfl) (Nat.le_add_left 300 _)⟩ rfl hl.1 (Nat.le_of_ble_eq_true rfl) dX4_toCbor_88 ⟨Nat.le_of_ble_eq_true rfl, Nat.le_of_ble_eq_true rfl⟩ (fun H locs hP hD hS => ?_)
      refine W.eq (g2 := F0 m 91 ls [.ref g]) rfl ?_
      have hP : va_P D vwCl (tjW2 cB q g (ts_written (ts_faultPlace τ k.2) w) (tf_depth (ts_faultPlace τ k.2), (0 : Int32), (0 : Int32), (-1 : Int32))) H := hP
      have hD : va_D A (tjW2 cB q g (ts_written (ts_faultPlace τ k.2) w) (tf_depth (ts_faultPlace τ k.2), (0 : Int32), (0 : Int32), (-1 : Int32))) := hD
      refine lv_iconst (v := 0) hx hb dX4_toCbor_91 (by decide) ?_
      obtain ⟨x, hx2, hf⟩ := bd_some hf
      refine vTJ2 (As := [.int 0]) (rest := []) (σ := ts_written (ts_faultPlace τ k.2) w) (j := (tf_depth (ts_faultPlace τ k.2), (0 : Int32), (0 : Int32), (-1 : Int32))) (x := x.2) (rm := rm_jj_readValue d) G kX4_49 (c_jj_readValue (q := jQ2 q g) (N := 6000) d hx2) hP hD hS ⟨rfl, rfl, (by show 32 * d + 1 ≤ 32 * d + 20; omega), (by show 8 + (3 + 11) + 800 * d ≤ 800 * d + 300; omega)⟩ ⟨Nat.le_of_ble_eq_true rfl, Nat.le_of_ble_eq_true rfl⟩ rfl hl.1 (Nat.le_of_ble_eq_true rfl) dX4_toCbor_92 (fun H locs hP hD hS => ?_)
      refine W.eq (g2 := F0 m 95 ls [.int (bI x.1)]) rfl ?_
      refine lv_pop hx hb dX4_toCbor_95 rfl ?_
      have hP := hP.sub (ws' := tW cB q (jT2 (ts_written (ts_faultPlace τ k.2) w) x.2)) [0, 1, 2, 3, 4, 5, 6] rfl
      have hD := hD.sub (ws' := tW cB q (jT2 (ts_written (ts_faultPlace τ k.2) w) x.2)) [0, 1, 2, 3, 4, 5, 6] rfl rfl
      refine lv_aload_n hx hb dX4_toCbor_96 rfl (lv_at hl 2 rfl) ?_
      refine gt_X4_written G hP dX4_toCbor_97 ?_
      refine vT_written (As := []) (rest := []) (τ := tf_written (jT2 (ts_written (ts_faultPlace τ k.2) w) x.2)) G kX4_34 rfl (c_rr_size (ρ := (rf_sz (tf_written (jT2 (ts_written (ts_faultPlace τ k.2) w) x.2)), tf_written (jT2 (ts_written (ts_faultPlace τ k.2) w) x.2))) rfl) hP hD hS ⟨rfl, rfl, Nat.le_trans (m := 20) (Nat.le_of_ble_eq_true rfl) (Nat.le_add_left 20 _), Nat.le_trans (m := 300) (Nat.le_of_ble_eq_true rfl) (Nat.le_add_left 300 _)⟩ ⟨Nat.le_of_ble_eq_true rfl, Nat.le_of_ble_eq_true rfl⟩ rfl hl.1 (Nat.le_of_ble_eq_true rfl) dX4_toCbor_100 (fun H locs hP hD hS => ?_)
      refine W.eq (g2 := F0 m 103 ls [.int (rf_sz (tf_written (jT2 (ts_written (ts_faultPlace τ k.2) w) x.2)))]) rfl ?_
      have hP : va_P D vwCl (tW cB q (jT2 (ts_written (ts_faultPlace τ k.2) w) x.2)) H := hP
      have hD : va_D A (tW cB q (jT2 (ts_written (ts_faultPlace τ k.2) w) x.2)) := hD
      have hf := Option.some.inj hf
      subst hf
      exact ct_iret G rfl hP hD hS dX4_toCbor_103
    · have hf := (if_neg (rfB_n c1)).symm.trans hf
      have hf := Option.some.inj hf
      subst hf
      refine lv_aload_n hx hb dX4_toCbor_58 rfl (lv_at hl 1 rfl) ?_
      refine uTJ (As := []) (rest := []) (σ := ts_faultPlace τ k.2) (j := jX j k) (x := jS (ts_faultPlace τ k.2) (jX j k)) G kX4_61 (c_jj_faultKind (q := jQ q h) (N := 0) (ρ := (k.1, jS (ts_faultPlace τ k.2) (jX j k))) rfl) hP hD hS ⟨rfl, rfl, Nat.le_trans (m := 20) (Nat.le_of_ble_eq_true rfl) (Nat.le_add_left 20 _), Nat.le_trans (m := 300) (Nat.le_of_ble_eq_true rfl) (Nat.le_add_left 300 _)⟩ ⟨Nat.le_of_ble_eq_true rfl, Nat.le_of_ble_eq_true rfl⟩ rfl hl.1 (Nat.le_of_ble_eq_true rfl) dX4_toCbor_59 (fun H locs hP hD hS => ?_)
      refine W.eq (g2 := F0 m 62 ls [.int k.1]) rfl ?_
      refine lv_ineg hx hb dX4_toCbor_62 ?_
      have hP : va_P D vwCl (tjW cB q h (ts_faultPlace τ k.2) (jX j k)) H := hP
      have hD : va_D A (tjW cB q h (ts_faultPlace τ k.2) (jX j k)) := hD
      have hP := hP.sub (ws' := tW cB q (ts_faultPlace τ k.2)) [0, 1, 2, 3, 4, 5, 6] rfl
      have hD := hD.sub (ws' := tW cB q (ts_faultPlace τ k.2)) [0, 1, 2, 3, 4, 5, 6] rfl rfl
      refine W.widen (k := 2) (n := 12) (by omega) (by omega) ?_
      exact ct_iret G rfl hP hD hS dX4_toCbor_63
  refine lv_if_eq (tgt := 47) hx hb dX4_toCbor_33 (by decide) (fun c1 => ?_) (fun c1 => ?_)
  · have hf := (if_neg (bI_0 c1)).symm.trans hf
    refine lv_iconst (v := 0) hx hb dX4_toCbor_47 (by decide) ?_
    exact fin (τ := jT (ts_measure σ dr) x.2) (j := jU x.2) hP hD hS hf
  have hf := (if_pos (bI_n c1)).symm.trans hf
  obtain ⟨y, hy1, hf⟩ := bd_some hf
  have hy2 : jj_readEnd 0 (jS (jT (ts_measure σ dr) x.2) (jU x.2)) = some y := by rw [jS_jT]; exact hy1
  refine lv_aload_n hx hb dX4_toCbor_36 rfl (lv_at hl 0 rfl) ?_
  refine vTJ (As := []) (rest := []) (σ := jT (ts_measure σ dr) x.2) (j := jU x.2) (x := y.2) G kX4_53 (c_jj_readEnd (q := jQ q h) (N := 0) hy2) hP hD hS ⟨rfl, rfl, Nat.le_trans (m := 20) (Nat.le_of_ble_eq_true rfl) (Nat.le_add_left 20 _), Nat.le_trans (m := 300) (Nat.le_of_ble_eq_true rfl) (Nat.le_add_left 300 _)⟩ ⟨Nat.le_of_ble_eq_true rfl, Nat.le_of_ble_eq_true rfl⟩ rfl hl.1 (Nat.le_of_ble_eq_true rfl) dX4_toCbor_37 (fun H locs hP hD hS => ?_)
  refine W.eq (g2 := F0 m 40 ls [.int (bI y.1)]) rfl ?_
  refine lv_if_eq (tgt := 47) hx hb dX4_toCbor_40 (by decide) (fun c2 => ?_) (fun c2 => ?_)
  · have hf := (if_neg (bI_0 c2)).symm.trans hf
    refine lv_iconst (v := 0) hx hb dX4_toCbor_47 (by decide) ?_
    exact fin (τ := jT (jT (ts_measure σ dr) x.2) y.2) (j := jU y.2) hP hD hS hf
  · have hf := (if_pos (bI_n c2)).symm.trans hf
    refine lv_iconst (v := 1) hx hb dX4_toCbor_43 (by decide) ?_
    refine lv_goto (tgt := 48) hx hb dX4_toCbor_44 (by decide) ?_
    exact fin (τ := jT (jT (ts_measure σ dr) x.2) y.2) (j := jU y.2) hP hD hS hf
theorem vTK {p : Program} {l : Launch} {e : Env} {R : Room} {s : State} {m : MethodId} {args : Array Value} {below : List Frame} {meth : Method} {c : Code} {H : Heap} {locs : List Loc} {cells slots : Nat} {Q : State → Prop} {D : va_G} {aK aV : Nat → Nat} {A : Nat → Prop} {cc : ByteArray} {nL : Nat} {ret : Option FieldType} {pc : Nat} {ls : Array Slot} {rest : List Value} {cB cI cJ : ClassId} {ov : Option Value} {y : MethodName} {bytes : ByteArray} {maxL n index : Nat} {ret' : Option FieldType} {rm : Room} {As : List Value} {q : Nat → Nat} {h : Nat} {σ : TSt} {j : KR} {x : KSt} (G : CX p s m args meth c D (gTy cB cI cJ) aK aV A RX4 cc nL ret) (M : MV RX4 index RX0 y bytes maxL ret' n) (hM : CT l D (gTy cB cI cJ) aK aV y (wM y bytes maxL ret') rm 0 0 (.ref h :: As) (kW cB 0 (jQ q h) (kS σ j)) ov (kW cB 0 (jQ q h) x)) (hP : va_P D vwCl (tkW cB q h σ j) H) (hD : va_D A (tkW cB q h σ j)) (hS : va_S A s.heap H locs) (hrm : rm.cells = 0 ∧ rm.slots = 0 ∧ rm.frames + 1 ≤ R.frames ∧ 8 + (maxL + 11) + rm.locals ≤ R.locals) (hc : cells ≤ R.cells ∧ slots ≤ R.slots) (hA : As.length = n) (hls : ls.size = nL) (hst : (rest.map fun v => v.category).sum ≤ 8) (hdg : decode cc pc = .ok (.invokevirtual index, 3)) (k : ∀ (H1 : Heap) (locs1 : List Loc), va_P D vwCl (tkW cB q h (kT σ x) (kU x)) H1 → va_D A (tkW cB q h (kT σ x) (kU x)) → va_S A s.heap H1 locs1 → W p l e R s m args below meth c H1 locs1 cells slots Q (F0 m (pc + 3) ls (ov.toList ++ rest))) : W p l e R s m args below meth c H locs cells slots Q (F0 m pc ls (As.reverse ++ .ref h :: rest)) :=
  ct_v (wr := [(tkW cB q h σ j).getD 0 (0, .inr (0, [])), (tkW cB q h σ j).getD 3 (0, .inr (0, [])), (tkW cB q h σ j).getD 4 (0, .inr (0, []))]) G M hM hP hD hS [7, 1, 2, 5, 6] [0, 3, 4] rfl rfl rfl rfl (by decide) (ci := 0) (q0 := 7) rfl rfl rfl hrm hA hls hst hdg hc (fun H1 l1 hP hD hS => k H1 l1 (hP.sub [0, 4, 5, 1, 2, 6, 7, 3] rfl) (hD.sub [0, 4, 5, 1, 2, 6, 7, 3] rfl rfl) hS)
theorem uTK {p : Program} {l : Launch} {e : Env} {R : Room} {s : State} {m : MethodId} {args : Array Value} {below : List Frame} {meth : Method} {c : Code} {H : Heap} {locs : List Loc} {cells slots : Nat} {Q : State → Prop} {D : va_G} {aK aV : Nat → Nat} {A : Nat → Prop} {cc : ByteArray} {nL : Nat} {ret : Option FieldType} {pc : Nat} {ls : Array Slot} {rest : List Value} {cB cI cJ : ClassId} {ov : Option Value} {y : MethodName} {bytes : ByteArray} {maxL n index : Nat} {ret' : Option FieldType} {rm : Room} {As : List Value} {q : Nat → Nat} {h : Nat} {σ : TSt} {j : KR} {x : KSt} (G : CX p s m args meth c D (gTy cB cI cJ) aK aV A RX4 cc nL ret) {xm : MethodName} (M : MU RX4 index RX0 "TextBridge$Reader" xm y bytes maxL ret' n) (hM : CT l D (gTy cB cI cJ) aK aV y (wM y bytes maxL ret') rm 0 0 (.ref h :: As) (kW cB 0 (jQ q h) (kS σ j)) ov (kW cB 0 (jQ q h) x)) (hP : va_P D vwCl (tkW cB q h σ j) H) (hD : va_D A (tkW cB q h σ j)) (hS : va_S A s.heap H locs) (hrm : rm.cells = 0 ∧ rm.slots = 0 ∧ rm.frames + 1 ≤ R.frames ∧ 8 + (maxL + 11) + rm.locals ≤ R.locals) (hc : cells ≤ R.cells ∧ slots ≤ R.slots) (hA : As.length = n) (hls : ls.size = nL) (hst : (rest.map fun v => v.category).sum ≤ 8) (hdg : decode cc pc = .ok (.invokevirtual index, 3)) (k : ∀ (H1 : Heap) (locs1 : List Loc), va_P D vwCl (tkW cB q h (kT σ x) (kU x)) H1 → va_D A (tkW cB q h (kT σ x) (kU x)) → va_S A s.heap H1 locs1 → W p l e R s m args below meth c H1 locs1 cells slots Q (F0 m (pc + 3) ls (ov.toList ++ rest))) : W p l e R s m args below meth c H locs cells slots Q (F0 m pc ls (As.reverse ++ .ref h :: rest)) :=
  ct_u (wr := [(tkW cB q h σ j).getD 0 (0, .inr (0, [])), (tkW cB q h σ j).getD 3 (0, .inr (0, [])), (tkW cB q h σ j).getD 4 (0, .inr (0, []))]) G M hM hP hD hS [7, 1, 2, 5, 6] [0, 3, 4] rfl rfl rfl rfl (by decide) (ci := 0) (q0 := 7) rfl rfl rfl hrm hA hls hst hdg hc (fun H1 l1 hP hD hS => k H1 l1 (hP.sub [0, 4, 5, 1, 2, 6, 7, 3] rfl) (hD.sub [0, 4, 5, 1, 2, 6, 7, 3] rfl rfl) hS)
theorem vTK2 {p : Program} {l : Launch} {e : Env} {R : Room} {s : State} {m : MethodId} {args : Array Value} {below : List Frame} {meth : Method} {c : Code} {H : Heap} {locs : List Loc} {cells slots : Nat} {Q : State → Prop} {D : va_G} {aK aV : Nat → Nat} {A : Nat → Prop} {cc : ByteArray} {nL : Nat} {ret : Option FieldType} {pc : Nat} {ls : Array Slot} {rest : List Value} {cB cI cJ : ClassId} {ov : Option Value} {y : MethodName} {bytes : ByteArray} {maxL n index : Nat} {ret' : Option FieldType} {rm : Room} {As : List Value} {q : Nat → Nat} {h : Nat} {σ : TSt} {j : KR} {x : KSt} (G : CX p s m args meth c D (gTy cB cI cJ) aK aV A RX4 cc nL ret) (M : MV RX4 index RX0 y bytes maxL ret' n) (hM : CT l D (gTy cB cI cJ) aK aV y (wM y bytes maxL ret') rm 0 0 (.ref h :: As) (kW cB 6000 (jQ2 q h) (kS2 σ j)) ov (kW cB 6000 (jQ2 q h) x)) (hP : va_P D vwCl (tkW2 cB q h σ j) H) (hD : va_D A (tkW2 cB q h σ j)) (hS : va_S A s.heap H locs) (hrm : rm.cells = 0 ∧ rm.slots = 0 ∧ rm.frames + 1 ≤ R.frames ∧ 8 + (maxL + 11) + rm.locals ≤ R.locals) (hc : cells ≤ R.cells ∧ slots ≤ R.slots) (hA : As.length = n) (hls : ls.size = nL) (hst : (rest.map fun v => v.category).sum ≤ 8) (hdg : decode cc pc = .ok (.invokevirtual index, 3)) (k : ∀ (H1 : Heap) (locs1 : List Loc), va_P D vwCl (tkW2 cB q h (kT2 σ x) (kU x)) H1 → va_D A (tkW2 cB q h (kT2 σ x) (kU x)) → va_S A s.heap H1 locs1 → W p l e R s m args below meth c H1 locs1 cells slots Q (F0 m (pc + 3) ls (ov.toList ++ rest))) : W p l e R s m args below meth c H locs cells slots Q (F0 m pc ls (As.reverse ++ .ref h :: rest)) :=
  ct_v (wr := [(tkW2 cB q h σ j).getD 0 (0, .inr (0, [])), (tkW2 cB q h σ j).getD 5 (0, .inr (0, [])), (tkW2 cB q h σ j).getD 6 (0, .inr (0, []))]) G M hM hP hD hS [7, 1, 2, 3, 4] [0, 5, 6] rfl rfl rfl rfl (by decide) (ci := 0) (q0 := 7) rfl rfl rfl hrm hA hls hst hdg hc (fun H1 l1 hP hD hS => k H1 l1 (hP.sub [0, 4, 5, 6, 7, 1, 2, 3] rfl) (hD.sub [0, 4, 5, 6, 7, 1, 2, 3] rfl rfl) hS)
theorem zK_measure {p : Program} {l : Launch} {e : Env} {R : Room} {s : State} {m : MethodId} {args : Array Value} {below : List Frame} {meth : Method} {c : Code} {H : Heap} {locs : List Loc} {cells slots : Nat} {Q : State → Prop} {D : va_G} {aK aV : Nat → Nat} {A : Nat → Prop} {cc : ByteArray} {nL : Nat} {ret : Option FieldType} {pc : Nat} {ls : Array Slot} {rest : List Value} {cB cI cJ : ClassId} {q : Nat → Nat} {h : Nat} {σ : TSt} {j : KR} (G : CX p s m args meth c D (gTy cB cI cJ) aK aV A RX4 cc nL ret) (hP : va_P D vwCl (tkW cB q h σ j) H) (hD : va_D A (tkW cB q h σ j)) (hS : va_S A s.heap H locs) (hrm : 1 ≤ R.frames ∧ 20 ≤ R.locals) (hc : cells ≤ R.cells ∧ slots ≤ R.slots) (hls : ls.size = nL) (hst : (rest.map fun v => v.category).sum ≤ 8) (hdg : decode cc pc = .ok (.invokevirtual 34, 3)) (k : ∀ (H1 : Heap) (locs1 : List Loc), va_P D vwCl (tkW cB q h σ j) H1 → va_D A (tkW cB q h σ j) → va_S A s.heap H1 locs1 → W p l e R s m args below meth c H1 locs1 cells slots Q (F0 m (pc + 3) ls (.int (rf_sz (tf_measure σ)) :: rest))) : W p l e R s m args below meth c H locs cells slots Q (F0 m pc ls (.ref (q 5) :: rest)) :=
  ct_v (As := []) (wr := [(tkW cB q h σ j).getD 0 (0, .inr (0, [])), (tkW cB q h σ j).getD 1 (0, .inr (0, [])), (tkW cB q h σ j).getD 2 (0, .inr (0, [])), (tkW cB q h σ j).getD 3 (0, .inr (0, [])), (tkW cB q h σ j).getD 4 (0, .inr (0, [])), (tkW cB q h σ j).getD 7 (0, .inr (0, []))]) G kX4_34 (c_rr_size (r := q 5) (b := q 6) (N := 0) (ρ := (rf_sz (tf_measure σ), tf_measure σ)) rfl) hP hD hS [5, 6] [0, 1, 2, 3, 4, 7] rfl rfl rfl rfl (by decide) (ci := 2) (q0 := 5) rfl rfl rfl ⟨rfl, rfl, hrm.1, hrm.2⟩ rfl hls hst hdg hc (fun H1 l1 hP hD hS => k H1 l1 (hP.sub [0, 1, 2, 3, 4, 6, 7, 5] rfl) (hD.sub [0, 1, 2, 3, 4, 6, 7, 5] rfl rfl) hS)
theorem zK_tape {p : Program} {l : Launch} {e : Env} {R : Room} {s : State} {m : MethodId} {args : Array Value} {below : List Frame} {meth : Method} {c : Code} {H : Heap} {locs : List Loc} {cells slots : Nat} {Q : State → Prop} {D : va_G} {aK aV : Nat → Nat} {A : Nat → Prop} {cc : ByteArray} {nL : Nat} {ret : Option FieldType} {pc : Nat} {ls : Array Slot} {rest : List Value} {cB cI cJ : ClassId} {q : Nat → Nat} {h : Nat} {σ : TSt} {j : KR} (G : CX p s m args meth c D (gTy cB cI cJ) aK aV A RX4 cc nL ret) (hP : va_P D vwCl (tkW cB q h σ j) H) (hD : va_D A (tkW cB q h σ j)) (hS : va_S A s.heap H locs) (hrm : 1 ≤ R.frames ∧ 20 ≤ R.locals) (hc : cells ≤ R.cells ∧ slots ≤ R.slots) (hls : ls.size = nL) (hst : (rest.map fun v => v.category).sum ≤ 8) (hdg : decode cc pc = .ok (.invokevirtual 34, 3)) (k : ∀ (H1 : Heap) (locs1 : List Loc), va_P D vwCl (tkW cB q h σ j) H1 → va_D A (tkW cB q h σ j) → va_S A s.heap H1 locs1 → W p l e R s m args below meth c H1 locs1 cells slots Q (F0 m (pc + 3) ls (.int (rf_sz (tf_tape σ)) :: rest))) : W p l e R s m args below meth c H locs cells slots Q (F0 m pc ls (.ref (q 1) :: rest)) :=
  ct_v (As := []) (wr := [(tkW cB q h σ j).getD 0 (0, .inr (0, [])), (tkW cB q h σ j).getD 3 (0, .inr (0, [])), (tkW cB q h σ j).getD 4 (0, .inr (0, [])), (tkW cB q h σ j).getD 5 (0, .inr (0, [])), (tkW cB q h σ j).getD 6 (0, .inr (0, [])), (tkW cB q h σ j).getD 7 (0, .inr (0, []))]) G kX4_34 (c_rr_size (r := q 1) (b := q 2) (N := 4000) (ρ := (rf_sz (tf_tape σ), tf_tape σ)) rfl) hP hD hS [1, 2] [0, 3, 4, 5, 6, 7] rfl rfl rfl rfl (by decide) (ci := 2) (q0 := 1) rfl rfl rfl ⟨rfl, rfl, hrm.1, hrm.2⟩ rfl hls hst hdg hc (fun H1 l1 hP hD hS => k H1 l1 (hP.sub [0, 6, 7, 1, 2, 3, 4, 5] rfl) (hD.sub [0, 6, 7, 1, 2, 3, 4, 5] rfl rfl) hS)
abbrev rm_refk : Room := { frames := 1, cells := 0, slots := 0, locals := 22 }
set_option maxHeartbeats 4000000 in
set_option maxRecDepth 100000 in
theorem refk_31 {p : Program} {l : Launch} {e : Env} {s : State} {m : MethodId} {args : Array Value} {below : List Frame} {meth : Method} {c : Code} {D : va_G} {aK aV : Nat → Nat} {A : Nat → Prop} {cB cI cJ : ClassId} {q : Nat → Nat} {h : Nat} {H : Heap} {locs : List Loc} {ls : Array Slot} {σ : TSt} {j : KR} {p1 : Int32} (G : CX p s m args meth c D (gTy cB cI cJ) aK aV A RX4 cX4_isRefused 3 (some .boolean)) (hl : lv_has ls 3 [(0, .ref (q 0)), (1, .ref h), (2, .int p1)]) (hP : va_P D vwCl (tkW cB q h σ j) H) (hD : va_D A (tkW cB q h σ j)) (hS : va_S A s.heap H locs) : W p l e rm_refk s m args below meth c H locs 0 0 (MQ below (cQ D (gTy cB cI cJ) A (tkW cB q h (ts_faultPlace σ j.2.2.2.1) j) (some (.int (bI (rfB j.2.2.1))))) args s 0 0 A) (F0 m 31 ls []) := by
  obtain ⟨hx, hb, hml, hown, hT, hrt, hlk, hK, hA, hG, hE⟩ := id G
  refine lv_aload_n hx hb dX4_isRefused_31 rfl (lv_at hl 0 rfl) ?_
  refine lv_aload_n hx hb dX4_isRefused_32 rfl (lv_at hl 1 rfl) ?_
  refine uTK (As := []) (rest := [.ref (q 0)]) (x := kS σ j) G kX4_86_X0 (c_kk_faultPlace (q := jQ q h) (N := 0) (ρ := (j.2.2.2.1, kS σ j)) rfl) hP hD hS ⟨rfl, rfl, Nat.le_of_ble_eq_true rfl, Nat.le_of_ble_eq_true rfl⟩ ⟨Nat.zero_le _, Nat.zero_le _⟩ rfl hl.1 (Nat.le_of_ble_eq_true rfl) dX4_isRefused_33 (fun H locs hP hD hS => ?_)
  refine W.eq (g2 := F0 m 36 ls [.int j.2.2.2.1, .ref (q 0)]) rfl ?_
  have hP : va_P D vwCl (tkW cB q h σ j) H := hP
  have hD : va_D A (tkW cB q h σ j) := hD
  refine va_put (ci := 3) (v := .int j.2.2.2.1) (ty := .int) (C := RX4) (T := TX4) (N := 6) hx hb hT i_X4 tyX4 tyX4_ok nmX4 hown hK hP hD hS 0 rfl rfl 5 (by decide) (hT _ wfl_X4_31) (fun _ h9 => h9) rfl (by decide +kernel) rfl rfl (Nat.le_of_ble_eq_true rfl) dX4_isRefused_36 (fun H locs hP hD hS => ?_)
  have hP : va_P D vwCl (tkW cB q h (ts_faultPlace σ j.2.2.2.1) j) H := hP
  have hD : va_D A (tkW cB q h (ts_faultPlace σ j.2.2.2.1) j) := hD
  refine lv_aload_n hx hb dX4_isRefused_39 rfl (lv_at hl 1 rfl) ?_
  refine uTK (As := []) (rest := []) (x := kS (ts_faultPlace σ j.2.2.2.1) j) G kX4_88_X0 (c_kk_faultKind (q := jQ q h) (N := 0) (ρ := (j.2.2.1, kS (ts_faultPlace σ j.2.2.2.1) j)) rfl) hP hD hS ⟨rfl, rfl, Nat.le_of_ble_eq_true rfl, Nat.le_of_ble_eq_true rfl⟩ ⟨Nat.zero_le _, Nat.zero_le _⟩ rfl hl.1 (Nat.le_of_ble_eq_true rfl) dX4_isRefused_40 (fun H locs hP hD hS => ?_)
  refine W.eq (g2 := F0 m 43 ls [.int j.2.2.1]) rfl ?_
  have hP : va_P D vwCl (tkW cB q h (ts_faultPlace σ j.2.2.2.1) j) H := hP
  have hD : va_D A (tkW cB q h (ts_faultPlace σ j.2.2.2.1) j) := hD
  refine lv_if_eq (tgt := 50) hx hb dX4_isRefused_43 (by decide) (fun c1 => ?_) (fun c1 => ?_)
  · rw [show rfB j.2.2.1 = false from if_pos c1]
    refine lv_iconst (v := 0) hx hb dX4_isRefused_50 (by decide) ?_
    exact ct_iret G (bI_nar false) hP hD hS dX4_isRefused_51
  · rw [show rfB j.2.2.1 = true from if_neg c1]
    refine lv_iconst (v := 1) hx hb dX4_isRefused_46 (by decide) ?_
    refine lv_goto (tgt := 51) hx hb dX4_isRefused_47 (by decide) ?_
    exact ct_iret G (bI_nar true) hP hD hS dX4_isRefused_51
set_option maxHeartbeats 4000000 in
set_option maxRecDepth 100000 in
theorem c_refk {l : Launch} {D : va_G} {aK aV : Nat → Nat} {cB cI cJ : ClassId} {q : Nat → Nat} {h : Nat} {σ : TSt} {j : KR} {p1 : Int32} {k : Int32 × Int32} (hf : rf1 p1 σ j.2.2.1 j.2.2.2.1 = k) : CT l D (gTy cB cI cJ) aK aV yX4_isRefused (wM yX4_isRefused cX4_isRefused 3 (some .boolean)) rm_refk 0 0 [.ref (q 0), .ref h, .int p1] (tkW cB q h σ j) (some (.int (bI (rfB k.1)))) (tkW cB q h (ts_faultPlace σ k.2) (kX j k)) := by
  refine CT.of (by decide) rfl ?_
  intro p e s m below meth c A G hnm hP hD hS
  obtain ⟨hx, hb, hml, hown, hT, hrt, hlk, hK, hA, hG, hE⟩ := id G
  have hl := lv_entry [.ref (q 0), .ref h, .int p1] (n := 3) (Nat.le_of_ble_eq_true rfl)
  rw [lg_entry_eq]
  generalize (lg_sl [.ref (q 0), .ref h, .int p1] ++ List.replicate (3 - (lg_sl [.ref (q 0), .ref h, .int p1]).length) Slot.unset).toArray = ls at hl ⊢
  have hl : lv_has ls 3 [(0, .ref (q 0)), (1, .ref h), (2, .int p1)] := hl
  unfold rf1 at hf
  refine lv_iload_n hx hb dX4_isRefused_0 rfl (lv_at hl 2 rfl) ?_
  refine lv_if_eq (tgt := 31) hx hb dX4_isRefused_1 (by decide) (fun c1 => ?_) (fun c1 => ?_)
  · have hf := (if_pos c1).symm.trans hf
    subst hf
    exact refk_31 G hl hP hD hS
  have hf := (if_neg c1).symm.trans hf
  refine lv_aload_n hx hb dX4_isRefused_4 rfl (lv_at hl 0 rfl) ?_
  refine va_get (ci := 3) (v := .ref (q 5)) (C := RX4) (T := TX4) (N := 6) hx hb hT i_X4 hown hK hP 0 rfl rfl 2 (by decide) (hT _ wfl_X4_21) (fun _ h9 => h9) rfl dX4_isRefused_5 ?_
  refine zK_measure (rest := []) G hP hD hS ⟨Nat.le_of_ble_eq_true rfl, Nat.le_of_ble_eq_true rfl⟩ ⟨Nat.zero_le _, Nat.zero_le _⟩ hl.1 (Nat.le_of_ble_eq_true rfl) dX4_isRefused_8 (fun H locs hP hD hS => ?_)
  refine lv_aload_n hx hb dX4_isRefused_11 rfl (lv_at hl 0 rfl) ?_
  refine va_get (ci := 3) (v := .int (tf_room σ)) (C := RX4) (T := TX4) (N := 6) hx hb hT i_X4 hown hK hP 0 rfl rfl 4 (by decide) (hT _ wfl_X4_28) (fun _ h9 => h9) rfl dX4_isRefused_12 ?_
  refine lv_icmp_le (tgt := 31) hx hb dX4_isRefused_15 (by decide) (fun c2 => ?_) (fun c2 => ?_)
  · have hf := (if_pos c2).symm.trans hf
    subst hf
    exact refk_31 G hl hP hD hS
  have hf := (if_neg c2).symm.trans hf
  refine lv_aload_n hx hb dX4_isRefused_18 rfl (lv_at hl 1 rfl) ?_
  refine lv_iconst (v := 5) hx hb dX4_isRefused_19 (by decide) ?_
  refine lv_aload_n hx hb dX4_isRefused_20 rfl (lv_at hl 0 rfl) ?_
  refine va_get (ci := 3) (v := .ref (q 1)) (C := RX4) (T := TX4) (N := 6) hx hb hT i_X4 hown hK hP 0 rfl rfl 0 (by decide) (hT _ wfl_X4_14) (fun _ h9 => h9) rfl dX4_isRefused_21 ?_
  refine zK_tape (rest := [.int 5, .ref h]) G hP hD hS ⟨Nat.le_of_ble_eq_true rfl, Nat.le_of_ble_eq_true rfl⟩ ⟨Nat.zero_le _, Nat.zero_le _⟩ hl.1 (Nat.le_of_ble_eq_true rfl) dX4_isRefused_24 (fun H locs hP hD hS => ?_)
  refine uTK (As := [.int 5, .int (rf_sz (tf_tape σ))]) (rest := []) (x := kS σ (j.1, j.2.1, (5 : Int32), rf_sz (tf_tape σ), j.2.2.2.2.1, j.2.2.2.2.2)) G kX4_80_X0 (c_kk_refuse (q := jQ q h) (N := 0) (ρ := (false, kS σ (j.1, j.2.1, (5 : Int32), rf_sz (tf_tape σ), j.2.2.2.2.1, j.2.2.2.2.2))) rfl) hP hD hS ⟨rfl, rfl, Nat.le_of_ble_eq_true rfl, Nat.le_of_ble_eq_true rfl⟩ ⟨Nat.zero_le _, Nat.zero_le _⟩ rfl hl.1 (Nat.le_of_ble_eq_true rfl) dX4_isRefused_27 (fun H locs hP hD hS => ?_)
  refine W.eq (g2 := F0 m 30 ls [.int (bI false)]) rfl ?_
  refine lv_pop hx hb dX4_isRefused_30 rfl ?_
  have hP : va_P D vwCl (tkW cB q h σ (j.1, j.2.1, (5 : Int32), rf_sz (tf_tape σ), j.2.2.2.2.1, j.2.2.2.2.2)) H := hP
  have hD : va_D A (tkW cB q h σ (j.1, j.2.1, (5 : Int32), rf_sz (tf_tape σ), j.2.2.2.2.1, j.2.2.2.2.2)) := hD
  subst hf
  exact refk_31 (j := (j.1, j.2.1, (5 : Int32), rf_sz (tf_tape σ), j.2.2.2.2.1, j.2.2.2.2.2)) G hl hP hD hS
def tt_c3k (d : Nat) (υ : TSt) : Option (Int32 × TSt) := bd (rr_cutTo 6000 (0 : Int32) (tf_written υ)) (fun (w : RSt) => bd (kk_readItem 6000 d (0 : Int32) (kS2 (ts_written υ w) (tf_depth υ, (0 : Int32), (0 : Int32), (-1 : Int32), (0 : Int32), (0 : Int64)))) (fun (x : Bool × KSt) => some (rf_sz (tf_written (kT2 (ts_written υ w) x.2)), kT2 (ts_written υ w) x.2)))
def tt_c2k (d : Nat) (τ : TSt) (k : Int32 × Int32) : Option (Int32 × TSt) := if k.1 = 0 then tt_c3k d (ts_faultPlace τ k.2) else some (-k.1, ts_faultPlace τ k.2)
def tt_toJson (d : Nat) (σ : TSt) : Option (Int32 × TSt) := bd (rr_cutTo 0 (0 : Int32) (tf_measure σ)) (fun (dr : RSt) => bd (kk_readItem 0 d (0 : Int32) (kS (ts_measure σ dr) (tf_depth σ, (0 : Int32), (0 : Int32), (-1 : Int32), (0 : Int32), (0 : Int64)))) (fun (x : Bool × KSt) => (if x.1 = true then bd (kk_readEnd 0 x.2) (fun (y : Bool × KSt) => (if y.1 = true then tt_c2k d (kT (kT (ts_measure σ dr) x.2) y.2) (rf1 (1 : Int32) (kT (kT (ts_measure σ dr) x.2) y.2) (kf_faultKind y.2) (kf_faultPlace y.2)) else tt_c2k d (kT (kT (ts_measure σ dr) x.2) y.2) (rf1 (0 : Int32) (kT (kT (ts_measure σ dr) x.2) y.2) (kf_faultKind y.2) (kf_faultPlace y.2)))) else tt_c2k d (kT (ts_measure σ dr) x.2) (rf1 (0 : Int32) (kT (ts_measure σ dr) x.2) (kf_faultKind x.2) (kf_faultPlace x.2)))))
abbrev rm_tt_toJson (d : Nat) : Room := { frames := 32 * d + 20, cells := 2, slots := 16, locals := 800 * d + 300 }
set_option maxHeartbeats 4000000 in
set_option maxRecDepth 100000 in
theorem c_tt_toJson {l : Launch} {D : va_G} {aK aV : Nat → Nat} {cB cI cJ : ClassId} {q : Nat → Nat} {σ : TSt} (d : Nat) {ρ : Int32 × TSt} (hf : tt_toJson d σ = some ρ) : CT l D (gTy cB cI cJ) aK aV yX4_toJson (wM yX4_toJson cX4_toJson 3 (some .int)) (rm_tt_toJson d) 2 16 [.ref (q 0)] (tW cB q σ) (some (.int ρ.1)) (tW cB q ρ.2) := by
  refine CT.of (by decide) rfl ?_
  intro p e s m below meth c A G hnm hP hD hS
  obtain ⟨hx, hb, hml, hown, hT, hrt, hlk, hK, hA, hG, hE⟩ := id G
  have hl := lv_entry [.ref (q 0)] (n := 3) (Nat.le_of_ble_eq_true rfl)
  rw [lg_entry_eq]
  generalize (lg_sl [.ref (q 0)] ++ List.replicate (3 - (lg_sl [.ref (q 0)]).length) Slot.unset).toArray = ls at hl ⊢
  have hl : lv_has ls 3 [(0, .ref (q 0))] := hl
  unfold tt_toJson at hf
  obtain ⟨dr, hdr, hf⟩ := bd_some hf
  refine lv_aload_n hx hb dX4_toJson_0 rfl (lv_at hl 0 rfl) ?_
  refine gt_X4_measure G hP dX4_toJson_1 ?_
  refine lv_iconst (v := 0) hx hb dX4_toJson_4 (by decide) ?_
  refine vT_measure (As := [.int 0]) (rest := []) (τ := dr) G kX4_41 rfl (c_rr_cutTo hdr) hP hD hS ⟨rfl, rfl, Nat.le_trans (m := 20) (Nat.le_of_ble_eq_true rfl) (Nat.le_add_left 20 _), Nat.le_trans (m := 300) (Nat.le_of_ble_eq_true rfl) (Nat.le_add_left 300 _)⟩ ⟨Nat.zero_le _, Nat.zero_le _⟩ rfl hl.1 (Nat.le_of_ble_eq_true rfl) dX4_toJson_5 (fun H locs hP hD hS => ?_)
  refine W.eq (g2 := F0 m 8 ls []) rfl ?_
  refine va_new (ci := 0) (fs := [.null, .null, .int 0, .int 0, .int 0, .int 0, .int 0, .long 0]) (C := RX0) (T := TX0) (N := 8) hx hb hT i_X0 tyX0 tyX0_ok hown (hT _ wcl_64) (hT _ wins_X0) (hT _ wini_X0) hK hP hD hS hA rfl (fun j hj => by rcases (show j = 0 ∨ j = 1 ∨ j = 2 ∨ j = 3 ∨ j = 4 ∨ j = 5 ∨ j = 6 ∨ j = 7 by omega) with rfl | rfl | rfl | rfl | rfl | rfl | rfl | rfl <;> rfl) (by show 0 + 1 ≤ 2; omega) (by show 0 + 8 ≤ 16; omega) dX4_toJson_8 (fun h H hP hD hS => ?_)
  refine W.widen (k := 1) (n := 8) (by omega) (by omega) ?_
  have hP : va_P D vwCl (tW cB q (ts_measure σ dr) ++ [(h, .inr (0, [.null, .null, .int 0, .int 0, .int 0, .int 0, .int 0, .long 0]))]) H := hP
  have hD : va_D A (tW cB q (ts_measure σ dr) ++ [(h, .inr (0, [.null, .null, .int 0, .int 0, .int 0, .int 0, .int 0, .long 0]))]) := hD
  refine lv_dup hx hb dX4_toJson_11 rfl ?_
  refine lv_aload_n hx hb dX4_toJson_12 rfl (lv_at hl 0 rfl) ?_
  refine va_get (ci := 3) (v := .ref (q 1)) (C := RX4) (T := TX4) (N := 6) hx hb hT i_X4 hown hK hP 0 rfl rfl 0 (by decide) (hT _ wfl_X4_14) (fun _ h9 => h9) rfl dX4_toJson_13 ?_
  refine lv_aload_n hx hb dX4_toJson_16 rfl (lv_at hl 0 rfl) ?_
  refine va_get (ci := 3) (v := .ref (q 5)) (C := RX4) (T := TX4) (N := 6) hx hb hT i_X4 hown hK hP 0 rfl rfl 2 (by decide) (hT _ wfl_X4_21) (fun _ h9 => h9) rfl dX4_toJson_17 ?_
  refine lv_aload_n hx hb dX4_toJson_20 rfl (lv_at hl 0 rfl) ?_
  refine va_get (ci := 3) (v := .int (tf_depth σ)) (C := RX4) (T := TX4) (N := 6) hx hb hT i_X4 hown hK hP 0 rfl rfl 3 (by decide) (hT _ wfl_X4_24) (fun _ h9 => h9) rfl dX4_toJson_21 ?_
  refine ct_i (As := [.ref (q 1), .ref (q 5), .int (tf_depth σ)]) (rest := [.ref h]) (wr := tW cB q (ts_measure σ dr)) G kX4_66 c_ini_k hP hD hS [7] [0, 1, 2, 3, 4, 5, 6] rfl rfl rfl rfl (by decide) ⟨rfl, rfl, Nat.le_trans (m := 20) (Nat.le_of_ble_eq_true rfl) (Nat.le_add_left 20 _), Nat.le_trans (m := 300) (Nat.le_of_ble_eq_true rfl) (Nat.le_add_left 300 _)⟩ rfl hl.1 (Nat.le_of_ble_eq_true rfl) dX4_toJson_24 ⟨Nat.le_of_ble_eq_true rfl, Nat.le_of_ble_eq_true rfl⟩ (fun H locs hP hD hS => ?_)
  refine W.eq (g2 := F0 m 27 ls [.ref h]) rfl ?_
  have hP : va_P D vwCl (tkW cB q h (ts_measure σ dr) (tf_depth σ, (0 : Int32), (0 : Int32), (-1 : Int32), (0 : Int32), (0 : Int64))) H := hP
  have hD : va_D A (tkW cB q h (ts_measure σ dr) (tf_depth σ, (0 : Int32), (0 : Int32), (-1 : Int32), (0 : Int32), (0 : Int64))) := hD
  refine lv_astore_n (lv' := [(1, .ref h), (0, .ref (q 0))]) hx hb dX4_toJson_27 rfl hl (by decide) rfl (fun ls hl => ?_)
  refine lv_aload_n hx hb dX4_toJson_28 rfl (lv_at hl 0 rfl) ?_
  refine lv_iconst (v := 0) hx hb dX4_toJson_29 (by decide) ?_
  obtain ⟨x, hx1, hf⟩ := bd_some hf
  refine vTK (As := [.int 0]) (rest := []) (σ := ts_measure σ dr) (j := (tf_depth σ, (0 : Int32), (0 : Int32), (-1 : Int32), (0 : Int32), (0 : Int64))) (x := x.2) (rm := rm_kk_readItem d) G kX4_67 (c_kk_readItem (q := jQ q h) (N := 0) d hx1) hP hD hS ⟨rfl, rfl, (by show 32 * d + 1 ≤ 32 * d + 20; omega), (by show 8 + (3 + 11) + 800 * d ≤ 800 * d + 300; omega)⟩ ⟨Nat.le_of_ble_eq_true rfl, Nat.le_of_ble_eq_true rfl⟩ rfl hl.1 (Nat.le_of_ble_eq_true rfl) dX4_toJson_30 (fun H locs hP hD hS => ?_)
  refine W.eq (g2 := F0 m 33 ls [.int (bI x.1)]) rfl ?_
  have fin : ∀ {τ : TSt} {j : KR} {v : Int32} {H : Heap} {locs : List Loc} {ρ : Int32 × TSt} (hP : va_P D vwCl (tkW cB q h τ j) H) (hD : va_D A (tkW cB q h τ j)) (hS : va_S A s.heap H locs) (hf : tt_c2k d τ (rf1 v τ j.2.2.1 j.2.2.2.1) = some ρ), W p l e (rm_tt_toJson d) s m [Value.ref (q 0)].toArray below meth c H locs 1 8 (MQ below (cQ D (gTy cB cI cJ) A (tW cB q ρ.2) (some (.int ρ.1))) [Value.ref (q 0)].toArray s 2 16 A) (F0 m 48 ls [.int v]) := by
    intro τ j v H locs ρ hP hD hS hf
    obtain ⟨k, hk⟩ : ∃ k, rf1 v τ j.2.2.1 j.2.2.2.1 = k := ⟨_, rfl⟩
    rw [hk] at hf
    unfold tt_c2k at hf
    refine lv_istore_n (lv' := [(2, .int v), (1, .ref h), (0, .ref (q 0))]) hx hb dX4_toJson_48 rfl hl (by decide) rfl (fun ls hl => ?_)
    refine lv_aload_n hx hb dX4_toJson_49 rfl (lv_at hl 2 rfl) ?_
    refine lv_aload_n hx hb dX4_toJson_50 rfl (lv_at hl 1 rfl) ?_
    refine lv_iload_n hx hb dX4_toJson_51 rfl (lv_at hl 0 rfl) ?_
    refine ct_v (As := [.ref h, .int v]) (rest := []) (wr := []) G kX4_57 (c_refk hk) hP hD hS [0, 1, 2, 3, 4, 5, 6, 7] [] rfl rfl rfl rfl (fun _ h => absurd h List.not_mem_nil) (ci := 3) (q0 := 0) rfl rfl rfl ⟨rfl, rfl, Nat.le_trans (m := 20) (Nat.le_of_ble_eq_true rfl) (Nat.le_add_left 20 _), Nat.le_trans (m := 300) (Nat.le_of_ble_eq_true rfl) (Nat.le_add_left 300 _)⟩ rfl hl.1 (Nat.le_of_ble_eq_true rfl) dX4_toJson_52 ⟨Nat.le_of_ble_eq_true rfl, Nat.le_of_ble_eq_true rfl⟩ (fun H locs hP hD hS => ?_)
    refine W.eq (g2 := F0 m 55 ls [.int (bI (rfB k.1))]) rfl ?_
    have hP : va_P D vwCl (tkW cB q h (ts_faultPlace τ k.2) (kX j k)) H := hP
    have hD : va_D A (tkW cB q h (ts_faultPlace τ k.2) (kX j k)) := hD
    refine lv_if_eq (tgt := 64) hx hb dX4_toJson_55 (by decide) (fun c1 => ?_) (fun c1 => ?_)
    · have hf := (if_pos (rfB_0 c1)).symm.trans hf
      unfold tt_c3k at hf
      obtain ⟨w, hw, hf⟩ := bd_some hf
      have hP := hP.sub (ws' := tW cB q (ts_faultPlace τ k.2)) [0, 1, 2, 3, 4, 5, 6] rfl
      have hD := hD.sub (ws' := tW cB q (ts_faultPlace τ k.2)) [0, 1, 2, 3, 4, 5, 6] rfl rfl
      refine lv_aload_n hx hb dX4_toJson_64 rfl (lv_at hl 2 rfl) ?_
      refine gt_X4_written G hP dX4_toJson_65 ?_
      refine lv_iconst (v := 0) hx hb dX4_toJson_68 (by decide) ?_
      refine vT_written (As := [.int 0]) (rest := []) (τ := w) G kX4_41 rfl (c_rr_cutTo hw) hP hD hS ⟨rfl, rfl, Nat.le_trans (m := 20) (Nat.le_of_ble_eq_true rfl) (Nat.le_add_left 20 _), Nat.le_trans (m := 300) (Nat.le_of_ble_eq_true rfl) (Nat.le_add_left 300 _)⟩ ⟨Nat.le_of_ble_eq_true rfl, Nat.le_of_ble_eq_true rfl⟩ rfl hl.1 (Nat.le_of_ble_eq_true rfl) dX4_toJson_69 (fun H locs hP hD hS => ?_)
      refine W.eq (g2 := F0 m 72 ls []) rfl ?_
      refine va_new (ci := 0) (fs := [.null, .null, .int 0, .int 0, .int 0, .int 0, .int 0, .long 0]) (C := RX0) (T := TX0) (N := 8) hx hb hT i_X0 tyX0 tyX0_ok hown (hT _ wcl_64) (hT _ wins_X0) (hT _ wini_X0) hK hP hD hS hA rfl (fun j hj => by rcases (show j = 0 ∨ j = 1 ∨ j = 2 ∨ j = 3 ∨ j = 4 ∨ j = 5 ∨ j = 6 ∨ j = 7 by omega) with rfl | rfl | rfl | rfl | rfl | rfl | rfl | rfl <;> rfl) (by show 1 + 1 ≤ 2; omega) (by show 8 + 8 ≤ 16; omega) dX4_toJson_72 (fun g H hP hD hS => ?_)
      refine W.widen (k := 2) (n := 16) (by omega) (by omega) ?_
      have hP : va_P D vwCl (tW cB q (ts_written (ts_faultPlace τ k.2) w) ++ [(g, .inr (0, [.null, .null, .int 0, .int 0, .int 0, .int 0, .int 0, .long 0]))]) H := hP
      have hD : va_D A (tW cB q (ts_written (ts_faultPlace τ k.2) w) ++ [(g, .inr (0, [.null, .null, .int 0, .int 0, .int 0, .int 0, .int 0, .long 0]))]) := hD
      refine lv_dup hx hb dX4_toJson_75 rfl ?_
      refine lv_aload_n hx hb dX4_toJson_76 rfl (lv_at hl 2 rfl) ?_
      refine va_get (ci := 3) (v := .ref (q 1)) (C := RX4) (T := TX4) (N := 6) hx hb hT i_X4 hown hK hP 0 rfl rfl 0 (by decide) (hT _ wfl_X4_14) (fun _ h9 => h9) rfl dX4_toJson_77 ?_
      refine lv_aload_n hx hb dX4_toJson_80 rfl (lv_at hl 2 rfl) ?_
      refine va_get (ci := 3) (v := .ref (q 3)) (C := RX4) (T := TX4) (N := 6) hx hb hT i_X4 hown hK hP 0 rfl rfl 1 (by decide) (hT _ wfl_X4_18) (fun _ h9 => h9) rfl dX4_toJson_81 ?_
      refine lv_aload_n hx hb dX4_toJson_84 rfl (lv_at hl 2 rfl) ?_
      refine va_get (ci := 3) (v := .int (tf_depth (ts_faultPlace τ k.2))) (C := RX4) (T := TX4) (N := 6) hx hb hT i_X4 hown hK hP 0 rfl rfl 3 (by decide) (hT _ wfl_X4_24) (fun _ h9 => h9) rfl dX4_toJson_85 ?_
      refine ct_i (As := [.ref (q 1), .ref (q 3), .int (tf_depth (ts_faultPlace τ k.2))]) (rest := [.ref g]) (wr := tW cB q (ts_written (ts_faultPlace τ k.2) w)) G kX4_66 c_ini_k hP hD hS [7] [0, 1, 2, 3, 4, 5, 6] rfl rfl rfl rfl (by decide) ⟨rfl, rfl, Nat.le_trans (m := 20) (Nat.le_of_ble_eq_true rfl) (Nat.le_add_left 20 _), Nat.le_trans (m := 300) (Nat.le_of_ble_eq_true rfl) (Nat.le_add_left 300 _)⟩ rfl hl.1 (Nat.le_of_ble_eq_true rfl) dX4_toJson_88 ⟨Nat.le_of_ble_eq_true rfl, Nat.le_of_ble_eq_true rfl⟩ (fun H locs hP hD hS => ?_)
      refine W.eq (g2 := F0 m 91 ls [.ref g]) rfl ?_
      have hP : va_P D vwCl (tkW2 cB q g (ts_written (ts_faultPlace τ k.2) w) (tf_depth (ts_faultPlace τ k.2), (0 : Int32), (0 : Int32), (-1 : Int32), (0 : Int32), (0 : Int64))) H := hP
      have hD : va_D A (tkW2 cB q g (ts_written (ts_faultPlace τ k.2) w) (tf_depth (ts_faultPlace τ k.2), (0 : Int32), (0 : Int32), (-1 : Int32), (0 : Int32), (0 : Int64))) := hD
      refine lv_iconst (v := 0) hx hb dX4_toJson_91 (by decide) ?_
      obtain ⟨x, hx2, hf⟩ := bd_some hf
      refine vTK2 (As := [.int 0]) (rest := []) (σ := ts_written (ts_faultPlace τ k.2) w) (j := (tf_depth (ts_faultPlace τ k.2), (0 : Int32), (0 : Int32), (-1 : Int32), (0 : Int32), (0 : Int64))) (x := x.2) (rm := rm_kk_readItem d) G kX4_67 (c_kk_readItem (q := jQ2 q g) (N := 6000) d hx2) hP hD hS ⟨rfl, rfl, (by show 32 * d + 1 ≤ 32 * d + 20; omega), (by show 8 + (3 + 11) + 800 * d ≤ 800 * d + 300; omega)⟩ ⟨Nat.le_of_ble_eq_true rfl, Nat.le_of_ble_eq_true rfl⟩ rfl hl.1 (Nat.le_of_ble_eq_true rfl) dX4_toJson_92 (fun H locs hP hD hS => ?_)
      refine W.eq (g2 := F0 m 95 ls [.int (bI x.1)]) rfl ?_
      refine lv_pop hx hb dX4_toJson_95 rfl ?_
      have hP := hP.sub (ws' := tW cB q (kT2 (ts_written (ts_faultPlace τ k.2) w) x.2)) [0, 1, 2, 3, 4, 5, 6] rfl
      have hD := hD.sub (ws' := tW cB q (kT2 (ts_written (ts_faultPlace τ k.2) w) x.2)) [0, 1, 2, 3, 4, 5, 6] rfl rfl
      refine lv_aload_n hx hb dX4_toJson_96 rfl (lv_at hl 2 rfl) ?_
      refine gt_X4_written G hP dX4_toJson_97 ?_
      refine vT_written (As := []) (rest := []) (τ := tf_written (kT2 (ts_written (ts_faultPlace τ k.2) w) x.2)) G kX4_34 rfl (c_rr_size (ρ := (rf_sz (tf_written (kT2 (ts_written (ts_faultPlace τ k.2) w) x.2)), tf_written (kT2 (ts_written (ts_faultPlace τ k.2) w) x.2))) rfl) hP hD hS ⟨rfl, rfl, Nat.le_trans (m := 20) (Nat.le_of_ble_eq_true rfl) (Nat.le_add_left 20 _), Nat.le_trans (m := 300) (Nat.le_of_ble_eq_true rfl) (Nat.le_add_left 300 _)⟩ ⟨Nat.le_of_ble_eq_true rfl, Nat.le_of_ble_eq_true rfl⟩ rfl hl.1 (Nat.le_of_ble_eq_true rfl) dX4_toJson_100 (fun H locs hP hD hS => ?_)
      refine W.eq (g2 := F0 m 103 ls [.int (rf_sz (tf_written (kT2 (ts_written (ts_faultPlace τ k.2) w) x.2)))]) rfl ?_
      have hP : va_P D vwCl (tW cB q (kT2 (ts_written (ts_faultPlace τ k.2) w) x.2)) H := hP
      have hD : va_D A (tW cB q (kT2 (ts_written (ts_faultPlace τ k.2) w) x.2)) := hD
      have hf := Option.some.inj hf
      subst hf
      exact ct_iret G rfl hP hD hS dX4_toJson_103
    · have hf := (if_neg (rfB_n c1)).symm.trans hf
      have hf := Option.some.inj hf
      subst hf
      refine lv_aload_n hx hb dX4_toJson_58 rfl (lv_at hl 1 rfl) ?_
      refine uTK (As := []) (rest := []) (σ := ts_faultPlace τ k.2) (j := kX j k) (x := kS (ts_faultPlace τ k.2) (kX j k)) G kX4_71 (c_kk_faultKind (q := jQ q h) (N := 0) (ρ := (k.1, kS (ts_faultPlace τ k.2) (kX j k))) rfl) hP hD hS ⟨rfl, rfl, Nat.le_trans (m := 20) (Nat.le_of_ble_eq_true rfl) (Nat.le_add_left 20 _), Nat.le_trans (m := 300) (Nat.le_of_ble_eq_true rfl) (Nat.le_add_left 300 _)⟩ ⟨Nat.le_of_ble_eq_true rfl, Nat.le_of_ble_eq_true rfl⟩ rfl hl.1 (Nat.le_of_ble_eq_true rfl) dX4_toJson_59 (fun H locs hP hD hS => ?_)
      refine W.eq (g2 := F0 m 62 ls [.int k.1]) rfl ?_
      refine lv_ineg hx hb dX4_toJson_62 ?_
      have hP : va_P D vwCl (tkW cB q h (ts_faultPlace τ k.2) (kX j k)) H := hP
      have hD : va_D A (tkW cB q h (ts_faultPlace τ k.2) (kX j k)) := hD
      have hP := hP.sub (ws' := tW cB q (ts_faultPlace τ k.2)) [0, 1, 2, 3, 4, 5, 6] rfl
      have hD := hD.sub (ws' := tW cB q (ts_faultPlace τ k.2)) [0, 1, 2, 3, 4, 5, 6] rfl rfl
      refine W.widen (k := 2) (n := 16) (by omega) (by omega) ?_
      exact ct_iret G rfl hP hD hS dX4_toJson_63
  refine lv_if_eq (tgt := 47) hx hb dX4_toJson_33 (by decide) (fun c1 => ?_) (fun c1 => ?_)
  · have hf := (if_neg (bI_0 c1)).symm.trans hf
    refine lv_iconst (v := 0) hx hb dX4_toJson_47 (by decide) ?_
    exact fin (τ := kT (ts_measure σ dr) x.2) (j := kU x.2) hP hD hS hf
  have hf := (if_pos (bI_n c1)).symm.trans hf
  obtain ⟨y, hy1, hf⟩ := bd_some hf
  have hy2 : kk_readEnd 0 (kS (kT (ts_measure σ dr) x.2) (kU x.2)) = some y := by rw [kS_kT]; exact hy1
  refine lv_aload_n hx hb dX4_toJson_36 rfl (lv_at hl 0 rfl) ?_
  refine vTK (As := []) (rest := []) (σ := kT (ts_measure σ dr) x.2) (j := kU x.2) (x := y.2) G kX4_70 (c_kk_readEnd (q := jQ q h) (N := 0) hy2) hP hD hS ⟨rfl, rfl, Nat.le_trans (m := 20) (Nat.le_of_ble_eq_true rfl) (Nat.le_add_left 20 _), Nat.le_trans (m := 300) (Nat.le_of_ble_eq_true rfl) (Nat.le_add_left 300 _)⟩ ⟨Nat.le_of_ble_eq_true rfl, Nat.le_of_ble_eq_true rfl⟩ rfl hl.1 (Nat.le_of_ble_eq_true rfl) dX4_toJson_37 (fun H locs hP hD hS => ?_)
  refine W.eq (g2 := F0 m 40 ls [.int (bI y.1)]) rfl ?_
  refine lv_if_eq (tgt := 47) hx hb dX4_toJson_40 (by decide) (fun c2 => ?_) (fun c2 => ?_)
  · have hf := (if_neg (bI_0 c2)).symm.trans hf
    refine lv_iconst (v := 0) hx hb dX4_toJson_47 (by decide) ?_
    exact fin (τ := kT (kT (ts_measure σ dr) x.2) y.2) (j := kU y.2) hP hD hS hf
  · have hf := (if_pos (bI_n c2)).symm.trans hf
    refine lv_iconst (v := 1) hx hb dX4_toJson_43 (by decide) ?_
    refine lv_goto (tgt := 48) hx hb dX4_toJson_44 (by decide) ?_
    exact fin (τ := kT (kT (ts_measure σ dr) x.2) y.2) (j := kU y.2) hP hD hS hf
