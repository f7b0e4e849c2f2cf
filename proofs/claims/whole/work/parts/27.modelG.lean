/-! THE REFERENCE: writing (printed by program wip/gen) -/
def mm_putsLetters_b2 (k2 : Int32 → Int32 → MSt → Option (MSt)) (a1 : Int32) (a2 : Int32) (σ : MSt) : Option (MSt) := ck a1 4200 ((if (Int64.toInt32 ((mf_numbers σ) (a1).toNatClampNeg)) ≤ a2 then some σ else ck a1 4200 (ck (((mf_places σ) (a1).toNatClampNeg) + a2) 8200 (bd (mm_put ((mf_letters σ) ((((mf_places σ) (a1).toNatClampNeg) + a2)).toNatClampNeg) σ) (fun (x5 : MSt) => lt (a2 + (1 : Int32)) (fun (v6 : Int32) => k2 a1 v6 x5))))))
def mm_putsLetters_L2 : Nat → Int32 → Int32 → MSt → Option (MSt)
  | 0, _, _, _ => none
  | n + 1, a1, a2, σ => mm_putsLetters_b2 (mm_putsLetters_L2 n) a1 a2 σ
def mm_putsLetters (p0 : Int32) (σ : MSt) : Option (MSt) := mm_putsLetters_L2 FU p0 (0 : Int32) σ
abbrev rm_mm_putsLetters : Room := { frames := 1, cells := 0, slots := 0, locals := 21 }
set_option maxHeartbeats 4000000 in
set_option maxRecDepth 100000 in
theorem mm_putsLetters_t2 {p : Program} {l : Launch} {e : Env} {s : State} {m : MethodId} {args : Array Value} {below : List Frame} {meth : Method} {c : Code} {D : va_G} {aK aV : Nat → Nat} {A : Nat → Prop} {cB cI cJ : ClassId} {q : Nat → Nat} {H : Heap} {locs : List Loc} {ls : Array Slot} {ρ : MSt} {k2 : Int32 → Int32 → MSt → Option (MSt)} {a1 : Int32} {a2 : Int32} {σ : MSt} (G : CX p s m args meth c D (gTy cB cI cJ) aK aV A RX5 cX5_putsLetters 3 none) (hk2 : ∀ (a1 : Int32) (a2 : Int32) (σ : MSt) (H : Heap) (locs : List Loc) (ls : Array Slot), lv_has ls 3 [(0, .ref (q 0)), (1, .int a1), (2, .int a2)] → va_P D vwCl (mW cB cI cJ q σ) H → va_D A (mW cB cI cJ q σ) → va_S A s.heap H locs → k2 a1 a2 σ = some ρ → W p l e (rm_mm_putsLetters) s m args below meth c H locs 0 0 (MQ below (cQ D (gTy cB cI cJ) A (mW cB cI cJ q ρ) none) args s 0 0 A) (F0 m 2 ls [])) (hl : lv_has ls 3 [(0, .ref (q 0)), (1, .int a1), (2, .int a2)]) (hP : va_P D vwCl (mW cB cI cJ q σ) H) (hD : va_D A (mW cB cI cJ q σ)) (hS : va_S A s.heap H locs) (hf : mm_putsLetters_b2 k2 a1 a2 σ = some ρ) : W p l e (rm_mm_putsLetters) s m args below meth c H locs 0 0 (MQ below (cQ D (gTy cB cI cJ) A (mW cB cI cJ q ρ) none) args s 0 0 A) (F0 m 2 ls []) := by
  unfold mm_putsLetters_b2 at hf
  obtain ⟨hx, hb, hml, hown, hT, hrt, hlk, hK, hA, hG, hE⟩ := id G
  refine lv_iload_n hx hb dX5_putsLetters_2 rfl (lv_at hl 2 rfl) ?_
  refine lv_aload_n hx hb dX5_putsLetters_3 rfl (lv_at hl 0 rfl) ?_
  refine gm_X5_numbers G hP dX5_putsLetters_4 ?_
  refine lv_iload_n hx hb dX5_putsLetters_7 rfl (lv_at hl 1 rfl) ?_
  obtain ⟨hi1, hf⟩ := ck_some hf
  refine lm_numbers (f := (mf_numbers σ)) G hP hi1 dX5_putsLetters_8 rfl ?_
  refine lv_l2i (v := (Int64.toInt32 ((mf_numbers σ) (a1).toNatClampNeg))) hx hb dX5_putsLetters_9 rfl ?_
  refine lv_icmp_ge (tgt := 36) hx hb dX5_putsLetters_10 (by decide) (fun c2 => ?_) (fun c2 => ?_)
  · have hf := (if_pos c2).symm.trans hf
    cases hf
    exact ct_vret G hP hD hS dX5_putsLetters_36
  · have hf := (if_neg c2).symm.trans hf
    refine lv_aload_n hx hb dX5_putsLetters_13 rfl (lv_at hl 0 rfl) ?_
    refine lv_aload_n hx hb dX5_putsLetters_14 rfl (lv_at hl 0 rfl) ?_
    refine gm_X5_letters G hP dX5_putsLetters_15 ?_
    refine lv_aload_n hx hb dX5_putsLetters_18 rfl (lv_at hl 0 rfl) ?_
    refine gm_X5_places G hP dX5_putsLetters_19 ?_
    refine lv_iload_n hx hb dX5_putsLetters_22 rfl (lv_at hl 1 rfl) ?_
    obtain ⟨hi3, hf⟩ := ck_some hf
    refine lm_places (f := (mf_places σ)) G hP hi3 dX5_putsLetters_23 rfl ?_
    refine lv_iload_n hx hb dX5_putsLetters_24 rfl (lv_at hl 2 rfl) ?_
    refine lv_iadd hx hb dX5_putsLetters_25 ?_
    obtain ⟨hi4, hf⟩ := ck_some hf
    refine lm_letters (f := (mf_letters σ)) G hP hi4 dX5_putsLetters_26 rfl ?_
    obtain ⟨x5, hx5, hf⟩ := bd_some hf
    refine vM (As := [.int ((mf_letters σ) ((((mf_places σ) (a1).toNatClampNeg) + a2)).toNatClampNeg)]) (rest := []) G kX5_219 (c_mm_put hx5) hP hD hS ⟨rfl, rfl, Nat.le_of_ble_eq_true rfl, Nat.le_of_ble_eq_true rfl⟩ ⟨Nat.zero_le _, Nat.zero_le _⟩ rfl hl.1 (Nat.le_of_ble_eq_true rfl) dX5_putsLetters_27 (fun H locs hP hD hS => ?_)
    refine W.eq (g2 := F0 m 30 ls []) rfl ?_
    obtain ⟨v6, ev6⟩ : ∃ y : Int32, y = (a2 + (1 : Int32)) := ⟨_, rfl⟩
    have hf := lt_eq hf ev6
    refine lv_iinc (v := v6) (lv' := [(2, .int v6), (0, .ref (q 0)), (1, .int a1)]) hx hb dX5_putsLetters_30 hl (k := 2) rfl (by rw [ev6]; rfl) (by decide) rfl (fun ls hl => ?_)
    refine lv_goto (tgt := 2) hx hb dX5_putsLetters_33 (by decide) ?_
    exact W.eq (g2 := F0 m 2 ls []) rfl (hk2 _ _ _ _ _ _ (lv_sub hl [1, 2, 0] rfl) hP hD hS hf)
set_option maxHeartbeats 4000000 in
set_option maxRecDepth 100000 in
theorem mm_putsLetters_u2 {p : Program} {l : Launch} {e : Env} {s : State} {m : MethodId} {args : Array Value} {below : List Frame} {meth : Method} {c : Code} {D : va_G} {aK aV : Nat → Nat} {A : Nat → Prop} {cB cI cJ : ClassId} {q : Nat → Nat} {ρ : MSt} (G : CX p s m args meth c D (gTy cB cI cJ) aK aV A RX5 cX5_putsLetters 3 none) : ∀ (n : Nat) {a1 : Int32} {a2 : Int32} {σ : MSt} {H : Heap} {locs : List Loc} {ls : Array Slot} (hl : lv_has ls 3 [(0, .ref (q 0)), (1, .int a1), (2, .int a2)]) (hP : va_P D vwCl (mW cB cI cJ q σ) H) (hD : va_D A (mW cB cI cJ q σ)) (hS : va_S A s.heap H locs) (hf : mm_putsLetters_L2 n a1 a2 σ = some ρ), W p l e (rm_mm_putsLetters) s m args below meth c H locs 0 0 (MQ below (cQ D (gTy cB cI cJ) A (mW cB cI cJ q ρ) none) args s 0 0 A) (F0 m 2 ls []) := by
  intro n
  induction n with
  | zero =>
    intros
    rename_i hf
    cases hf
  | succ n ih =>
    intro a1 a2 σ H locs ls hl hP hD hS hf
    exact mm_putsLetters_t2 G (fun _ _ _ H locs ls hl hP hD hS hf => ih hl hP hD hS hf) hl hP hD hS hf
set_option maxHeartbeats 4000000 in
set_option maxRecDepth 100000 in
theorem mm_putsLetters_t0e {p : Program} {l : Launch} {e : Env} {s : State} {m : MethodId} {args : Array Value} {below : List Frame} {meth : Method} {c : Code} {D : va_G} {aK aV : Nat → Nat} {A : Nat → Prop} {cB cI cJ : ClassId} {q : Nat → Nat} {H : Heap} {locs : List Loc} {ls : Array Slot} {ρ : MSt} {p0 : Int32} {σ : MSt} (G : CX p s m args meth c D (gTy cB cI cJ) aK aV A RX5 cX5_putsLetters 3 none) (hl : lv_has ls 3 [(0, .ref (q 0)), (1, .int p0)]) (hP : va_P D vwCl (mW cB cI cJ q σ) H) (hD : va_D A (mW cB cI cJ q σ)) (hS : va_S A s.heap H locs) (hf : mm_putsLetters p0 σ = some ρ) : W p l e (rm_mm_putsLetters) s m args below meth c H locs 0 0 (MQ below (cQ D (gTy cB cI cJ) A (mW cB cI cJ q ρ) none) args s 0 0 A) (F0 m 0 ls []) := by
  unfold mm_putsLetters at hf
  obtain ⟨hx, hb, hml, hown, hT, hrt, hlk, hK, hA, hG, hE⟩ := id G
  refine lv_iconst (v := (0 : Int32)) hx hb dX5_putsLetters_0 (by decide) ?_
  refine lv_istore_n (lv' := [(2, .int (0 : Int32)), (0, .ref (q 0)), (1, .int p0)]) hx hb dX5_putsLetters_1 rfl hl (by decide) rfl (fun ls hl => ?_)
  exact W.eq (g2 := F0 m 2 ls []) rfl (mm_putsLetters_u2 G FU (lv_sub hl [1, 2, 0] rfl) hP hD hS hf)
set_option maxHeartbeats 4000000 in
set_option maxRecDepth 100000 in
theorem c_mm_putsLetters {l : Launch} {D : va_G} {aK aV : Nat → Nat} {cB cI cJ : ClassId} {q : Nat → Nat} {ρ : MSt} {p0 : Int32} {σ : MSt} (hf : mm_putsLetters p0 σ = some ρ) : CT l D (gTy cB cI cJ) aK aV yX5_putsLetters (wM yX5_putsLetters cX5_putsLetters 3 none) (rm_mm_putsLetters) 0 0 [.ref (q 0), .int p0] (mW cB cI cJ q σ) none (mW cB cI cJ q ρ) := by
  refine CT.of (by decide) rfl ?_
  intro p e s m below meth c A G hnm hP hD hS
  have hl := lv_entry [.ref (q 0), .int p0] (n := 3) (Nat.le_of_ble_eq_true rfl)
  rw [lg_entry_eq]
  generalize (lg_sl [.ref (q 0), .int p0] ++ List.replicate (3 - (lg_sl [.ref (q 0), .int p0]).length) Slot.unset).toArray = ls at hl ⊢
  exact mm_putsLetters_t0e G hl hP hD hS hf
def mm_writesCbor_b7 (k7 : Int32 → MSt → Option (Int32 × MSt)) (a1 : Int32) (σ : MSt) : Option (Int32 × MSt) := (if (mf_things σ) ≤ a1 then bd (mm_ends  σ) (fun (x2 : Int32 × MSt) => some (x2.1, x2.2)) else ck a1 4200 (ck a1 4200 (bd (mm_puts ((mf_sorts σ) (a1).toNatClampNeg) ((mf_numbers σ) (a1).toNatClampNeg) σ) (fun (x5 : MSt) => ck a1 4200 ((if ((mf_sorts x5) (a1).toNatClampNeg) = (3 : Int32) then bd (mm_putsLetters a1 x5) (fun (x9 : MSt) => lt (a1 + (1 : Int32)) (fun (v10 : Int32) => k7 v10 x9)) else lt (a1 + (1 : Int32)) (fun (v8 : Int32) => k7 v8 x5)))))))
def mm_writesCbor_L7 : Nat → Int32 → MSt → Option (Int32 × MSt)
  | 0, _, _ => none
  | n + 1, a1, σ => mm_writesCbor_b7 (mm_writesCbor_L7 n) a1 σ
def mm_writesCbor (σ : MSt) : Option (Int32 × MSt) := mm_writesCbor_L7 FU (0 : Int32) (ms_freshMany σ (0 : Int32))
abbrev rm_mm_writesCbor : Room := { frames := 2, cells := 0, slots := 0, locals := 46 }
set_option maxHeartbeats 4000000 in
set_option maxRecDepth 100000 in
theorem mm_writesCbor_t7 {p : Program} {l : Launch} {e : Env} {s : State} {m : MethodId} {args : Array Value} {below : List Frame} {meth : Method} {c : Code} {D : va_G} {aK aV : Nat → Nat} {A : Nat → Prop} {cB cI cJ : ClassId} {q : Nat → Nat} {H : Heap} {locs : List Loc} {ls : Array Slot} {ρ : Int32 × MSt} {k7 : Int32 → MSt → Option (Int32 × MSt)} {a1 : Int32} {σ : MSt} (G : CX p s m args meth c D (gTy cB cI cJ) aK aV A RX5 cX5_writesCbor 2 (some .int)) (hk7 : ∀ (a1 : Int32) (σ : MSt) (H : Heap) (locs : List Loc) (ls : Array Slot), lv_has ls 2 [(0, .ref (q 0)), (1, .int a1)] → va_P D vwCl (mW cB cI cJ q σ) H → va_D A (mW cB cI cJ q σ) → va_S A s.heap H locs → k7 a1 σ = some ρ → W p l e (rm_mm_writesCbor) s m args below meth c H locs 0 0 (MQ below (cQ D (gTy cB cI cJ) A (mW cB cI cJ q ρ.2) (some (.int ρ.1))) args s 0 0 A) (F0 m 7 ls [])) (hl : lv_has ls 2 [(0, .ref (q 0)), (1, .int a1)]) (hP : va_P D vwCl (mW cB cI cJ q σ) H) (hD : va_D A (mW cB cI cJ q σ)) (hS : va_S A s.heap H locs) (hf : mm_writesCbor_b7 k7 a1 σ = some ρ) : W p l e (rm_mm_writesCbor) s m args below meth c H locs 0 0 (MQ below (cQ D (gTy cB cI cJ) A (mW cB cI cJ q ρ.2) (some (.int ρ.1))) args s 0 0 A) (F0 m 7 ls []) := by
  unfold mm_writesCbor_b7 at hf
  obtain ⟨hx, hb, hml, hown, hT, hrt, hlk, hK, hA, hG, hE⟩ := id G
  refine lv_iload_n hx hb dX5_writesCbor_7 rfl (lv_at hl 1 rfl) ?_
  refine lv_aload_n hx hb dX5_writesCbor_8 rfl (lv_at hl 0 rfl) ?_
  refine gm_X5_things (v := (mf_things σ)) G hP dX5_writesCbor_9 rfl ?_
  refine lv_icmp_ge (tgt := 52) hx hb dX5_writesCbor_12 (by decide) (fun c1 => ?_) (fun c1 => ?_)
  · have hf := (if_pos c1).symm.trans hf
    refine lv_aload_n hx hb dX5_writesCbor_52 rfl (lv_at hl 0 rfl) ?_
    obtain ⟨x2, hx2, hf⟩ := bd_some hf
    refine vM (As := []) (rest := []) G kX5_229 (c_mm_ends hx2) hP hD hS ⟨rfl, rfl, Nat.le_of_ble_eq_true rfl, Nat.le_of_ble_eq_true rfl⟩ ⟨Nat.zero_le _, Nat.zero_le _⟩ rfl hl.1 (Nat.le_of_ble_eq_true rfl) dX5_writesCbor_53 (fun H locs hP hD hS => ?_)
    refine W.eq (g2 := F0 m 56 ls [.int x2.1]) rfl ?_
    cases hf
    exact ct_iret G rfl hP hD hS dX5_writesCbor_56
  · have hf := (if_neg c1).symm.trans hf
    refine lv_aload_n hx hb dX5_writesCbor_15 rfl (lv_at hl 0 rfl) ?_
    refine lv_aload_n hx hb dX5_writesCbor_16 rfl (lv_at hl 0 rfl) ?_
    refine gm_X5_sorts G hP dX5_writesCbor_17 ?_
    refine lv_iload_n hx hb dX5_writesCbor_20 rfl (lv_at hl 1 rfl) ?_
    obtain ⟨hi3, hf⟩ := ck_some hf
    refine lm_sorts (f := (mf_sorts σ)) G hP hi3 dX5_writesCbor_21 rfl ?_
    refine lv_aload_n hx hb dX5_writesCbor_22 rfl (lv_at hl 0 rfl) ?_
    refine gm_X5_numbers G hP dX5_writesCbor_23 ?_
    refine lv_iload_n hx hb dX5_writesCbor_26 rfl (lv_at hl 1 rfl) ?_
    obtain ⟨hi4, hf⟩ := ck_some hf
    refine lm_numbers (f := (mf_numbers σ)) G hP hi4 dX5_writesCbor_27 rfl ?_
    obtain ⟨x5, hx5, hf⟩ := bd_some hf
    refine vM (As := [.int ((mf_sorts σ) (a1).toNatClampNeg), .long ((mf_numbers σ) (a1).toNatClampNeg)]) (rest := []) G kX5_222 (c_mm_puts hx5) hP hD hS ⟨rfl, rfl, Nat.le_of_ble_eq_true rfl, Nat.le_of_ble_eq_true rfl⟩ ⟨Nat.zero_le _, Nat.zero_le _⟩ rfl hl.1 (Nat.le_of_ble_eq_true rfl) dX5_writesCbor_28 (fun H locs hP hD hS => ?_)
    refine W.eq (g2 := F0 m 31 ls []) rfl ?_
    refine lv_aload_n hx hb dX5_writesCbor_31 rfl (lv_at hl 0 rfl) ?_
    refine gm_X5_sorts G hP dX5_writesCbor_32 ?_
    refine lv_iload_n hx hb dX5_writesCbor_35 rfl (lv_at hl 1 rfl) ?_
    obtain ⟨hi6, hf⟩ := ck_some hf
    refine lm_sorts (f := (mf_sorts x5)) G hP hi6 dX5_writesCbor_36 rfl ?_
    refine lv_iconst (v := (3 : Int32)) hx hb dX5_writesCbor_37 (by decide) ?_
    refine lv_icmp_ne (tgt := 46) hx hb dX5_writesCbor_38 (by decide) (fun c7 => ?_) (fun c7 => ?_)
    · have hf := (if_neg c7).symm.trans hf
      obtain ⟨v8, ev8⟩ : ∃ y : Int32, y = (a1 + (1 : Int32)) := ⟨_, rfl⟩
      have hf := lt_eq hf ev8
      refine lv_iinc (v := v8) (lv' := [(1, .int v8), (0, .ref (q 0))]) hx hb dX5_writesCbor_46 hl (k := 1) rfl (by rw [ev8]; rfl) (by decide) rfl (fun ls hl => ?_)
      refine lv_goto (tgt := 7) hx hb dX5_writesCbor_49 (by decide) ?_
      exact W.eq (g2 := F0 m 7 ls []) rfl (hk7 _ _ _ _ _ (lv_sub hl [1, 0] rfl) hP hD hS hf)
    · have hf := (if_pos c7).symm.trans hf
      refine lv_aload_n hx hb dX5_writesCbor_41 rfl (lv_at hl 0 rfl) ?_
      refine lv_iload_n hx hb dX5_writesCbor_42 rfl (lv_at hl 1 rfl) ?_
      obtain ⟨x9, hx9, hf⟩ := bd_some hf
      refine vM (As := [.int a1]) (rest := []) G kX5_226 (c_mm_putsLetters hx9) hP hD hS ⟨rfl, rfl, Nat.le_of_ble_eq_true rfl, Nat.le_of_ble_eq_true rfl⟩ ⟨Nat.zero_le _, Nat.zero_le _⟩ rfl hl.1 (Nat.le_of_ble_eq_true rfl) dX5_writesCbor_43 (fun H locs hP hD hS => ?_)
      refine W.eq (g2 := F0 m 46 ls []) rfl ?_
      obtain ⟨v10, ev10⟩ : ∃ y : Int32, y = (a1 + (1 : Int32)) := ⟨_, rfl⟩
      have hf := lt_eq hf ev10
      refine lv_iinc (v := v10) (lv' := [(1, .int v10), (0, .ref (q 0))]) hx hb dX5_writesCbor_46 hl (k := 1) rfl (by rw [ev10]; rfl) (by decide) rfl (fun ls hl => ?_)
      refine lv_goto (tgt := 7) hx hb dX5_writesCbor_49 (by decide) ?_
      exact W.eq (g2 := F0 m 7 ls []) rfl (hk7 _ _ _ _ _ (lv_sub hl [1, 0] rfl) hP hD hS hf)
set_option maxHeartbeats 4000000 in
set_option maxRecDepth 100000 in
theorem mm_writesCbor_u7 {p : Program} {l : Launch} {e : Env} {s : State} {m : MethodId} {args : Array Value} {below : List Frame} {meth : Method} {c : Code} {D : va_G} {aK aV : Nat → Nat} {A : Nat → Prop} {cB cI cJ : ClassId} {q : Nat → Nat} {ρ : Int32 × MSt} (G : CX p s m args meth c D (gTy cB cI cJ) aK aV A RX5 cX5_writesCbor 2 (some .int)) : ∀ (n : Nat) {a1 : Int32} {σ : MSt} {H : Heap} {locs : List Loc} {ls : Array Slot} (hl : lv_has ls 2 [(0, .ref (q 0)), (1, .int a1)]) (hP : va_P D vwCl (mW cB cI cJ q σ) H) (hD : va_D A (mW cB cI cJ q σ)) (hS : va_S A s.heap H locs) (hf : mm_writesCbor_L7 n a1 σ = some ρ), W p l e (rm_mm_writesCbor) s m args below meth c H locs 0 0 (MQ below (cQ D (gTy cB cI cJ) A (mW cB cI cJ q ρ.2) (some (.int ρ.1))) args s 0 0 A) (F0 m 7 ls []) := by
  intro n
  induction n with
  | zero =>
    intros
    rename_i hf
    cases hf
  | succ n ih =>
    intro a1 σ H locs ls hl hP hD hS hf
    exact mm_writesCbor_t7 G (fun _ _ H locs ls hl hP hD hS hf => ih hl hP hD hS hf) hl hP hD hS hf
set_option maxHeartbeats 4000000 in
set_option maxRecDepth 100000 in
theorem mm_writesCbor_t0e {p : Program} {l : Launch} {e : Env} {s : State} {m : MethodId} {args : Array Value} {below : List Frame} {meth : Method} {c : Code} {D : va_G} {aK aV : Nat → Nat} {A : Nat → Prop} {cB cI cJ : ClassId} {q : Nat → Nat} {H : Heap} {locs : List Loc} {ls : Array Slot} {ρ : Int32 × MSt} {σ : MSt} (G : CX p s m args meth c D (gTy cB cI cJ) aK aV A RX5 cX5_writesCbor 2 (some .int)) (hl : lv_has ls 2 [(0, .ref (q 0))]) (hP : va_P D vwCl (mW cB cI cJ q σ) H) (hD : va_D A (mW cB cI cJ q σ)) (hS : va_S A s.heap H locs) (hf : mm_writesCbor σ = some ρ) : W p l e (rm_mm_writesCbor) s m args below meth c H locs 0 0 (MQ below (cQ D (gTy cB cI cJ) A (mW cB cI cJ q ρ.2) (some (.int ρ.1))) args s 0 0 A) (F0 m 0 ls []) := by
  unfold mm_writesCbor at hf
  obtain ⟨hx, hb, hml, hown, hT, hrt, hlk, hK, hA, hG, hE⟩ := id G
  refine lv_aload_n hx hb dX5_writesCbor_0 rfl (lv_at hl 0 rfl) ?_
  refine lv_iconst (v := (0 : Int32)) hx hb dX5_writesCbor_1 (by decide) ?_
  refine pm_X5_freshMany (v := (0 : Int32)) G hP hD hS dX5_writesCbor_2 (fun H locs hP hD hS => ?_)
  refine lv_iconst (v := (0 : Int32)) hx hb dX5_writesCbor_5 (by decide) ?_
  refine lv_istore_n (lv' := [(1, .int (0 : Int32)), (0, .ref (q 0))]) hx hb dX5_writesCbor_6 rfl hl (by decide) rfl (fun ls hl => ?_)
  exact W.eq (g2 := F0 m 7 ls []) rfl (mm_writesCbor_u7 G FU (lv_sub hl [1, 0] rfl) hP hD hS hf)
set_option maxHeartbeats 4000000 in
set_option maxRecDepth 100000 in
theorem c_mm_writesCbor {l : Launch} {D : va_G} {aK aV : Nat → Nat} {cB cI cJ : ClassId} {q : Nat → Nat} {ρ : Int32 × MSt} {σ : MSt} (hf : mm_writesCbor σ = some ρ) : CT l D (gTy cB cI cJ) aK aV yX5_writesCbor (wM yX5_writesCbor cX5_writesCbor 2 (some .int)) (rm_mm_writesCbor) 0 0 [.ref (q 0)] (mW cB cI cJ q σ) (some (.int ρ.1)) (mW cB cI cJ q ρ.2) := by
  refine CT.of (by decide) rfl ?_
  intro p e s m below meth c A G hnm hP hD hS
  have hl := lv_entry [.ref (q 0)] (n := 2) (Nat.le_of_ble_eq_true rfl)
  rw [lg_entry_eq]
  generalize (lg_sl [.ref (q 0)] ++ List.replicate (2 - (lg_sl [.ref (q 0)]).length) Slot.unset).toArray = ls at hl ⊢
  exact mm_writesCbor_t0e G hl hP hD hS hf
def mm_putsWord_b2 (sI : Nat) (k2 : Int32 → MSt → Option (MSt)) (a2 : Int32) (σ : MSt) : Option (MSt) := (if (sLen sI) ≤ a2 then some σ else ck a2 (sLn sI) (bd (mm_put (sCh sI a2) σ) (fun (x3 : MSt) => lt (a2 + (1 : Int32)) (fun (v4 : Int32) => k2 v4 x3))))
def mm_putsWord_L2 (sI : Nat) : Nat → Int32 → MSt → Option (MSt)
  | 0, _, _ => none
  | n + 1, a2, σ => mm_putsWord_b2 sI (mm_putsWord_L2 sI n) a2 σ
def mm_putsWord (sI : Nat) (σ : MSt) : Option (MSt) := mm_putsWord_L2 sI FU (0 : Int32) σ
abbrev rm_mm_putsWord : Room := { frames := 4, cells := 0, slots := 0, locals := 85 }
set_option maxHeartbeats 4000000 in
set_option maxRecDepth 100000 in
theorem mm_putsWord_t2 {p : Program} {l : Launch} {e : Env} {s : State} {m : MethodId} {args : Array Value} {below : List Frame} {meth : Method} {c : Code} {D : va_G} {aK aV : Nat → Nat} {A : Nat → Prop} {cB cI cJ : ClassId} {q : Nat → Nat} {H : Heap} {locs : List Loc} {ls : Array Slot} {ρ : MSt} {sI : Nat} (hsI : sI < 6) {k2 : Int32 → MSt → Option (MSt)} {a2 : Int32} {σ : MSt} (G : CX p s m args meth c D (gTy cB cI cJ) aK aV A RX5 cX5_putsWord 3 none) (hk2 : ∀ (a2 : Int32) (σ : MSt) (H : Heap) (locs : List Loc) (ls : Array Slot), lv_has ls 3 [(0, .ref (q 0)), (1, .ref (aK sI)), (2, .int a2)] → va_P D vwCl (mW cB cI cJ q σ) H → va_D A (mW cB cI cJ q σ) → va_S A s.heap H locs → k2 a2 σ = some ρ → W p l e (rm_mm_putsWord) s m args below meth c H locs 0 0 (MQ below (cQ D (gTy cB cI cJ) A (mW cB cI cJ q ρ) none) args s 0 0 A) (F0 m 2 ls [])) (hl : lv_has ls 3 [(0, .ref (q 0)), (1, .ref (aK sI)), (2, .int a2)]) (hP : va_P D vwCl (mW cB cI cJ q σ) H) (hD : va_D A (mW cB cI cJ q σ)) (hS : va_S A s.heap H locs) (hf : mm_putsWord_b2 sI k2 a2 σ = some ρ) : W p l e (rm_mm_putsWord) s m args below meth c H locs 0 0 (MQ below (cQ D (gTy cB cI cJ) A (mW cB cI cJ q ρ) none) args s 0 0 A) (F0 m 2 ls []) := by
  unfold mm_putsWord_b2 at hf
  obtain ⟨hx, hb, hml, hown, hT, hrt, hlk, hK, hA, hG, hE⟩ := id G
  refine lv_iload_n hx hb dX5_putsWord_2 rfl (lv_at hl 2 rfl) ?_
  refine lv_aload_n hx hb dX5_putsWord_3 rfl (lv_at hl 1 rfl) ?_
  refine ct_len (rest := [.int a2]) G kX5_152 hsI hP hD hS ⟨Nat.le_of_ble_eq_true rfl, Nat.le_of_ble_eq_true rfl⟩ ⟨Nat.zero_le _, Nat.zero_le _⟩ hl.1 (Nat.le_of_ble_eq_true rfl) dX5_putsWord_4 (fun H locs hP hS => ?_)
  refine W.eq (g2 := F0 m 7 ls [.int (sLen sI), .int a2]) rfl ?_
  refine lv_icmp_ge (tgt := 25) hx hb dX5_putsWord_7 (by decide) (fun c1 => ?_) (fun c1 => ?_)
  · have hf := (if_pos c1).symm.trans hf
    cases hf
    exact ct_vret G hP hD hS dX5_putsWord_25
  · have hf := (if_neg c1).symm.trans hf
    refine lv_aload_n hx hb dX5_putsWord_10 rfl (lv_at hl 0 rfl) ?_
    refine lv_aload_n hx hb dX5_putsWord_11 rfl (lv_at hl 1 rfl) ?_
    refine lv_iload_n hx hb dX5_putsWord_12 rfl (lv_at hl 2 rfl) ?_
    obtain ⟨hi2, hf⟩ := ck_some hf
    refine ct_cha (rest := [.ref (q 0)]) G kX5_111 hsI hi2 hP hD hS ⟨Nat.le_of_ble_eq_true rfl, Nat.le_of_ble_eq_true rfl⟩ ⟨Nat.zero_le _, Nat.zero_le _⟩ hl.1 (Nat.le_of_ble_eq_true rfl) dX5_putsWord_13 (fun H locs hP hS => ?_)
    refine W.eq (g2 := F0 m 16 ls [.int (sCh sI a2), .ref (q 0)]) rfl ?_
    obtain ⟨x3, hx3, hf⟩ := bd_some hf
    refine vM (As := [.int (sCh sI a2)]) (rest := []) G kX5_219 (c_mm_put hx3) hP hD hS ⟨rfl, rfl, Nat.le_of_ble_eq_true rfl, Nat.le_of_ble_eq_true rfl⟩ ⟨Nat.zero_le _, Nat.zero_le _⟩ rfl hl.1 (Nat.le_of_ble_eq_true rfl) dX5_putsWord_16 (fun H locs hP hD hS => ?_)
    refine W.eq (g2 := F0 m 19 ls []) rfl ?_
    obtain ⟨v4, ev4⟩ : ∃ y : Int32, y = (a2 + (1 : Int32)) := ⟨_, rfl⟩
    have hf := lt_eq hf ev4
    refine lv_iinc (v := v4) (lv' := [(2, .int v4), (0, .ref (q 0)), (1, .ref (aK sI))]) hx hb dX5_putsWord_19 hl (k := 2) rfl (by rw [ev4]; rfl) (by decide) rfl (fun ls hl => ?_)
    refine lv_goto (tgt := 2) hx hb dX5_putsWord_22 (by decide) ?_
    exact W.eq (g2 := F0 m 2 ls []) rfl (hk2 _ _ _ _ _ (lv_sub hl [1, 2, 0] rfl) hP hD hS hf)
set_option maxHeartbeats 4000000 in
set_option maxRecDepth 100000 in
theorem mm_putsWord_u2 {p : Program} {l : Launch} {e : Env} {s : State} {m : MethodId} {args : Array Value} {below : List Frame} {meth : Method} {c : Code} {D : va_G} {aK aV : Nat → Nat} {A : Nat → Prop} {cB cI cJ : ClassId} {q : Nat → Nat} {ρ : MSt} {sI : Nat} (hsI : sI < 6) (G : CX p s m args meth c D (gTy cB cI cJ) aK aV A RX5 cX5_putsWord 3 none) : ∀ (n : Nat) {a2 : Int32} {σ : MSt} {H : Heap} {locs : List Loc} {ls : Array Slot} (hl : lv_has ls 3 [(0, .ref (q 0)), (1, .ref (aK sI)), (2, .int a2)]) (hP : va_P D vwCl (mW cB cI cJ q σ) H) (hD : va_D A (mW cB cI cJ q σ)) (hS : va_S A s.heap H locs) (hf : mm_putsWord_L2 sI n a2 σ = some ρ), W p l e (rm_mm_putsWord) s m args below meth c H locs 0 0 (MQ below (cQ D (gTy cB cI cJ) A (mW cB cI cJ q ρ) none) args s 0 0 A) (F0 m 2 ls []) := by
  intro n
  induction n with
  | zero =>
    intros
    rename_i hf
    cases hf
  | succ n ih =>
    intro a2 σ H locs ls hl hP hD hS hf
    exact mm_putsWord_t2 hsI G (fun _ _ H locs ls hl hP hD hS hf => ih hl hP hD hS hf) hl hP hD hS hf
set_option maxHeartbeats 4000000 in
set_option maxRecDepth 100000 in
theorem mm_putsWord_t0e {p : Program} {l : Launch} {e : Env} {s : State} {m : MethodId} {args : Array Value} {below : List Frame} {meth : Method} {c : Code} {D : va_G} {aK aV : Nat → Nat} {A : Nat → Prop} {cB cI cJ : ClassId} {q : Nat → Nat} {H : Heap} {locs : List Loc} {ls : Array Slot} {ρ : MSt} {sI : Nat} (hsI : sI < 6) {σ : MSt} (G : CX p s m args meth c D (gTy cB cI cJ) aK aV A RX5 cX5_putsWord 3 none) (hl : lv_has ls 3 [(0, .ref (q 0)), (1, .ref (aK sI))]) (hP : va_P D vwCl (mW cB cI cJ q σ) H) (hD : va_D A (mW cB cI cJ q σ)) (hS : va_S A s.heap H locs) (hf : mm_putsWord sI σ = some ρ) : W p l e (rm_mm_putsWord) s m args below meth c H locs 0 0 (MQ below (cQ D (gTy cB cI cJ) A (mW cB cI cJ q ρ) none) args s 0 0 A) (F0 m 0 ls []) := by
  unfold mm_putsWord at hf
  obtain ⟨hx, hb, hml, hown, hT, hrt, hlk, hK, hA, hG, hE⟩ := id G
  refine lv_iconst (v := (0 : Int32)) hx hb dX5_putsWord_0 (by decide) ?_
  refine lv_istore_n (lv' := [(2, .int (0 : Int32)), (0, .ref (q 0)), (1, .ref (aK sI))]) hx hb dX5_putsWord_1 rfl hl (by decide) rfl (fun ls hl => ?_)
  exact W.eq (g2 := F0 m 2 ls []) rfl (mm_putsWord_u2 hsI G FU (lv_sub hl [1, 2, 0] rfl) hP hD hS hf)
set_option maxHeartbeats 4000000 in
set_option maxRecDepth 100000 in
theorem c_mm_putsWord {l : Launch} {D : va_G} {aK aV : Nat → Nat} {cB cI cJ : ClassId} {q : Nat → Nat} {sI : Nat} (hsI : sI < 6) {ρ : MSt} {σ : MSt} (hf : mm_putsWord sI σ = some ρ) : CT l D (gTy cB cI cJ) aK aV yX5_putsWord (wM yX5_putsWord cX5_putsWord 3 none) (rm_mm_putsWord) 0 0 [.ref (q 0), .ref (aK sI)] (mW cB cI cJ q σ) none (mW cB cI cJ q ρ) := by
  refine CT.of (by decide) rfl ?_
  intro p e s m below meth c A G hnm hP hD hS
  have hl := lv_entry [.ref (q 0), .ref (aK sI)] (n := 3) (Nat.le_of_ble_eq_true rfl)
  rw [lg_entry_eq]
  generalize (lg_sl [.ref (q 0), .ref (aK sI)] ++ List.replicate (3 - (lg_sl [.ref (q 0), .ref (aK sI)]).length) Slot.unset).toArray = ls at hl ⊢
  exact mm_putsWord_t0e hsI G hl hP hD hS hf
