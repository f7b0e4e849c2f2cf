/-! THE REFERENCE: reading JSON (printed by program wip/gen) -/
def mm_four_b34 (k4 : Int32 → Int32 → Int32 → MSt → Option (Int32 × MSt)) (a1 : Int32) (a2 : Int32) (a3 : Int32) (s0 : Int32) (σ : MSt) : Option (Int32 × MSt) := (if 0 ≤ s0 then lt (((16 : Int32) * a2) + s0) (fun (v5 : Int32) => lt (a3 + (1 : Int32)) (fun (v6 : Int32) => k4 a1 v5 v6 σ)) else some ((-1 : Int32), σ))
def mm_four_b4 (k4 : Int32 → Int32 → Int32 → MSt → Option (Int32 × MSt)) (a1 : Int32) (a2 : Int32) (a3 : Int32) (σ : MSt) : Option (Int32 × MSt) := (if (4 : Int32) ≤ a3 then some (a2, σ) else (if (mf_taped σ) ≤ (a1 + a3) then mm_four_b34 k4 a1 a2 a3 (-1 : Int32) σ else ck (a1 + a3) 4000 (mm_four_b34 k4 a1 a2 a3 (eX5_hexOf ((mf_tape σ) ((a1 + a3)).toNatClampNeg)) σ)))
def mm_four_L4 : Nat → Int32 → Int32 → Int32 → MSt → Option (Int32 × MSt)
  | 0, _, _, _, _ => none
  | n + 1, a1, a2, a3, σ => mm_four_b4 (mm_four_L4 n) a1 a2 a3 σ
def mm_four (p0 : Int32) (σ : MSt) : Option (Int32 × MSt) := mm_four_L4 FU p0 (0 : Int32) (0 : Int32) σ
abbrev rm_mm_four : Room := { frames := 1, cells := 0, slots := 0, locals := 20 }
set_option maxHeartbeats 4000000 in
set_option maxRecDepth 100000 in
theorem mm_four_t34 {p : Program} {l : Launch} {e : Env} {s : State} {m : MethodId} {args : Array Value} {below : List Frame} {meth : Method} {c : Code} {D : va_G} {aK aV : Nat → Nat} {A : Nat → Prop} {cB cI cJ : ClassId} {q : Nat → Nat} {H : Heap} {locs : List Loc} {ls : Array Slot} {ρ : Int32 × MSt} {k4 : Int32 → Int32 → Int32 → MSt → Option (Int32 × MSt)} {a1 : Int32} {a2 : Int32} {a3 : Int32} {s0 : Int32} {σ : MSt} (G : CX p s m args meth c D (gTy cB cI cJ) aK aV A RX5 cX5_four 5 (some .int)) (hk4 : ∀ (a1 : Int32) (a2 : Int32) (a3 : Int32) (σ : MSt) (H : Heap) (locs : List Loc) (ls : Array Slot), lv_has ls 5 [(0, .ref (q 0)), (1, .int a1), (2, .int a2), (3, .int a3)] → va_P D vwCl (mW cB cI cJ q σ) H → va_D A (mW cB cI cJ q σ) → va_S A s.heap H locs → k4 a1 a2 a3 σ = some ρ → W p l e (rm_mm_four) s m args below meth c H locs 0 0 (MQ below (cQ D (gTy cB cI cJ) A (mW cB cI cJ q ρ.2) (some (.int ρ.1))) args s 0 0 A) (F0 m 4 ls [])) (hl : lv_has ls 5 [(0, .ref (q 0)), (1, .int a1), (2, .int a2), (3, .int a3)]) (hP : va_P D vwCl (mW cB cI cJ q σ) H) (hD : va_D A (mW cB cI cJ q σ)) (hS : va_S A s.heap H locs) (hf : mm_four_b34 k4 a1 a2 a3 s0 σ = some ρ) : W p l e (rm_mm_four) s m args below meth c H locs 0 0 (MQ below (cQ D (gTy cB cI cJ) A (mW cB cI cJ q ρ.2) (some (.int ρ.1))) args s 0 0 A) (F0 m 34 ls [.int s0]) := by
  unfold mm_four_b34 at hf
  obtain ⟨hx, hb, hml, hown, hT, hrt, hlk, hK, hA, hG, hE⟩ := id G
  refine lv_istore (lv' := [(4, .int s0), (0, .ref (q 0)), (1, .int a1), (2, .int a2), (3, .int a3)]) hx hb dX5_four_34 hl (by decide) rfl (fun ls hl => ?_)
  refine lv_iload hx hb dX5_four_36 (lv_at hl 0 rfl) ?_
  refine lv_if_ge (tgt := 43) hx hb dX5_four_38 (by decide) (fun c4 => ?_) (fun c4 => ?_)
  · have hf := (if_pos c4).symm.trans hf
    refine lv_bipush (v := (16 : Int32)) hx hb dX5_four_43 (by decide) ?_
    refine lv_iload_n hx hb dX5_four_45 rfl (lv_at hl 3 rfl) ?_
    refine lv_imul hx hb dX5_four_46 ?_
    refine lv_iload hx hb dX5_four_47 (lv_at hl 0 rfl) ?_
    refine lv_iadd hx hb dX5_four_49 ?_
    refine lv_topi (fun v5 ev5 => ?_)
    have hf := lt_eq hf ev5
    refine lv_istore_n (lv' := [(2, .int v5), (4, .int s0), (0, .ref (q 0)), (1, .int a1), (3, .int a3)]) hx hb dX5_four_50 rfl hl (by decide) rfl (fun ls hl => ?_)
    obtain ⟨v6, ev6⟩ : ∃ y : Int32, y = (a3 + (1 : Int32)) := ⟨_, rfl⟩
    have hf := lt_eq hf ev6
    refine lv_iinc (v := v6) (lv' := [(3, .int v6), (2, .int v5), (4, .int s0), (0, .ref (q 0)), (1, .int a1)]) hx hb dX5_four_51 hl (k := 4) rfl (by rw [ev6]; rfl) (by decide) rfl (fun ls hl => ?_)
    refine lv_goto (tgt := 4) hx hb dX5_four_54 (by decide) ?_
    exact W.eq (g2 := F0 m 4 ls []) rfl (hk4 _ _ _ _ _ _ _ (lv_sub hl [3, 4, 1, 0] rfl) hP hD hS hf)
  · have hf := (if_neg c4).symm.trans hf
    refine lv_iconst (v := (-1 : Int32)) hx hb dX5_four_41 (by decide) ?_
    cases hf
    exact ct_iret G rfl hP hD hS dX5_four_42
set_option maxHeartbeats 4000000 in
set_option maxRecDepth 100000 in
theorem mm_four_t4 {p : Program} {l : Launch} {e : Env} {s : State} {m : MethodId} {args : Array Value} {below : List Frame} {meth : Method} {c : Code} {D : va_G} {aK aV : Nat → Nat} {A : Nat → Prop} {cB cI cJ : ClassId} {q : Nat → Nat} {H : Heap} {locs : List Loc} {ls : Array Slot} {ρ : Int32 × MSt} {k4 : Int32 → Int32 → Int32 → MSt → Option (Int32 × MSt)} {a1 : Int32} {a2 : Int32} {a3 : Int32} {σ : MSt} (G : CX p s m args meth c D (gTy cB cI cJ) aK aV A RX5 cX5_four 5 (some .int)) (hk4 : ∀ (a1 : Int32) (a2 : Int32) (a3 : Int32) (σ : MSt) (H : Heap) (locs : List Loc) (ls : Array Slot), lv_has ls 5 [(0, .ref (q 0)), (1, .int a1), (2, .int a2), (3, .int a3)] → va_P D vwCl (mW cB cI cJ q σ) H → va_D A (mW cB cI cJ q σ) → va_S A s.heap H locs → k4 a1 a2 a3 σ = some ρ → W p l e (rm_mm_four) s m args below meth c H locs 0 0 (MQ below (cQ D (gTy cB cI cJ) A (mW cB cI cJ q ρ.2) (some (.int ρ.1))) args s 0 0 A) (F0 m 4 ls [])) (hl : lv_has ls 5 [(0, .ref (q 0)), (1, .int a1), (2, .int a2), (3, .int a3)]) (hP : va_P D vwCl (mW cB cI cJ q σ) H) (hD : va_D A (mW cB cI cJ q σ)) (hS : va_S A s.heap H locs) (hf : mm_four_b4 k4 a1 a2 a3 σ = some ρ) : W p l e (rm_mm_four) s m args below meth c H locs 0 0 (MQ below (cQ D (gTy cB cI cJ) A (mW cB cI cJ q ρ.2) (some (.int ρ.1))) args s 0 0 A) (F0 m 4 ls []) := by
  unfold mm_four_b4 at hf
  obtain ⟨hx, hb, hml, hown, hT, hrt, hlk, hK, hA, hG, hE⟩ := id G
  refine lv_iload_n hx hb dX5_four_4 rfl (lv_at hl 3 rfl) ?_
  refine lv_iconst (v := (4 : Int32)) hx hb dX5_four_5 (by decide) ?_
  refine lv_icmp_ge (tgt := 57) hx hb dX5_four_6 (by decide) (fun c1 => ?_) (fun c1 => ?_)
  · have hf := (if_pos c1).symm.trans hf
    refine lv_iload_n hx hb dX5_four_57 rfl (lv_at hl 2 rfl) ?_
    cases hf
    exact ct_iret G rfl hP hD hS dX5_four_58
  · have hf := (if_neg c1).symm.trans hf
    refine lv_iload_n hx hb dX5_four_9 rfl (lv_at hl 1 rfl) ?_
    refine lv_iload_n hx hb dX5_four_10 rfl (lv_at hl 3 rfl) ?_
    refine lv_iadd hx hb dX5_four_11 ?_
    refine lv_aload_n hx hb dX5_four_12 rfl (lv_at hl 0 rfl) ?_
    refine gm_X5_taped (v := (mf_taped σ)) G hP dX5_four_13 rfl ?_
    refine lv_icmp_ge (tgt := 33) hx hb dX5_four_16 (by decide) (fun c2 => ?_) (fun c2 => ?_)
    · have hf := (if_pos c2).symm.trans hf
      refine lv_iconst (v := (-1 : Int32)) hx hb dX5_four_33 (by decide) ?_
      exact W.eq (g2 := F0 m 34 ls [.int (-1 : Int32)]) rfl (mm_four_t34 G hk4 (lv_sub hl [0, 1, 2, 3] rfl) hP hD hS hf)
    · have hf := (if_neg c2).symm.trans hf
      refine lv_aload_n hx hb dX5_four_19 rfl (lv_at hl 0 rfl) ?_
      refine gm_X5_tape G hP dX5_four_20 ?_
      refine lv_iload_n hx hb dX5_four_23 rfl (lv_at hl 1 rfl) ?_
      refine lv_iload_n hx hb dX5_four_24 rfl (lv_at hl 3 rfl) ?_
      refine lv_iadd hx hb dX5_four_25 ?_
      obtain ⟨hi3, hf⟩ := ck_some hf
      refine lm_tape (f := (mf_tape σ)) G hP hi3 dX5_four_26 rfl ?_
      refine ct_s0 (As := [.int ((mf_tape σ) ((a1 + a3)).toNatClampNeg)]) (rest := []) G kX5_129 (c_eX5_hexOf ((mf_tape σ) ((a1 + a3)).toNatClampNeg)) hP hD hS ⟨rfl, rfl, Nat.le_of_ble_eq_true rfl, Nat.le_of_ble_eq_true rfl⟩ ⟨Nat.zero_le _, Nat.zero_le _⟩ rfl hl.1 (Nat.le_of_ble_eq_true rfl) dX5_four_27 (fun H locs hP hS => ?_)
      refine W.eq (g2 := F0 m 30 ls [.int (eX5_hexOf ((mf_tape σ) ((a1 + a3)).toNatClampNeg))]) rfl ?_
      refine lv_goto (tgt := 34) hx hb dX5_four_30 (by decide) ?_
      exact W.eq (g2 := F0 m 34 ls [.int (eX5_hexOf ((mf_tape σ) ((a1 + a3)).toNatClampNeg))]) rfl (mm_four_t34 G hk4 (lv_sub hl [0, 1, 2, 3] rfl) hP hD hS hf)
set_option maxHeartbeats 4000000 in
set_option maxRecDepth 100000 in
theorem mm_four_u4 {p : Program} {l : Launch} {e : Env} {s : State} {m : MethodId} {args : Array Value} {below : List Frame} {meth : Method} {c : Code} {D : va_G} {aK aV : Nat → Nat} {A : Nat → Prop} {cB cI cJ : ClassId} {q : Nat → Nat} {ρ : Int32 × MSt} (G : CX p s m args meth c D (gTy cB cI cJ) aK aV A RX5 cX5_four 5 (some .int)) : ∀ (n : Nat) {a1 : Int32} {a2 : Int32} {a3 : Int32} {σ : MSt} {H : Heap} {locs : List Loc} {ls : Array Slot} (hl : lv_has ls 5 [(0, .ref (q 0)), (1, .int a1), (2, .int a2), (3, .int a3)]) (hP : va_P D vwCl (mW cB cI cJ q σ) H) (hD : va_D A (mW cB cI cJ q σ)) (hS : va_S A s.heap H locs) (hf : mm_four_L4 n a1 a2 a3 σ = some ρ), W p l e (rm_mm_four) s m args below meth c H locs 0 0 (MQ below (cQ D (gTy cB cI cJ) A (mW cB cI cJ q ρ.2) (some (.int ρ.1))) args s 0 0 A) (F0 m 4 ls []) := by
  intro n
  induction n with
  | zero =>
    intros
    rename_i hf
    cases hf
  | succ n ih =>
    intro a1 a2 a3 σ H locs ls hl hP hD hS hf
    exact mm_four_t4 G (fun _ _ _ _ H locs ls hl hP hD hS hf => ih hl hP hD hS hf) hl hP hD hS hf
set_option maxHeartbeats 4000000 in
set_option maxRecDepth 100000 in
theorem mm_four_t0e {p : Program} {l : Launch} {e : Env} {s : State} {m : MethodId} {args : Array Value} {below : List Frame} {meth : Method} {c : Code} {D : va_G} {aK aV : Nat → Nat} {A : Nat → Prop} {cB cI cJ : ClassId} {q : Nat → Nat} {H : Heap} {locs : List Loc} {ls : Array Slot} {ρ : Int32 × MSt} {p0 : Int32} {σ : MSt} (G : CX p s m args meth c D (gTy cB cI cJ) aK aV A RX5 cX5_four 5 (some .int)) (hl : lv_has ls 5 [(0, .ref (q 0)), (1, .int p0)]) (hP : va_P D vwCl (mW cB cI cJ q σ) H) (hD : va_D A (mW cB cI cJ q σ)) (hS : va_S A s.heap H locs) (hf : mm_four p0 σ = some ρ) : W p l e (rm_mm_four) s m args below meth c H locs 0 0 (MQ below (cQ D (gTy cB cI cJ) A (mW cB cI cJ q ρ.2) (some (.int ρ.1))) args s 0 0 A) (F0 m 0 ls []) := by
  unfold mm_four at hf
  obtain ⟨hx, hb, hml, hown, hT, hrt, hlk, hK, hA, hG, hE⟩ := id G
  refine lv_iconst (v := (0 : Int32)) hx hb dX5_four_0 (by decide) ?_
  refine lv_istore_n (lv' := [(2, .int (0 : Int32)), (0, .ref (q 0)), (1, .int p0)]) hx hb dX5_four_1 rfl hl (by decide) rfl (fun ls hl => ?_)
  refine lv_iconst (v := (0 : Int32)) hx hb dX5_four_2 (by decide) ?_
  refine lv_istore_n (lv' := [(3, .int (0 : Int32)), (2, .int (0 : Int32)), (0, .ref (q 0)), (1, .int p0)]) hx hb dX5_four_3 rfl hl (by decide) rfl (fun ls hl => ?_)
  exact W.eq (g2 := F0 m 4 ls []) rfl (mm_four_u4 G FU (lv_sub hl [2, 3, 1, 0] rfl) hP hD hS hf)
set_option maxHeartbeats 4000000 in
set_option maxRecDepth 100000 in
theorem c_mm_four {l : Launch} {D : va_G} {aK aV : Nat → Nat} {cB cI cJ : ClassId} {q : Nat → Nat} {ρ : Int32 × MSt} {p0 : Int32} {σ : MSt} (hf : mm_four p0 σ = some ρ) : CT l D (gTy cB cI cJ) aK aV yX5_four (wM yX5_four cX5_four 5 (some .int)) (rm_mm_four) 0 0 [.ref (q 0), .int p0] (mW cB cI cJ q σ) (some (.int ρ.1)) (mW cB cI cJ q ρ.2) := by
  refine CT.of (by decide) rfl ?_
  intro p e s m below meth c A G hnm hP hD hS
  have hl := lv_entry [.ref (q 0), .int p0] (n := 5) (Nat.le_of_ble_eq_true rfl)
  rw [lg_entry_eq]
  generalize (lg_sl [.ref (q 0), .int p0] ++ List.replicate (5 - (lg_sl [.ref (q 0), .int p0]).length) Slot.unset).toArray = ls at hl ⊢
  exact mm_four_t0e G hl hP hD hS hf
def mm_coded_b87 (a2 : Int32) (σ : MSt) : Option (Bool × MSt) := bd (mm_sign a2 σ) (fun (x17 : MSt) => some (true, x17))
def mm_coded_b177 (a1 : Int32) (σ : MSt) : Option (Bool × MSt) := bd (mm_wrong (2 : Int32) a1 σ) (fun (x23 : Bool × MSt) => some (x23.1, x23.2))
def mm_coded_b161 (a1 : Int32) (a2 : Int32) (s0 : Int32) (σ : MSt) : Option (Bool × MSt) := (if s0 < (56320 : Int32) then mm_coded_b177 a1 σ else (if s0 ≤ (57343 : Int32) then bd (mm_sign ((((65536 : Int32) + ((a2 - (55296 : Int32)) * (1024 : Int32))) + s0) - (56320 : Int32)) (ms_at σ ((mf_at σ) + (6 : Int32)))) (fun (x22 : MSt) => some (true, x22)) else mm_coded_b177 a1 σ))
def mm_coded_b142 (a1 : Int32) (a2 : Int32) (s0 : Int32) (σ : MSt) : Option (Bool × MSt) := (if s0 = 0 then mm_coded_b161 a1 a2 (-1 : Int32) σ else bd (mm_four ((mf_at σ) + (2 : Int32)) σ) (fun (x19 : Int32 × MSt) => mm_coded_b161 a1 a2 x19.1 x19.2))
def mm_coded_b75 (a1 : Int32) (a2 : Int32) (σ : MSt) : Option (Bool × MSt) := (if a2 < (55296 : Int32) then mm_coded_b87 a2 σ else (if a2 ≤ (56319 : Int32) then (if (mf_taped σ) ≤ ((mf_at σ) + (1 : Int32)) then mm_coded_b142 a1 a2 (0 : Int32) σ else ck (mf_at σ) 4000 ((if ((mf_tape σ) ((mf_at σ)).toNatClampNeg) = (92 : Int32) then ck ((mf_at σ) + (1 : Int32)) 4000 ((if ((mf_tape σ) (((mf_at σ) + (1 : Int32))).toNatClampNeg) = (117 : Int32) then mm_coded_b142 a1 a2 (1 : Int32) σ else mm_coded_b142 a1 a2 (0 : Int32) σ)) else mm_coded_b142 a1 a2 (0 : Int32) σ))) else mm_coded_b87 a2 σ))
def mm_coded_b2 (k2 : Int32 → Int32 → MSt → Option (Bool × MSt)) (a1 : Int32) (a2 : Int32) (σ : MSt) : Option (Bool × MSt) := (if (4 : Int32) ≤ a2 then bd (mm_four (a1 + (2 : Int32)) (ms_at σ ((mf_at σ) + (1 : Int32)))) (fun (x2 : Int32 × MSt) => (if x2.1 < (56320 : Int32) then mm_coded_b75 a1 x2.1 x2.2 else (if (57343 : Int32) < x2.1 then mm_coded_b75 a1 x2.1 x2.2 else bd (mm_wrong (2 : Int32) a1 x2.2) (fun (x5 : Bool × MSt) => some (x5.1, x5.2))))) else bd (mm_here  (ms_at σ ((mf_at σ) + (1 : Int32)))) (fun (x6 : Int32 × MSt) => (if 0 ≤ (eX5_hexOf x6.1) then lt (a2 + (1 : Int32)) (fun (v8 : Int32) => k2 a1 v8 x6.2) else bd (mm_stuck  x6.2) (fun (x9 : Bool × MSt) => some (x9.1, x9.2)))))
def mm_coded_L2 : Nat → Int32 → Int32 → MSt → Option (Bool × MSt)
  | 0, _, _, _ => none
  | n + 1, a1, a2, σ => mm_coded_b2 (mm_coded_L2 n) a1 a2 σ
def mm_coded (p0 : Int32) (σ : MSt) : Option (Bool × MSt) := mm_coded_L2 FU p0 (0 : Int32) σ
abbrev rm_mm_coded : Room := { frames := 2, cells := 0, slots := 0, locals := 44 }
set_option maxHeartbeats 4000000 in
set_option maxRecDepth 100000 in
theorem mm_coded_t87 {p : Program} {l : Launch} {e : Env} {s : State} {m : MethodId} {args : Array Value} {below : List Frame} {meth : Method} {c : Code} {D : va_G} {aK aV : Nat → Nat} {A : Nat → Prop} {cB cI cJ : ClassId} {q : Nat → Nat} {H : Heap} {locs : List Loc} {ls : Array Slot} {ρ : Bool × MSt} {a2 : Int32} {σ : MSt} (G : CX p s m args meth c D (gTy cB cI cJ) aK aV A RX5 cX5_coded 5 (some .boolean)) (hl : lv_has ls 5 [(0, .ref (q 0)), (2, .int a2)]) (hP : va_P D vwCl (mW cB cI cJ q σ) H) (hD : va_D A (mW cB cI cJ q σ)) (hS : va_S A s.heap H locs) (hf : mm_coded_b87 a2 σ = some ρ) : W p l e (rm_mm_coded) s m args below meth c H locs 0 0 (MQ below (cQ D (gTy cB cI cJ) A (mW cB cI cJ q ρ.2) (some (.int (bI ρ.1)))) args s 0 0 A) (F0 m 87 ls []) := by
  unfold mm_coded_b87 at hf
  obtain ⟨hx, hb, hml, hown, hT, hrt, hlk, hK, hA, hG, hE⟩ := id G
  refine lv_aload_n hx hb dX5_coded_87 rfl (lv_at hl 0 rfl) ?_
  refine lv_iload_n hx hb dX5_coded_88 rfl (lv_at hl 1 rfl) ?_
  obtain ⟨x17, hx17, hf⟩ := bd_some hf
  refine vM (As := [.int a2]) (rest := []) G kX5_140 (c_mm_sign hx17) hP hD hS ⟨rfl, rfl, Nat.le_of_ble_eq_true rfl, Nat.le_of_ble_eq_true rfl⟩ ⟨Nat.zero_le _, Nat.zero_le _⟩ rfl hl.1 (Nat.le_of_ble_eq_true rfl) dX5_coded_89 (fun H locs hP hD hS => ?_)
  refine W.eq (g2 := F0 m 92 ls []) rfl ?_
  refine lv_iconst (v := (1 : Int32)) hx hb dX5_coded_92 (by decide) ?_
  cases hf
  exact ct_iret G (bI_nar true) hP hD hS dX5_coded_93
set_option maxHeartbeats 4000000 in
set_option maxRecDepth 100000 in
theorem mm_coded_t177 {p : Program} {l : Launch} {e : Env} {s : State} {m : MethodId} {args : Array Value} {below : List Frame} {meth : Method} {c : Code} {D : va_G} {aK aV : Nat → Nat} {A : Nat → Prop} {cB cI cJ : ClassId} {q : Nat → Nat} {H : Heap} {locs : List Loc} {ls : Array Slot} {ρ : Bool × MSt} {a1 : Int32} {σ : MSt} (G : CX p s m args meth c D (gTy cB cI cJ) aK aV A RX5 cX5_coded 5 (some .boolean)) (hl : lv_has ls 5 [(0, .ref (q 0)), (1, .int a1)]) (hP : va_P D vwCl (mW cB cI cJ q σ) H) (hD : va_D A (mW cB cI cJ q σ)) (hS : va_S A s.heap H locs) (hf : mm_coded_b177 a1 σ = some ρ) : W p l e (rm_mm_coded) s m args below meth c H locs 0 0 (MQ below (cQ D (gTy cB cI cJ) A (mW cB cI cJ q ρ.2) (some (.int (bI ρ.1)))) args s 0 0 A) (F0 m 177 ls []) := by
  unfold mm_coded_b177 at hf
  obtain ⟨hx, hb, hml, hown, hT, hrt, hlk, hK, hA, hG, hE⟩ := id G
  refine lv_aload_n hx hb dX5_coded_177 rfl (lv_at hl 0 rfl) ?_
  refine lv_iconst (v := (2 : Int32)) hx hb dX5_coded_178 (by decide) ?_
  refine lv_iload_n hx hb dX5_coded_179 rfl (lv_at hl 1 rfl) ?_
  obtain ⟨x23, hx23, hf⟩ := bd_some hf
  refine vM (As := [.int (2 : Int32), .int a1]) (rest := []) G kX5_90 (c_mm_wrong hx23) hP hD hS ⟨rfl, rfl, Nat.le_of_ble_eq_true rfl, Nat.le_of_ble_eq_true rfl⟩ ⟨Nat.zero_le _, Nat.zero_le _⟩ rfl hl.1 (Nat.le_of_ble_eq_true rfl) dX5_coded_180 (fun H locs hP hD hS => ?_)
  refine W.eq (g2 := F0 m 183 ls [.int (bI x23.1)]) rfl ?_
  cases hf
  exact ct_iret G (bI_nar x23.1) hP hD hS dX5_coded_183
set_option maxHeartbeats 4000000 in
set_option maxRecDepth 100000 in
theorem mm_coded_t161 {p : Program} {l : Launch} {e : Env} {s : State} {m : MethodId} {args : Array Value} {below : List Frame} {meth : Method} {c : Code} {D : va_G} {aK aV : Nat → Nat} {A : Nat → Prop} {cB cI cJ : ClassId} {q : Nat → Nat} {H : Heap} {locs : List Loc} {ls : Array Slot} {ρ : Bool × MSt} {a1 : Int32} {a2 : Int32} {s0 : Int32} {σ : MSt} (G : CX p s m args meth c D (gTy cB cI cJ) aK aV A RX5 cX5_coded 5 (some .boolean)) (hl : lv_has ls 5 [(0, .ref (q 0)), (1, .int a1), (2, .int a2)]) (hP : va_P D vwCl (mW cB cI cJ q σ) H) (hD : va_D A (mW cB cI cJ q σ)) (hS : va_S A s.heap H locs) (hf : mm_coded_b161 a1 a2 s0 σ = some ρ) : W p l e (rm_mm_coded) s m args below meth c H locs 0 0 (MQ below (cQ D (gTy cB cI cJ) A (mW cB cI cJ q ρ.2) (some (.int (bI ρ.1)))) args s 0 0 A) (F0 m 161 ls [.int s0]) := by
  unfold mm_coded_b161 at hf
  obtain ⟨hx, hb, hml, hown, hT, hrt, hlk, hK, hA, hG, hE⟩ := id G
  refine lv_istore (lv' := [(4, .int s0), (0, .ref (q 0)), (1, .int a1), (2, .int a2)]) hx hb dX5_coded_161 hl (by decide) rfl (fun ls hl => ?_)
  refine lv_iload hx hb dX5_coded_163 (lv_at hl 0 rfl) ?_
  refine lv_ldc (v := (56320 : Int32)) hx hb hown (hT _ wc_X5_136) dX5_coded_165 ?_
  refine lv_icmp_lt (tgt := 177) hx hb dX5_coded_167 (by decide) (fun c20 => ?_) (fun c20 => ?_)
  · have hf := (if_pos c20).symm.trans hf
    exact W.eq (g2 := F0 m 177 ls []) rfl (mm_coded_t177 G (lv_sub hl [1, 2] rfl) hP hD hS hf)
  · have hf := (if_neg c20).symm.trans hf
    refine lv_iload hx hb dX5_coded_170 (lv_at hl 0 rfl) ?_
    refine lv_ldc (v := (57343 : Int32)) hx hb hown (hT _ wc_X5_137) dX5_coded_172 ?_
    refine lv_icmp_le (tgt := 184) hx hb dX5_coded_174 (by decide) (fun c21 => ?_) (fun c21 => ?_)
    · have hf := (if_pos c21).symm.trans hf
      refine lv_aload_n hx hb dX5_coded_184 rfl (lv_at hl 1 rfl) ?_
      refine lv_dup hx hb dX5_coded_185 rfl ?_
      refine gm_X5_at (v := (mf_at σ)) G hP dX5_coded_186 rfl ?_
      refine lv_bipush (v := (6 : Int32)) hx hb dX5_coded_189 (by decide) ?_
      refine lv_iadd hx hb dX5_coded_191 ?_
      refine pm_X5_at (v := ((mf_at σ) + (6 : Int32))) G hP hD hS dX5_coded_192 (fun H locs hP hD hS => ?_)
      refine lv_aload_n hx hb dX5_coded_195 rfl (lv_at hl 1 rfl) ?_
      refine lv_ldc (v := (65536 : Int32)) hx hb hown (hT _ wc_X5_84) dX5_coded_196 ?_
      refine lv_iload_n hx hb dX5_coded_198 rfl (lv_at hl 3 rfl) ?_
      refine lv_ldc (v := (55296 : Int32)) hx hb hown (hT _ wc_X5_138) dX5_coded_199 ?_
      refine lv_isub hx hb dX5_coded_201 ?_
      refine lv_sipush (v := (1024 : Int32)) hx hb dX5_coded_202 (by decide) ?_
      refine lv_imul hx hb dX5_coded_205 ?_
      refine lv_iadd hx hb dX5_coded_206 ?_
      refine lv_iload hx hb dX5_coded_207 (lv_at hl 0 rfl) ?_
      refine lv_iadd hx hb dX5_coded_209 ?_
      refine lv_ldc (v := (56320 : Int32)) hx hb hown (hT _ wc_X5_136) dX5_coded_210 ?_
      refine lv_isub hx hb dX5_coded_212 ?_
      obtain ⟨x22, hx22, hf⟩ := bd_some hf
      refine vM (As := [.int ((((65536 : Int32) + ((a2 - (55296 : Int32)) * (1024 : Int32))) + s0) - (56320 : Int32))]) (rest := []) G kX5_140 (c_mm_sign hx22) hP hD hS ⟨rfl, rfl, Nat.le_of_ble_eq_true rfl, Nat.le_of_ble_eq_true rfl⟩ ⟨Nat.zero_le _, Nat.zero_le _⟩ rfl hl.1 (Nat.le_of_ble_eq_true rfl) dX5_coded_213 (fun H locs hP hD hS => ?_)
      refine W.eq (g2 := F0 m 216 ls []) rfl ?_
      refine lv_iconst (v := (1 : Int32)) hx hb dX5_coded_216 (by decide) ?_
      cases hf
      exact ct_iret G (bI_nar true) hP hD hS dX5_coded_217
    · have hf := (if_neg c21).symm.trans hf
      exact W.eq (g2 := F0 m 177 ls []) rfl (mm_coded_t177 G (lv_sub hl [1, 2] rfl) hP hD hS hf)
set_option maxHeartbeats 4000000 in
set_option maxRecDepth 100000 in
theorem mm_coded_t142 {p : Program} {l : Launch} {e : Env} {s : State} {m : MethodId} {args : Array Value} {below : List Frame} {meth : Method} {c : Code} {D : va_G} {aK aV : Nat → Nat} {A : Nat → Prop} {cB cI cJ : ClassId} {q : Nat → Nat} {H : Heap} {locs : List Loc} {ls : Array Slot} {ρ : Bool × MSt} {a1 : Int32} {a2 : Int32} {s0 : Int32} {σ : MSt} (G : CX p s m args meth c D (gTy cB cI cJ) aK aV A RX5 cX5_coded 5 (some .boolean)) (hl : lv_has ls 5 [(0, .ref (q 0)), (1, .int a1), (2, .int a2)]) (hP : va_P D vwCl (mW cB cI cJ q σ) H) (hD : va_D A (mW cB cI cJ q σ)) (hS : va_S A s.heap H locs) (hf : mm_coded_b142 a1 a2 s0 σ = some ρ) : W p l e (rm_mm_coded) s m args below meth c H locs 0 0 (MQ below (cQ D (gTy cB cI cJ) A (mW cB cI cJ q ρ.2) (some (.int (bI ρ.1)))) args s 0 0 A) (F0 m 142 ls [.int s0]) := by
  unfold mm_coded_b142 at hf
  obtain ⟨hx, hb, hml, hown, hT, hrt, hlk, hK, hA, hG, hE⟩ := id G
  refine lv_istore_n (lv' := [(3, .int s0), (0, .ref (q 0)), (1, .int a1), (2, .int a2)]) hx hb dX5_coded_142 rfl hl (by decide) rfl (fun ls hl => ?_)
  refine lv_iload_n hx hb dX5_coded_143 rfl (lv_at hl 0 rfl) ?_
  refine lv_if_eq (tgt := 160) hx hb dX5_coded_144 (by decide) (fun c18 => ?_) (fun c18 => ?_)
  · have hf := (if_pos c18).symm.trans hf
    refine lv_iconst (v := (-1 : Int32)) hx hb dX5_coded_160 (by decide) ?_
    exact W.eq (g2 := F0 m 161 ls [.int (-1 : Int32)]) rfl (mm_coded_t161 G (lv_sub hl [1, 2, 3] rfl) hP hD hS hf)
  · have hf := (if_neg c18).symm.trans hf
    refine lv_aload_n hx hb dX5_coded_147 rfl (lv_at hl 1 rfl) ?_
    refine lv_aload_n hx hb dX5_coded_148 rfl (lv_at hl 1 rfl) ?_
    refine gm_X5_at (v := (mf_at σ)) G hP dX5_coded_149 rfl ?_
    refine lv_iconst (v := (2 : Int32)) hx hb dX5_coded_152 (by decide) ?_
    refine lv_iadd hx hb dX5_coded_153 ?_
    obtain ⟨x19, hx19, hf⟩ := bd_some hf
    refine vM (As := [.int ((mf_at σ) + (2 : Int32))]) (rest := []) G kX5_133 (c_mm_four hx19) hP hD hS ⟨rfl, rfl, Nat.le_of_ble_eq_true rfl, Nat.le_of_ble_eq_true rfl⟩ ⟨Nat.zero_le _, Nat.zero_le _⟩ rfl hl.1 (Nat.le_of_ble_eq_true rfl) dX5_coded_154 (fun H locs hP hD hS => ?_)
    refine W.eq (g2 := F0 m 157 ls [.int x19.1]) rfl ?_
    refine lv_goto (tgt := 161) hx hb dX5_coded_157 (by decide) ?_
    exact W.eq (g2 := F0 m 161 ls [.int x19.1]) rfl (mm_coded_t161 G (lv_sub hl [1, 2, 3] rfl) hP hD hS hf)
set_option maxHeartbeats 4000000 in
set_option maxRecDepth 100000 in
theorem mm_coded_t75 {p : Program} {l : Launch} {e : Env} {s : State} {m : MethodId} {args : Array Value} {below : List Frame} {meth : Method} {c : Code} {D : va_G} {aK aV : Nat → Nat} {A : Nat → Prop} {cB cI cJ : ClassId} {q : Nat → Nat} {H : Heap} {locs : List Loc} {ls : Array Slot} {ρ : Bool × MSt} {a1 : Int32} {a2 : Int32} {σ : MSt} (G : CX p s m args meth c D (gTy cB cI cJ) aK aV A RX5 cX5_coded 5 (some .boolean)) (hl : lv_has ls 5 [(0, .ref (q 0)), (1, .int a1), (2, .int a2)]) (hP : va_P D vwCl (mW cB cI cJ q σ) H) (hD : va_D A (mW cB cI cJ q σ)) (hS : va_S A s.heap H locs) (hf : mm_coded_b75 a1 a2 σ = some ρ) : W p l e (rm_mm_coded) s m args below meth c H locs 0 0 (MQ below (cQ D (gTy cB cI cJ) A (mW cB cI cJ q ρ.2) (some (.int (bI ρ.1)))) args s 0 0 A) (F0 m 75 ls []) := by
  unfold mm_coded_b75 at hf
  obtain ⟨hx, hb, hml, hown, hT, hrt, hlk, hK, hA, hG, hE⟩ := id G
  refine lv_iload_n hx hb dX5_coded_75 rfl (lv_at hl 2 rfl) ?_
  refine lv_ldc (v := (55296 : Int32)) hx hb hown (hT _ wc_X5_138) dX5_coded_76 ?_
  refine lv_icmp_lt (tgt := 87) hx hb dX5_coded_78 (by decide) (fun c10 => ?_) (fun c10 => ?_)
  · have hf := (if_pos c10).symm.trans hf
    exact W.eq (g2 := F0 m 87 ls []) rfl (mm_coded_t87 G (lv_sub hl [0, 2] rfl) hP hD hS hf)
  · have hf := (if_neg c10).symm.trans hf
    refine lv_iload_n hx hb dX5_coded_81 rfl (lv_at hl 2 rfl) ?_
    refine lv_ldc (v := (56319 : Int32)) hx hb hown (hT _ wc_X5_139) dX5_coded_82 ?_
    refine lv_icmp_le (tgt := 94) hx hb dX5_coded_84 (by decide) (fun c11 => ?_) (fun c11 => ?_)
    · have hf := (if_pos c11).symm.trans hf
      refine lv_aload_n hx hb dX5_coded_94 rfl (lv_at hl 0 rfl) ?_
      refine gm_X5_at (v := (mf_at σ)) G hP dX5_coded_95 rfl ?_
      refine lv_iconst (v := (1 : Int32)) hx hb dX5_coded_98 (by decide) ?_
      refine lv_iadd hx hb dX5_coded_99 ?_
      refine lv_aload_n hx hb dX5_coded_100 rfl (lv_at hl 0 rfl) ?_
      refine gm_X5_taped (v := (mf_taped σ)) G hP dX5_coded_101 rfl ?_
      refine lv_icmp_ge (tgt := 141) hx hb dX5_coded_104 (by decide) (fun c12 => ?_) (fun c12 => ?_)
      · have hf := (if_pos c12).symm.trans hf
        refine lv_iconst (v := (0 : Int32)) hx hb dX5_coded_141 (by decide) ?_
        exact W.eq (g2 := F0 m 142 ls [.int (0 : Int32)]) rfl (mm_coded_t142 G (lv_sub hl [0, 1, 2] rfl) hP hD hS hf)
      · have hf := (if_neg c12).symm.trans hf
        refine lv_aload_n hx hb dX5_coded_107 rfl (lv_at hl 0 rfl) ?_
        refine gm_X5_tape G hP dX5_coded_108 ?_
        refine lv_aload_n hx hb dX5_coded_111 rfl (lv_at hl 0 rfl) ?_
        refine gm_X5_at (v := (mf_at σ)) G hP dX5_coded_112 rfl ?_
        obtain ⟨hi13, hf⟩ := ck_some hf
        refine lm_tape (f := (mf_tape σ)) G hP hi13 dX5_coded_115 rfl ?_
        refine lv_bipush (v := (92 : Int32)) hx hb dX5_coded_116 (by decide) ?_
        refine lv_icmp_ne (tgt := 141) hx hb dX5_coded_118 (by decide) (fun c14 => ?_) (fun c14 => ?_)
        · have hf := (if_neg c14).symm.trans hf
          refine lv_iconst (v := (0 : Int32)) hx hb dX5_coded_141 (by decide) ?_
          exact W.eq (g2 := F0 m 142 ls [.int (0 : Int32)]) rfl (mm_coded_t142 G (lv_sub hl [0, 1, 2] rfl) hP hD hS hf)
        · have hf := (if_pos c14).symm.trans hf
          refine lv_aload_n hx hb dX5_coded_121 rfl (lv_at hl 0 rfl) ?_
          refine gm_X5_tape G hP dX5_coded_122 ?_
          refine lv_aload_n hx hb dX5_coded_125 rfl (lv_at hl 0 rfl) ?_
          refine gm_X5_at (v := (mf_at σ)) G hP dX5_coded_126 rfl ?_
          refine lv_iconst (v := (1 : Int32)) hx hb dX5_coded_129 (by decide) ?_
          refine lv_iadd hx hb dX5_coded_130 ?_
          obtain ⟨hi15, hf⟩ := ck_some hf
          refine lm_tape (f := (mf_tape σ)) G hP hi15 dX5_coded_131 rfl ?_
          refine lv_bipush (v := (117 : Int32)) hx hb dX5_coded_132 (by decide) ?_
          refine lv_icmp_ne (tgt := 141) hx hb dX5_coded_134 (by decide) (fun c16 => ?_) (fun c16 => ?_)
          · have hf := (if_neg c16).symm.trans hf
            refine lv_iconst (v := (0 : Int32)) hx hb dX5_coded_141 (by decide) ?_
            exact W.eq (g2 := F0 m 142 ls [.int (0 : Int32)]) rfl (mm_coded_t142 G (lv_sub hl [0, 1, 2] rfl) hP hD hS hf)
          · have hf := (if_pos c16).symm.trans hf
            refine lv_iconst (v := (1 : Int32)) hx hb dX5_coded_137 (by decide) ?_
            refine lv_goto (tgt := 142) hx hb dX5_coded_138 (by decide) ?_
            exact W.eq (g2 := F0 m 142 ls [.int (1 : Int32)]) rfl (mm_coded_t142 G (lv_sub hl [0, 1, 2] rfl) hP hD hS hf)
    · have hf := (if_neg c11).symm.trans hf
      exact W.eq (g2 := F0 m 87 ls []) rfl (mm_coded_t87 G (lv_sub hl [0, 2] rfl) hP hD hS hf)
set_option maxHeartbeats 4000000 in
set_option maxRecDepth 100000 in
theorem mm_coded_t2 {p : Program} {l : Launch} {e : Env} {s : State} {m : MethodId} {args : Array Value} {below : List Frame} {meth : Method} {c : Code} {D : va_G} {aK aV : Nat → Nat} {A : Nat → Prop} {cB cI cJ : ClassId} {q : Nat → Nat} {H : Heap} {locs : List Loc} {ls : Array Slot} {ρ : Bool × MSt} {k2 : Int32 → Int32 → MSt → Option (Bool × MSt)} {a1 : Int32} {a2 : Int32} {σ : MSt} (G : CX p s m args meth c D (gTy cB cI cJ) aK aV A RX5 cX5_coded 5 (some .boolean)) (hk2 : ∀ (a1 : Int32) (a2 : Int32) (σ : MSt) (H : Heap) (locs : List Loc) (ls : Array Slot), lv_has ls 5 [(0, .ref (q 0)), (1, .int a1), (2, .int a2)] → va_P D vwCl (mW cB cI cJ q σ) H → va_D A (mW cB cI cJ q σ) → va_S A s.heap H locs → k2 a1 a2 σ = some ρ → W p l e (rm_mm_coded) s m args below meth c H locs 0 0 (MQ below (cQ D (gTy cB cI cJ) A (mW cB cI cJ q ρ.2) (some (.int (bI ρ.1)))) args s 0 0 A) (F0 m 2 ls [])) (hl : lv_has ls 5 [(0, .ref (q 0)), (1, .int a1), (2, .int a2)]) (hP : va_P D vwCl (mW cB cI cJ q σ) H) (hD : va_D A (mW cB cI cJ q σ)) (hS : va_S A s.heap H locs) (hf : mm_coded_b2 k2 a1 a2 σ = some ρ) : W p l e (rm_mm_coded) s m args below meth c H locs 0 0 (MQ below (cQ D (gTy cB cI cJ) A (mW cB cI cJ q ρ.2) (some (.int (bI ρ.1)))) args s 0 0 A) (F0 m 2 ls []) := by
  unfold mm_coded_b2 at hf
  obtain ⟨hx, hb, hml, hown, hT, hrt, hlk, hK, hA, hG, hE⟩ := id G
  refine lv_iload_n hx hb dX5_coded_2 rfl (lv_at hl 2 rfl) ?_
  refine lv_iconst (v := (4 : Int32)) hx hb dX5_coded_3 (by decide) ?_
  refine lv_icmp_ge (tgt := 38) hx hb dX5_coded_4 (by decide) (fun c1 => ?_) (fun c1 => ?_)
  · have hf := (if_pos c1).symm.trans hf
    refine lv_aload_n hx hb dX5_coded_38 rfl (lv_at hl 0 rfl) ?_
    refine lv_dup hx hb dX5_coded_39 rfl ?_
    refine gm_X5_at (v := (mf_at σ)) G hP dX5_coded_40 rfl ?_
    refine lv_iconst (v := (1 : Int32)) hx hb dX5_coded_43 (by decide) ?_
    refine lv_iadd hx hb dX5_coded_44 ?_
    refine pm_X5_at (v := ((mf_at σ) + (1 : Int32))) G hP hD hS dX5_coded_45 (fun H locs hP hD hS => ?_)
    refine lv_aload_n hx hb dX5_coded_48 rfl (lv_at hl 0 rfl) ?_
    refine lv_iload_n hx hb dX5_coded_49 rfl (lv_at hl 1 rfl) ?_
    refine lv_iconst (v := (2 : Int32)) hx hb dX5_coded_50 (by decide) ?_
    refine lv_iadd hx hb dX5_coded_51 ?_
    obtain ⟨x2, hx2, hf⟩ := bd_some hf
    refine vM (As := [.int (a1 + (2 : Int32))]) (rest := []) G kX5_133 (c_mm_four hx2) hP hD hS ⟨rfl, rfl, Nat.le_of_ble_eq_true rfl, Nat.le_of_ble_eq_true rfl⟩ ⟨Nat.zero_le _, Nat.zero_le _⟩ rfl hl.1 (Nat.le_of_ble_eq_true rfl) dX5_coded_52 (fun H locs hP hD hS => ?_)
    refine W.eq (g2 := F0 m 55 ls [.int x2.1]) rfl ?_
    refine lv_istore_n (lv' := [(2, .int x2.1), (0, .ref (q 0)), (1, .int a1)]) hx hb dX5_coded_55 rfl hl (by decide) rfl (fun ls hl => ?_)
    refine lv_iload_n hx hb dX5_coded_56 rfl (lv_at hl 0 rfl) ?_
    refine lv_ldc (v := (56320 : Int32)) hx hb hown (hT _ wc_X5_136) dX5_coded_57 ?_
    refine lv_icmp_lt (tgt := 75) hx hb dX5_coded_59 (by decide) (fun c3 => ?_) (fun c3 => ?_)
    · have hf := (if_pos c3).symm.trans hf
      exact W.eq (g2 := F0 m 75 ls []) rfl (mm_coded_t75 G (lv_sub hl [1, 2, 0] rfl) hP hD hS hf)
    · have hf := (if_neg c3).symm.trans hf
      refine lv_iload_n hx hb dX5_coded_62 rfl (lv_at hl 0 rfl) ?_
      refine lv_ldc (v := (57343 : Int32)) hx hb hown (hT _ wc_X5_137) dX5_coded_63 ?_
      refine lv_icmp_gt (tgt := 75) hx hb dX5_coded_65 (by decide) (fun c4 => ?_) (fun c4 => ?_)
      · have hf := (if_pos c4).symm.trans hf
        exact W.eq (g2 := F0 m 75 ls []) rfl (mm_coded_t75 G (lv_sub hl [1, 2, 0] rfl) hP hD hS hf)
      · have hf := (if_neg c4).symm.trans hf
        refine lv_aload_n hx hb dX5_coded_68 rfl (lv_at hl 1 rfl) ?_
        refine lv_iconst (v := (2 : Int32)) hx hb dX5_coded_69 (by decide) ?_
        refine lv_iload_n hx hb dX5_coded_70 rfl (lv_at hl 2 rfl) ?_
        obtain ⟨x5, hx5, hf⟩ := bd_some hf
        refine vM (As := [.int (2 : Int32), .int a1]) (rest := []) G kX5_90 (c_mm_wrong hx5) hP hD hS ⟨rfl, rfl, Nat.le_of_ble_eq_true rfl, Nat.le_of_ble_eq_true rfl⟩ ⟨Nat.zero_le _, Nat.zero_le _⟩ rfl hl.1 (Nat.le_of_ble_eq_true rfl) dX5_coded_71 (fun H locs hP hD hS => ?_)
        refine W.eq (g2 := F0 m 74 ls [.int (bI x5.1)]) rfl ?_
        cases hf
        exact ct_iret G (bI_nar x5.1) hP hD hS dX5_coded_74
  · have hf := (if_neg c1).symm.trans hf
    refine lv_aload_n hx hb dX5_coded_7 rfl (lv_at hl 0 rfl) ?_
    refine lv_dup hx hb dX5_coded_8 rfl ?_
    refine gm_X5_at (v := (mf_at σ)) G hP dX5_coded_9 rfl ?_
    refine lv_iconst (v := (1 : Int32)) hx hb dX5_coded_12 (by decide) ?_
    refine lv_iadd hx hb dX5_coded_13 ?_
    refine pm_X5_at (v := ((mf_at σ) + (1 : Int32))) G hP hD hS dX5_coded_14 (fun H locs hP hD hS => ?_)
    refine lv_aload_n hx hb dX5_coded_17 rfl (lv_at hl 0 rfl) ?_
    obtain ⟨x6, hx6, hf⟩ := bd_some hf
    refine vM (As := []) (rest := []) G kX5_86 (c_mm_here hx6) hP hD hS ⟨rfl, rfl, Nat.le_of_ble_eq_true rfl, Nat.le_of_ble_eq_true rfl⟩ ⟨Nat.zero_le _, Nat.zero_le _⟩ rfl hl.1 (Nat.le_of_ble_eq_true rfl) dX5_coded_18 (fun H locs hP hD hS => ?_)
    refine W.eq (g2 := F0 m 21 ls [.int x6.1]) rfl ?_
    refine ct_s0 (As := [.int x6.1]) (rest := []) G kX5_129 (c_eX5_hexOf x6.1) hP hD hS ⟨rfl, rfl, Nat.le_of_ble_eq_true rfl, Nat.le_of_ble_eq_true rfl⟩ ⟨Nat.zero_le _, Nat.zero_le _⟩ rfl hl.1 (Nat.le_of_ble_eq_true rfl) dX5_coded_21 (fun H locs hP hS => ?_)
    refine W.eq (g2 := F0 m 24 ls [.int (eX5_hexOf x6.1)]) rfl ?_
    refine lv_if_ge (tgt := 32) hx hb dX5_coded_24 (by decide) (fun c7 => ?_) (fun c7 => ?_)
    · have hf := (if_pos c7).symm.trans hf
      obtain ⟨v8, ev8⟩ : ∃ y : Int32, y = (a2 + (1 : Int32)) := ⟨_, rfl⟩
      have hf := lt_eq hf ev8
      refine lv_iinc (v := v8) (lv' := [(2, .int v8), (0, .ref (q 0)), (1, .int a1)]) hx hb dX5_coded_32 hl (k := 2) rfl (by rw [ev8]; rfl) (by decide) rfl (fun ls hl => ?_)
      refine lv_goto (tgt := 2) hx hb dX5_coded_35 (by decide) ?_
      exact W.eq (g2 := F0 m 2 ls []) rfl (hk2 _ _ _ _ _ _ (lv_sub hl [1, 2, 0] rfl) hP hD hS hf)
    · have hf := (if_neg c7).symm.trans hf
      refine lv_aload_n hx hb dX5_coded_27 rfl (lv_at hl 0 rfl) ?_
      obtain ⟨x9, hx9, hf⟩ := bd_some hf
      refine vM (As := []) (rest := []) G kX5_98 (c_mm_stuck hx9) hP hD hS ⟨rfl, rfl, Nat.le_of_ble_eq_true rfl, Nat.le_of_ble_eq_true rfl⟩ ⟨Nat.zero_le _, Nat.zero_le _⟩ rfl hl.1 (Nat.le_of_ble_eq_true rfl) dX5_coded_28 (fun H locs hP hD hS => ?_)
      refine W.eq (g2 := F0 m 31 ls [.int (bI x9.1)]) rfl ?_
      cases hf
      exact ct_iret G (bI_nar x9.1) hP hD hS dX5_coded_31
set_option maxHeartbeats 4000000 in
set_option maxRecDepth 100000 in
theorem mm_coded_u2 {p : Program} {l : Launch} {e : Env} {s : State} {m : MethodId} {args : Array Value} {below : List Frame} {meth : Method} {c : Code} {D : va_G} {aK aV : Nat → Nat} {A : Nat → Prop} {cB cI cJ : ClassId} {q : Nat → Nat} {ρ : Bool × MSt} (G : CX p s m args meth c D (gTy cB cI cJ) aK aV A RX5 cX5_coded 5 (some .boolean)) : ∀ (n : Nat) {a1 : Int32} {a2 : Int32} {σ : MSt} {H : Heap} {locs : List Loc} {ls : Array Slot} (hl : lv_has ls 5 [(0, .ref (q 0)), (1, .int a1), (2, .int a2)]) (hP : va_P D vwCl (mW cB cI cJ q σ) H) (hD : va_D A (mW cB cI cJ q σ)) (hS : va_S A s.heap H locs) (hf : mm_coded_L2 n a1 a2 σ = some ρ), W p l e (rm_mm_coded) s m args below meth c H locs 0 0 (MQ below (cQ D (gTy cB cI cJ) A (mW cB cI cJ q ρ.2) (some (.int (bI ρ.1)))) args s 0 0 A) (F0 m 2 ls []) := by
  intro n
  induction n with
  | zero =>
    intros
    rename_i hf
    cases hf
  | succ n ih =>
    intro a1 a2 σ H locs ls hl hP hD hS hf
    exact mm_coded_t2 G (fun _ _ _ H locs ls hl hP hD hS hf => ih hl hP hD hS hf) hl hP hD hS hf
set_option maxHeartbeats 4000000 in
set_option maxRecDepth 100000 in
theorem mm_coded_t0e {p : Program} {l : Launch} {e : Env} {s : State} {m : MethodId} {args : Array Value} {below : List Frame} {meth : Method} {c : Code} {D : va_G} {aK aV : Nat → Nat} {A : Nat → Prop} {cB cI cJ : ClassId} {q : Nat → Nat} {H : Heap} {locs : List Loc} {ls : Array Slot} {ρ : Bool × MSt} {p0 : Int32} {σ : MSt} (G : CX p s m args meth c D (gTy cB cI cJ) aK aV A RX5 cX5_coded 5 (some .boolean)) (hl : lv_has ls 5 [(0, .ref (q 0)), (1, .int p0)]) (hP : va_P D vwCl (mW cB cI cJ q σ) H) (hD : va_D A (mW cB cI cJ q σ)) (hS : va_S A s.heap H locs) (hf : mm_coded p0 σ = some ρ) : W p l e (rm_mm_coded) s m args below meth c H locs 0 0 (MQ below (cQ D (gTy cB cI cJ) A (mW cB cI cJ q ρ.2) (some (.int (bI ρ.1)))) args s 0 0 A) (F0 m 0 ls []) := by
  unfold mm_coded at hf
  obtain ⟨hx, hb, hml, hown, hT, hrt, hlk, hK, hA, hG, hE⟩ := id G
  refine lv_iconst (v := (0 : Int32)) hx hb dX5_coded_0 (by decide) ?_
  refine lv_istore_n (lv' := [(2, .int (0 : Int32)), (0, .ref (q 0)), (1, .int p0)]) hx hb dX5_coded_1 rfl hl (by decide) rfl (fun ls hl => ?_)
  exact W.eq (g2 := F0 m 2 ls []) rfl (mm_coded_u2 G FU (lv_sub hl [1, 2, 0] rfl) hP hD hS hf)
set_option maxHeartbeats 4000000 in
set_option maxRecDepth 100000 in
theorem c_mm_coded {l : Launch} {D : va_G} {aK aV : Nat → Nat} {cB cI cJ : ClassId} {q : Nat → Nat} {ρ : Bool × MSt} {p0 : Int32} {σ : MSt} (hf : mm_coded p0 σ = some ρ) : CT l D (gTy cB cI cJ) aK aV yX5_coded (wM yX5_coded cX5_coded 5 (some .boolean)) (rm_mm_coded) 0 0 [.ref (q 0), .int p0] (mW cB cI cJ q σ) (some (.int (bI ρ.1))) (mW cB cI cJ q ρ.2) := by
  refine CT.of (by decide) rfl ?_
  intro p e s m below meth c A G hnm hP hD hS
  have hl := lv_entry [.ref (q 0), .int p0] (n := 5) (Nat.le_of_ble_eq_true rfl)
  rw [lg_entry_eq]
  generalize (lg_sl [.ref (q 0), .int p0] ++ List.replicate (5 - (lg_sl [.ref (q 0), .int p0]).length) Slot.unset).toArray = ls at hl ⊢
  exact mm_coded_t0e G hl hP hD hS hf
def mm_escape_b110 (s0 : Int32) (σ : MSt) : Option (Bool × MSt) := (if 0 ≤ s0 then bd (mm_letter s0 σ) (fun (x14 : MSt) => some (true, (ms_at x14 ((mf_at x14) + (1 : Int32))))) else bd (mm_stuck  σ) (fun (x15 : Bool × MSt) => some (x15.1, x15.2)))
def mm_escape (σ : MSt) : Option (Bool × MSt) := lt (mf_at σ) (fun (v1 : Int32) => bd (mm_here  (ms_at σ ((mf_at σ) + (1 : Int32)))) (fun (x2 : Int32 × MSt) => (if x2.1 = (117 : Int32) then bd (mm_coded v1 x2.2) (fun (x12 : Bool × MSt) => some (x12.1, x12.2)) else (if x2.1 = (34 : Int32) then mm_escape_b110 x2.1 x2.2 else (if x2.1 = (92 : Int32) then mm_escape_b110 x2.1 x2.2 else (if x2.1 = (47 : Int32) then mm_escape_b110 x2.1 x2.2 else (if x2.1 = (98 : Int32) then mm_escape_b110 (8 : Int32) x2.2 else (if x2.1 = (102 : Int32) then mm_escape_b110 (12 : Int32) x2.2 else (if x2.1 = (110 : Int32) then mm_escape_b110 (10 : Int32) x2.2 else (if x2.1 = (114 : Int32) then mm_escape_b110 (13 : Int32) x2.2 else (if x2.1 = (116 : Int32) then mm_escape_b110 (9 : Int32) x2.2 else mm_escape_b110 (-1 : Int32) x2.2)))))))))))
abbrev rm_mm_escape : Room := { frames := 3, cells := 0, slots := 0, locals := 68 }
set_option maxHeartbeats 4000000 in
set_option maxRecDepth 100000 in
theorem mm_escape_t110 {p : Program} {l : Launch} {e : Env} {s : State} {m : MethodId} {args : Array Value} {below : List Frame} {meth : Method} {c : Code} {D : va_G} {aK aV : Nat → Nat} {A : Nat → Prop} {cB cI cJ : ClassId} {q : Nat → Nat} {H : Heap} {locs : List Loc} {ls : Array Slot} {ρ : Bool × MSt} {s0 : Int32} {σ : MSt} (G : CX p s m args meth c D (gTy cB cI cJ) aK aV A RX5 cX5_escape 4 (some .boolean)) (hl : lv_has ls 4 [(0, .ref (q 0))]) (hP : va_P D vwCl (mW cB cI cJ q σ) H) (hD : va_D A (mW cB cI cJ q σ)) (hS : va_S A s.heap H locs) (hf : mm_escape_b110 s0 σ = some ρ) : W p l e (rm_mm_escape) s m args below meth c H locs 0 0 (MQ below (cQ D (gTy cB cI cJ) A (mW cB cI cJ q ρ.2) (some (.int (bI ρ.1)))) args s 0 0 A) (F0 m 110 ls [.int s0]) := by
  unfold mm_escape_b110 at hf
  obtain ⟨hx, hb, hml, hown, hT, hrt, hlk, hK, hA, hG, hE⟩ := id G
  refine lv_istore_n (lv' := [(3, .int s0), (0, .ref (q 0))]) hx hb dX5_escape_110 rfl hl (by decide) rfl (fun ls hl => ?_)
  refine lv_iload_n hx hb dX5_escape_111 rfl (lv_at hl 0 rfl) ?_
  refine lv_if_ge (tgt := 120) hx hb dX5_escape_112 (by decide) (fun c13 => ?_) (fun c13 => ?_)
  · have hf := (if_pos c13).symm.trans hf
    refine lv_aload_n hx hb dX5_escape_120 rfl (lv_at hl 1 rfl) ?_
    refine lv_iload_n hx hb dX5_escape_121 rfl (lv_at hl 0 rfl) ?_
    obtain ⟨x14, hx14, hf⟩ := bd_some hf
    refine vM (As := [.int s0]) (rest := []) G kX5_80 (c_mm_letter hx14) hP hD hS ⟨rfl, rfl, Nat.le_of_ble_eq_true rfl, Nat.le_of_ble_eq_true rfl⟩ ⟨Nat.zero_le _, Nat.zero_le _⟩ rfl hl.1 (Nat.le_of_ble_eq_true rfl) dX5_escape_122 (fun H locs hP hD hS => ?_)
    refine W.eq (g2 := F0 m 125 ls []) rfl ?_
    refine lv_aload_n hx hb dX5_escape_125 rfl (lv_at hl 1 rfl) ?_
    refine lv_dup hx hb dX5_escape_126 rfl ?_
    refine gm_X5_at (v := (mf_at x14)) G hP dX5_escape_127 rfl ?_
    refine lv_iconst (v := (1 : Int32)) hx hb dX5_escape_130 (by decide) ?_
    refine lv_iadd hx hb dX5_escape_131 ?_
    refine pm_X5_at (v := ((mf_at x14) + (1 : Int32))) G hP hD hS dX5_escape_132 (fun H locs hP hD hS => ?_)
    refine lv_iconst (v := (1 : Int32)) hx hb dX5_escape_135 (by decide) ?_
    cases hf
    exact ct_iret G (bI_nar true) hP hD hS dX5_escape_136
  · have hf := (if_neg c13).symm.trans hf
    refine lv_aload_n hx hb dX5_escape_115 rfl (lv_at hl 1 rfl) ?_
    obtain ⟨x15, hx15, hf⟩ := bd_some hf
    refine vM (As := []) (rest := []) G kX5_98 (c_mm_stuck hx15) hP hD hS ⟨rfl, rfl, Nat.le_of_ble_eq_true rfl, Nat.le_of_ble_eq_true rfl⟩ ⟨Nat.zero_le _, Nat.zero_le _⟩ rfl hl.1 (Nat.le_of_ble_eq_true rfl) dX5_escape_116 (fun H locs hP hD hS => ?_)
    refine W.eq (g2 := F0 m 119 ls [.int (bI x15.1)]) rfl ?_
    cases hf
    exact ct_iret G (bI_nar x15.1) hP hD hS dX5_escape_119
set_option maxHeartbeats 4000000 in
set_option maxRecDepth 100000 in
theorem mm_escape_t0e {p : Program} {l : Launch} {e : Env} {s : State} {m : MethodId} {args : Array Value} {below : List Frame} {meth : Method} {c : Code} {D : va_G} {aK aV : Nat → Nat} {A : Nat → Prop} {cB cI cJ : ClassId} {q : Nat → Nat} {H : Heap} {locs : List Loc} {ls : Array Slot} {ρ : Bool × MSt} {σ : MSt} (G : CX p s m args meth c D (gTy cB cI cJ) aK aV A RX5 cX5_escape 4 (some .boolean)) (hl : lv_has ls 4 [(0, .ref (q 0))]) (hP : va_P D vwCl (mW cB cI cJ q σ) H) (hD : va_D A (mW cB cI cJ q σ)) (hS : va_S A s.heap H locs) (hf : mm_escape σ = some ρ) : W p l e (rm_mm_escape) s m args below meth c H locs 0 0 (MQ below (cQ D (gTy cB cI cJ) A (mW cB cI cJ q ρ.2) (some (.int (bI ρ.1)))) args s 0 0 A) (F0 m 0 ls []) := by
  unfold mm_escape at hf
  obtain ⟨hx, hb, hml, hown, hT, hrt, hlk, hK, hA, hG, hE⟩ := id G
  refine lv_aload_n hx hb dX5_escape_0 rfl (lv_at hl 0 rfl) ?_
  refine gm_X5_at (v := (mf_at σ)) G hP dX5_escape_1 rfl ?_
  refine lv_topi (fun v1 ev1 => ?_)
  have hf := lt_eq hf ev1
  refine lv_istore_n (lv' := [(1, .int v1), (0, .ref (q 0))]) hx hb dX5_escape_4 rfl hl (by decide) rfl (fun ls hl => ?_)
  refine lv_aload_n hx hb dX5_escape_5 rfl (lv_at hl 1 rfl) ?_
  refine lv_dup hx hb dX5_escape_6 rfl ?_
  refine gm_X5_at (v := (mf_at σ)) G hP dX5_escape_7 rfl ?_
  refine lv_iconst (v := (1 : Int32)) hx hb dX5_escape_10 (by decide) ?_
  refine lv_iadd hx hb dX5_escape_11 ?_
  refine pm_X5_at (v := ((mf_at σ) + (1 : Int32))) G hP hD hS dX5_escape_12 (fun H locs hP hD hS => ?_)
  refine lv_aload_n hx hb dX5_escape_15 rfl (lv_at hl 1 rfl) ?_
  obtain ⟨x2, hx2, hf⟩ := bd_some hf
  refine vM (As := []) (rest := []) G kX5_86 (c_mm_here hx2) hP hD hS ⟨rfl, rfl, Nat.le_of_ble_eq_true rfl, Nat.le_of_ble_eq_true rfl⟩ ⟨Nat.zero_le _, Nat.zero_le _⟩ rfl hl.1 (Nat.le_of_ble_eq_true rfl) dX5_escape_16 (fun H locs hP hD hS => ?_)
  refine W.eq (g2 := F0 m 19 ls [.int x2.1]) rfl ?_
  refine lv_istore_n (lv' := [(2, .int x2.1), (1, .int v1), (0, .ref (q 0))]) hx hb dX5_escape_19 rfl hl (by decide) rfl (fun ls hl => ?_)
  refine lv_iload_n hx hb dX5_escape_20 rfl (lv_at hl 0 rfl) ?_
  refine lv_bipush (v := (117 : Int32)) hx hb dX5_escape_21 (by decide) ?_
  refine lv_icmp_ne (tgt := 32) hx hb dX5_escape_23 (by decide) (fun c3 => ?_) (fun c3 => ?_)
  · have hf := (if_neg c3).symm.trans hf
    refine lv_iload_n hx hb dX5_escape_32 rfl (lv_at hl 0 rfl) ?_
    refine lv_bipush (v := (34 : Int32)) hx hb dX5_escape_33 (by decide) ?_
    refine lv_icmp_eq (tgt := 50) hx hb dX5_escape_35 (by decide) (fun c4 => ?_) (fun c4 => ?_)
    · have hf := (if_pos c4).symm.trans hf
      refine lv_iload_n hx hb dX5_escape_50 rfl (lv_at hl 0 rfl) ?_
      refine lv_goto (tgt := 110) hx hb dX5_escape_51 (by decide) ?_
      exact W.eq (g2 := F0 m 110 ls [.int x2.1]) rfl (mm_escape_t110 G (lv_sub hl [2] rfl) hP hD hS hf)
    · have hf := (if_neg c4).symm.trans hf
      refine lv_iload_n hx hb dX5_escape_38 rfl (lv_at hl 0 rfl) ?_
      refine lv_bipush (v := (92 : Int32)) hx hb dX5_escape_39 (by decide) ?_
      refine lv_icmp_eq (tgt := 50) hx hb dX5_escape_41 (by decide) (fun c5 => ?_) (fun c5 => ?_)
      · have hf := (if_pos c5).symm.trans hf
        refine lv_iload_n hx hb dX5_escape_50 rfl (lv_at hl 0 rfl) ?_
        refine lv_goto (tgt := 110) hx hb dX5_escape_51 (by decide) ?_
        exact W.eq (g2 := F0 m 110 ls [.int x2.1]) rfl (mm_escape_t110 G (lv_sub hl [2] rfl) hP hD hS hf)
      · have hf := (if_neg c5).symm.trans hf
        refine lv_iload_n hx hb dX5_escape_44 rfl (lv_at hl 0 rfl) ?_
        refine lv_bipush (v := (47 : Int32)) hx hb dX5_escape_45 (by decide) ?_
        refine lv_icmp_ne (tgt := 54) hx hb dX5_escape_47 (by decide) (fun c6 => ?_) (fun c6 => ?_)
        · have hf := (if_neg c6).symm.trans hf
          refine lv_iload_n hx hb dX5_escape_54 rfl (lv_at hl 0 rfl) ?_
          refine lv_bipush (v := (98 : Int32)) hx hb dX5_escape_55 (by decide) ?_
          refine lv_icmp_ne (tgt := 65) hx hb dX5_escape_57 (by decide) (fun c7 => ?_) (fun c7 => ?_)
          · have hf := (if_neg c7).symm.trans hf
            refine lv_iload_n hx hb dX5_escape_65 rfl (lv_at hl 0 rfl) ?_
            refine lv_bipush (v := (102 : Int32)) hx hb dX5_escape_66 (by decide) ?_
            refine lv_icmp_ne (tgt := 76) hx hb dX5_escape_68 (by decide) (fun c8 => ?_) (fun c8 => ?_)
            · have hf := (if_neg c8).symm.trans hf
              refine lv_iload_n hx hb dX5_escape_76 rfl (lv_at hl 0 rfl) ?_
              refine lv_bipush (v := (110 : Int32)) hx hb dX5_escape_77 (by decide) ?_
              refine lv_icmp_ne (tgt := 87) hx hb dX5_escape_79 (by decide) (fun c9 => ?_) (fun c9 => ?_)
              · have hf := (if_neg c9).symm.trans hf
                refine lv_iload_n hx hb dX5_escape_87 rfl (lv_at hl 0 rfl) ?_
                refine lv_bipush (v := (114 : Int32)) hx hb dX5_escape_88 (by decide) ?_
                refine lv_icmp_ne (tgt := 98) hx hb dX5_escape_90 (by decide) (fun c10 => ?_) (fun c10 => ?_)
                · have hf := (if_neg c10).symm.trans hf
                  refine lv_iload_n hx hb dX5_escape_98 rfl (lv_at hl 0 rfl) ?_
                  refine lv_bipush (v := (116 : Int32)) hx hb dX5_escape_99 (by decide) ?_
                  refine lv_icmp_ne (tgt := 109) hx hb dX5_escape_101 (by decide) (fun c11 => ?_) (fun c11 => ?_)
                  · have hf := (if_neg c11).symm.trans hf
                    refine lv_iconst (v := (-1 : Int32)) hx hb dX5_escape_109 (by decide) ?_
                    exact W.eq (g2 := F0 m 110 ls [.int (-1 : Int32)]) rfl (mm_escape_t110 G (lv_sub hl [2] rfl) hP hD hS hf)
                  · have hf := (if_pos c11).symm.trans hf
                    refine lv_bipush (v := (9 : Int32)) hx hb dX5_escape_104 (by decide) ?_
                    refine lv_goto (tgt := 110) hx hb dX5_escape_106 (by decide) ?_
                    exact W.eq (g2 := F0 m 110 ls [.int (9 : Int32)]) rfl (mm_escape_t110 G (lv_sub hl [2] rfl) hP hD hS hf)
                · have hf := (if_pos c10).symm.trans hf
                  refine lv_bipush (v := (13 : Int32)) hx hb dX5_escape_93 (by decide) ?_
                  refine lv_goto (tgt := 110) hx hb dX5_escape_95 (by decide) ?_
                  exact W.eq (g2 := F0 m 110 ls [.int (13 : Int32)]) rfl (mm_escape_t110 G (lv_sub hl [2] rfl) hP hD hS hf)
              · have hf := (if_pos c9).symm.trans hf
                refine lv_bipush (v := (10 : Int32)) hx hb dX5_escape_82 (by decide) ?_
                refine lv_goto (tgt := 110) hx hb dX5_escape_84 (by decide) ?_
                exact W.eq (g2 := F0 m 110 ls [.int (10 : Int32)]) rfl (mm_escape_t110 G (lv_sub hl [2] rfl) hP hD hS hf)
            · have hf := (if_pos c8).symm.trans hf
              refine lv_bipush (v := (12 : Int32)) hx hb dX5_escape_71 (by decide) ?_
              refine lv_goto (tgt := 110) hx hb dX5_escape_73 (by decide) ?_
              exact W.eq (g2 := F0 m 110 ls [.int (12 : Int32)]) rfl (mm_escape_t110 G (lv_sub hl [2] rfl) hP hD hS hf)
          · have hf := (if_pos c7).symm.trans hf
            refine lv_bipush (v := (8 : Int32)) hx hb dX5_escape_60 (by decide) ?_
            refine lv_goto (tgt := 110) hx hb dX5_escape_62 (by decide) ?_
            exact W.eq (g2 := F0 m 110 ls [.int (8 : Int32)]) rfl (mm_escape_t110 G (lv_sub hl [2] rfl) hP hD hS hf)
        · have hf := (if_pos c6).symm.trans hf
          refine lv_iload_n hx hb dX5_escape_50 rfl (lv_at hl 0 rfl) ?_
          refine lv_goto (tgt := 110) hx hb dX5_escape_51 (by decide) ?_
          exact W.eq (g2 := F0 m 110 ls [.int x2.1]) rfl (mm_escape_t110 G (lv_sub hl [2] rfl) hP hD hS hf)
  · have hf := (if_pos c3).symm.trans hf
    refine lv_aload_n hx hb dX5_escape_26 rfl (lv_at hl 2 rfl) ?_
    refine lv_iload_n hx hb dX5_escape_27 rfl (lv_at hl 1 rfl) ?_
    obtain ⟨x12, hx12, hf⟩ := bd_some hf
    refine vM (As := [.int v1]) (rest := []) G kX5_143 (c_mm_coded hx12) hP hD hS ⟨rfl, rfl, Nat.le_of_ble_eq_true rfl, Nat.le_of_ble_eq_true rfl⟩ ⟨Nat.zero_le _, Nat.zero_le _⟩ rfl hl.1 (Nat.le_of_ble_eq_true rfl) dX5_escape_28 (fun H locs hP hD hS => ?_)
    refine W.eq (g2 := F0 m 31 ls [.int (bI x12.1)]) rfl ?_
    cases hf
    exact ct_iret G (bI_nar x12.1) hP hD hS dX5_escape_31
set_option maxHeartbeats 4000000 in
set_option maxRecDepth 100000 in
theorem c_mm_escape {l : Launch} {D : va_G} {aK aV : Nat → Nat} {cB cI cJ : ClassId} {q : Nat → Nat} {ρ : Bool × MSt} {σ : MSt} (hf : mm_escape σ = some ρ) : CT l D (gTy cB cI cJ) aK aV yX5_escape (wM yX5_escape cX5_escape 4 (some .boolean)) (rm_mm_escape) 0 0 [.ref (q 0)] (mW cB cI cJ q σ) (some (.int (bI ρ.1))) (mW cB cI cJ q ρ.2) := by
  refine CT.of (by decide) rfl ?_
  intro p e s m below meth c A G hnm hP hD hS
  have hl := lv_entry [.ref (q 0)] (n := 4) (Nat.le_of_ble_eq_true rfl)
  rw [lg_entry_eq]
  generalize (lg_sl [.ref (q 0)] ++ List.replicate (4 - (lg_sl [.ref (q 0)]).length) Slot.unset).toArray = ls at hl ⊢
  exact mm_escape_t0e G hl hP hD hS hf
def mm_string_b87 (k17 : Int32 → MSt → Option (Bool × MSt)) (k87 : Int32 → Int32 → Int32 → MSt → Option (Bool × MSt)) (a1 : Int32) (a3 : Int32) (a4 : Int32) (σ : MSt) : Option (Bool × MSt) := (if a3 ≤ a4 then k17 a1 (ms_at σ ((mf_at σ) + a3)) else ck ((mf_at σ) + a4) 4000 (bd (mm_letter ((mf_tape σ) (((mf_at σ) + a4)).toNatClampNeg) σ) (fun (x17 : MSt) => lt (a4 + (1 : Int32)) (fun (v18 : Int32) => k87 a1 a3 v18 x17))))
def mm_string_L87 (k17 : Int32 → MSt → Option (Bool × MSt)) : Nat → Int32 → Int32 → Int32 → MSt → Option (Bool × MSt)
  | 0, _, _, _, _ => none
  | n + 1, a1, a3, a4, σ => mm_string_b87 k17 (mm_string_L87 k17 n) a1 a3 a4 σ
def mm_string_b17 (k17 : Int32 → MSt → Option (Bool × MSt)) (a1 : Int32) (σ : MSt) : Option (Bool × MSt) := bd (mm_here  σ) (fun (x2 : Int32 × MSt) => (if x2.1 = (34 : Int32) then ck a1 4200 (ck a1 4200 (some (true, (ms_numbers (ms_at x2.2 ((mf_at x2.2) + (1 : Int32))) (vp_updL (mf_numbers x2.2) (a1).toNatClampNeg (Int32.toInt64 ((mf_lettersMany x2.2) - ((mf_places x2.2) (a1).toNatClampNeg)))))))) else bd (mm_here  x2.2) (fun (x6 : Int32 × MSt) => (if (32 : Int32) ≤ x6.1 then (if x6.1 = (92 : Int32) then bd (mm_escape  x6.2) (fun (x12 : Bool × MSt) => (if x12.1 = true then k17 a1 x12.2 else some (false, x12.2))) else bd (mm_signSize (mf_at x6.2) (mf_taped x6.2) x6.2) (fun (x9 : Int32 × MSt) => (if x9.1 = 0 then bd (mm_wrong (2 : Int32) (mf_at x9.2) x9.2) (fun (x11 : Bool × MSt) => some (x11.1, x11.2)) else mm_string_L87 k17 FU a1 x9.1 (0 : Int32) x9.2))) else bd (mm_stuck  x6.2) (fun (x14 : Bool × MSt) => some (x14.1, x14.2))))))
def mm_string_L17 : Nat → Int32 → MSt → Option (Bool × MSt)
  | 0, _, _ => none
  | n + 1, a1, σ => mm_string_b17 (mm_string_L17 n) a1 σ
def mm_string (σ : MSt) : Option (Bool × MSt) := bd (mm_thing (3 : Int32) (0 : Int64) σ) (fun (x1 : Int32 × MSt) => mm_string_L17 FU x1.1 (ms_at x1.2 ((mf_at x1.2) + (1 : Int32))))
abbrev rm_mm_string : Room := { frames := 4, cells := 0, slots := 0, locals := 91 }
set_option maxHeartbeats 4000000 in
set_option maxRecDepth 100000 in
theorem mm_string_t87 {p : Program} {l : Launch} {e : Env} {s : State} {m : MethodId} {args : Array Value} {below : List Frame} {meth : Method} {c : Code} {D : va_G} {aK aV : Nat → Nat} {A : Nat → Prop} {cB cI cJ : ClassId} {q : Nat → Nat} {H : Heap} {locs : List Loc} {ls : Array Slot} {ρ : Bool × MSt} {k17 : Int32 → MSt → Option (Bool × MSt)} {k87 : Int32 → Int32 → Int32 → MSt → Option (Bool × MSt)} {a1 : Int32} {a3 : Int32} {a4 : Int32} {σ : MSt} (G : CX p s m args meth c D (gTy cB cI cJ) aK aV A RX5 cX5_string 5 (some .boolean)) (hk17 : ∀ (a1 : Int32) (σ : MSt) (H : Heap) (locs : List Loc) (ls : Array Slot), lv_has ls 5 [(0, .ref (q 0)), (1, .int a1)] → va_P D vwCl (mW cB cI cJ q σ) H → va_D A (mW cB cI cJ q σ) → va_S A s.heap H locs → k17 a1 σ = some ρ → W p l e (rm_mm_string) s m args below meth c H locs 0 0 (MQ below (cQ D (gTy cB cI cJ) A (mW cB cI cJ q ρ.2) (some (.int (bI ρ.1)))) args s 0 0 A) (F0 m 17 ls [])) (hk87 : ∀ (a1 : Int32) (a3 : Int32) (a4 : Int32) (σ : MSt) (H : Heap) (locs : List Loc) (ls : Array Slot), lv_has ls 5 [(0, .ref (q 0)), (1, .int a1), (3, .int a3), (4, .int a4)] → va_P D vwCl (mW cB cI cJ q σ) H → va_D A (mW cB cI cJ q σ) → va_S A s.heap H locs → k87 a1 a3 a4 σ = some ρ → W p l e (rm_mm_string) s m args below meth c H locs 0 0 (MQ below (cQ D (gTy cB cI cJ) A (mW cB cI cJ q ρ.2) (some (.int (bI ρ.1)))) args s 0 0 A) (F0 m 87 ls [])) (hl : lv_has ls 5 [(0, .ref (q 0)), (1, .int a1), (3, .int a3), (4, .int a4)]) (hP : va_P D vwCl (mW cB cI cJ q σ) H) (hD : va_D A (mW cB cI cJ q σ)) (hS : va_S A s.heap H locs) (hf : mm_string_b87 k17 k87 a1 a3 a4 σ = some ρ) : W p l e (rm_mm_string) s m args below meth c H locs 0 0 (MQ below (cQ D (gTy cB cI cJ) A (mW cB cI cJ q ρ.2) (some (.int (bI ρ.1)))) args s 0 0 A) (F0 m 87 ls []) := by
  unfold mm_string_b87 at hf
  obtain ⟨hx, hb, hml, hown, hT, hrt, hlk, hK, hA, hG, hE⟩ := id G
  refine lv_iload hx hb dX5_string_87 (lv_at hl 3 rfl) ?_
  refine lv_iload_n hx hb dX5_string_89 rfl (lv_at hl 2 rfl) ?_
  refine lv_icmp_ge (tgt := 115) hx hb dX5_string_90 (by decide) (fun c15 => ?_) (fun c15 => ?_)
  · have hf := (if_pos c15).symm.trans hf
    refine lv_aload_n hx hb dX5_string_115 rfl (lv_at hl 0 rfl) ?_
    refine lv_dup hx hb dX5_string_116 rfl ?_
    refine gm_X5_at (v := (mf_at σ)) G hP dX5_string_117 rfl ?_
    refine lv_iload_n hx hb dX5_string_120 rfl (lv_at hl 2 rfl) ?_
    refine lv_iadd hx hb dX5_string_121 ?_
    refine pm_X5_at (v := ((mf_at σ) + a3)) G hP hD hS dX5_string_122 (fun H locs hP hD hS => ?_)
    refine lv_goto (tgt := 17) hx hb dX5_string_125 (by decide) ?_
    exact W.eq (g2 := F0 m 17 ls []) rfl (hk17 _ _ _ _ _ (lv_sub hl [0, 1] rfl) hP hD hS hf)
  · have hf := (if_neg c15).symm.trans hf
    refine lv_aload_n hx hb dX5_string_93 rfl (lv_at hl 0 rfl) ?_
    refine lv_aload_n hx hb dX5_string_94 rfl (lv_at hl 0 rfl) ?_
    refine gm_X5_tape G hP dX5_string_95 ?_
    refine lv_aload_n hx hb dX5_string_98 rfl (lv_at hl 0 rfl) ?_
    refine gm_X5_at (v := (mf_at σ)) G hP dX5_string_99 rfl ?_
    refine lv_iload hx hb dX5_string_102 (lv_at hl 3 rfl) ?_
    refine lv_iadd hx hb dX5_string_104 ?_
    obtain ⟨hi16, hf⟩ := ck_some hf
    refine lm_tape (f := (mf_tape σ)) G hP hi16 dX5_string_105 rfl ?_
    obtain ⟨x17, hx17, hf⟩ := bd_some hf
    refine vM (As := [.int ((mf_tape σ) (((mf_at σ) + a4)).toNatClampNeg)]) (rest := []) G kX5_80 (c_mm_letter hx17) hP hD hS ⟨rfl, rfl, Nat.le_of_ble_eq_true rfl, Nat.le_of_ble_eq_true rfl⟩ ⟨Nat.zero_le _, Nat.zero_le _⟩ rfl hl.1 (Nat.le_of_ble_eq_true rfl) dX5_string_106 (fun H locs hP hD hS => ?_)
    refine W.eq (g2 := F0 m 109 ls []) rfl ?_
    obtain ⟨v18, ev18⟩ : ∃ y : Int32, y = (a4 + (1 : Int32)) := ⟨_, rfl⟩
    have hf := lt_eq hf ev18
    refine lv_iinc (v := v18) (lv' := [(4, .int v18), (0, .ref (q 0)), (1, .int a1), (3, .int a3)]) hx hb dX5_string_109 hl (k := 3) rfl (by rw [ev18]; rfl) (by decide) rfl (fun ls hl => ?_)
    refine lv_goto (tgt := 87) hx hb dX5_string_112 (by decide) ?_
    exact W.eq (g2 := F0 m 87 ls []) rfl (hk87 _ _ _ _ _ _ _ (lv_sub hl [1, 2, 3, 0] rfl) hP hD hS hf)
set_option maxHeartbeats 4000000 in
set_option maxRecDepth 100000 in
theorem mm_string_u87 {p : Program} {l : Launch} {e : Env} {s : State} {m : MethodId} {args : Array Value} {below : List Frame} {meth : Method} {c : Code} {D : va_G} {aK aV : Nat → Nat} {A : Nat → Prop} {cB cI cJ : ClassId} {q : Nat → Nat} {ρ : Bool × MSt} {k17 : Int32 → MSt → Option (Bool × MSt)} (G : CX p s m args meth c D (gTy cB cI cJ) aK aV A RX5 cX5_string 5 (some .boolean)) (hk17 : ∀ (a1 : Int32) (σ : MSt) (H : Heap) (locs : List Loc) (ls : Array Slot), lv_has ls 5 [(0, .ref (q 0)), (1, .int a1)] → va_P D vwCl (mW cB cI cJ q σ) H → va_D A (mW cB cI cJ q σ) → va_S A s.heap H locs → k17 a1 σ = some ρ → W p l e (rm_mm_string) s m args below meth c H locs 0 0 (MQ below (cQ D (gTy cB cI cJ) A (mW cB cI cJ q ρ.2) (some (.int (bI ρ.1)))) args s 0 0 A) (F0 m 17 ls [])) : ∀ (n : Nat) {a1 : Int32} {a3 : Int32} {a4 : Int32} {σ : MSt} {H : Heap} {locs : List Loc} {ls : Array Slot} (hl : lv_has ls 5 [(0, .ref (q 0)), (1, .int a1), (3, .int a3), (4, .int a4)]) (hP : va_P D vwCl (mW cB cI cJ q σ) H) (hD : va_D A (mW cB cI cJ q σ)) (hS : va_S A s.heap H locs) (hf : mm_string_L87 k17 n a1 a3 a4 σ = some ρ), W p l e (rm_mm_string) s m args below meth c H locs 0 0 (MQ below (cQ D (gTy cB cI cJ) A (mW cB cI cJ q ρ.2) (some (.int (bI ρ.1)))) args s 0 0 A) (F0 m 87 ls []) := by
  intro n
  induction n with
  | zero =>
    intros
    rename_i hf
    cases hf
  | succ n ih =>
    intro a1 a3 a4 σ H locs ls hl hP hD hS hf
    exact mm_string_t87 G hk17 (fun _ _ _ _ H locs ls hl hP hD hS hf => ih hl hP hD hS hf) hl hP hD hS hf
set_option maxHeartbeats 4000000 in
set_option maxRecDepth 100000 in
theorem mm_string_t17 {p : Program} {l : Launch} {e : Env} {s : State} {m : MethodId} {args : Array Value} {below : List Frame} {meth : Method} {c : Code} {D : va_G} {aK aV : Nat → Nat} {A : Nat → Prop} {cB cI cJ : ClassId} {q : Nat → Nat} {H : Heap} {locs : List Loc} {ls : Array Slot} {ρ : Bool × MSt} {k17 : Int32 → MSt → Option (Bool × MSt)} {a1 : Int32} {σ : MSt} (G : CX p s m args meth c D (gTy cB cI cJ) aK aV A RX5 cX5_string 5 (some .boolean)) (hk17 : ∀ (a1 : Int32) (σ : MSt) (H : Heap) (locs : List Loc) (ls : Array Slot), lv_has ls 5 [(0, .ref (q 0)), (1, .int a1)] → va_P D vwCl (mW cB cI cJ q σ) H → va_D A (mW cB cI cJ q σ) → va_S A s.heap H locs → k17 a1 σ = some ρ → W p l e (rm_mm_string) s m args below meth c H locs 0 0 (MQ below (cQ D (gTy cB cI cJ) A (mW cB cI cJ q ρ.2) (some (.int (bI ρ.1)))) args s 0 0 A) (F0 m 17 ls [])) (hl : lv_has ls 5 [(0, .ref (q 0)), (1, .int a1)]) (hP : va_P D vwCl (mW cB cI cJ q σ) H) (hD : va_D A (mW cB cI cJ q σ)) (hS : va_S A s.heap H locs) (hf : mm_string_b17 k17 a1 σ = some ρ) : W p l e (rm_mm_string) s m args below meth c H locs 0 0 (MQ below (cQ D (gTy cB cI cJ) A (mW cB cI cJ q ρ.2) (some (.int (bI ρ.1)))) args s 0 0 A) (F0 m 17 ls []) := by
  unfold mm_string_b17 at hf
  obtain ⟨hx, hb, hml, hown, hT, hrt, hlk, hK, hA, hG, hE⟩ := id G
  refine lv_aload_n hx hb dX5_string_17 rfl (lv_at hl 0 rfl) ?_
  obtain ⟨x2, hx2, hf⟩ := bd_some hf
  refine vM (As := []) (rest := []) G kX5_86 (c_mm_here hx2) hP hD hS ⟨rfl, rfl, Nat.le_of_ble_eq_true rfl, Nat.le_of_ble_eq_true rfl⟩ ⟨Nat.zero_le _, Nat.zero_le _⟩ rfl hl.1 (Nat.le_of_ble_eq_true rfl) dX5_string_18 (fun H locs hP hD hS => ?_)
  refine W.eq (g2 := F0 m 21 ls [.int x2.1]) rfl ?_
  refine lv_bipush (v := (34 : Int32)) hx hb dX5_string_21 (by decide) ?_
  refine lv_icmp_eq (tgt := 128) hx hb dX5_string_23 (by decide) (fun c3 => ?_) (fun c3 => ?_)
  · have hf := (if_pos c3).symm.trans hf
    refine lv_aload_n hx hb dX5_string_128 rfl (lv_at hl 0 rfl) ?_
    refine lv_dup hx hb dX5_string_129 rfl ?_
    refine gm_X5_at (v := (mf_at x2.2)) G hP dX5_string_130 rfl ?_
    refine lv_iconst (v := (1 : Int32)) hx hb dX5_string_133 (by decide) ?_
    refine lv_iadd hx hb dX5_string_134 ?_
    refine pm_X5_at (v := ((mf_at x2.2) + (1 : Int32))) G hP hD hS dX5_string_135 (fun H locs hP hD hS => ?_)
    refine lv_aload_n hx hb dX5_string_138 rfl (lv_at hl 0 rfl) ?_
    refine gm_X5_numbers G hP dX5_string_139 ?_
    refine lv_iload_n hx hb dX5_string_142 rfl (lv_at hl 1 rfl) ?_
    refine lv_aload_n hx hb dX5_string_143 rfl (lv_at hl 0 rfl) ?_
    refine gm_X5_lettersMany (v := (mf_lettersMany x2.2)) G hP dX5_string_144 (mG_lettersMany_at _ _) ?_
    refine lv_aload_n hx hb dX5_string_147 rfl (lv_at hl 0 rfl) ?_
    refine gm_X5_places G hP dX5_string_148 ?_
    refine lv_iload_n hx hb dX5_string_151 rfl (lv_at hl 1 rfl) ?_
    obtain ⟨hi4, hf⟩ := ck_some hf
    refine lm_places (f := (mf_places x2.2)) G hP hi4 dX5_string_152 (mG_places_at _ _) ?_
    refine lv_isub hx hb dX5_string_153 ?_
    refine lv_i2l (v := (Int32.toInt64 ((mf_lettersMany x2.2) - ((mf_places x2.2) (a1).toNatClampNeg)))) hx hb dX5_string_154 rfl ?_
    obtain ⟨hi5, hf⟩ := ck_some hf
    refine sm_numbers (f := (mf_numbers x2.2)) G hP hD hS hi5 dX5_string_155 (mG_numbers_at _ _) (fun H locs hP hD hS => ?_)
    refine lv_iconst (v := (1 : Int32)) hx hb dX5_string_156 (by decide) ?_
    cases hf
    exact ct_iret G (bI_nar true) hP hD hS dX5_string_157
  · have hf := (if_neg c3).symm.trans hf
    refine lv_aload_n hx hb dX5_string_26 rfl (lv_at hl 0 rfl) ?_
    obtain ⟨x6, hx6, hf⟩ := bd_some hf
    refine vM (As := []) (rest := []) G kX5_86 (c_mm_here hx6) hP hD hS ⟨rfl, rfl, Nat.le_of_ble_eq_true rfl, Nat.le_of_ble_eq_true rfl⟩ ⟨Nat.zero_le _, Nat.zero_le _⟩ rfl hl.1 (Nat.le_of_ble_eq_true rfl) dX5_string_27 (fun H locs hP hD hS => ?_)
    refine W.eq (g2 := F0 m 30 ls [.int x6.1]) rfl ?_
    refine lv_istore_n (lv' := [(2, .int x6.1), (0, .ref (q 0)), (1, .int a1)]) hx hb dX5_string_30 rfl hl (by decide) rfl (fun ls hl => ?_)
    refine lv_iload_n hx hb dX5_string_31 rfl (lv_at hl 0 rfl) ?_
    refine lv_bipush (v := (32 : Int32)) hx hb dX5_string_32 (by decide) ?_
    refine lv_icmp_ge (tgt := 42) hx hb dX5_string_34 (by decide) (fun c7 => ?_) (fun c7 => ?_)
    · have hf := (if_pos c7).symm.trans hf
      refine lv_iload_n hx hb dX5_string_42 rfl (lv_at hl 0 rfl) ?_
      refine lv_bipush (v := (92 : Int32)) hx hb dX5_string_43 (by decide) ?_
      refine lv_icmp_ne (tgt := 57) hx hb dX5_string_45 (by decide) (fun c8 => ?_) (fun c8 => ?_)
      · have hf := (if_neg c8).symm.trans hf
        refine lv_aload_n hx hb dX5_string_57 rfl (lv_at hl 1 rfl) ?_
        refine lv_aload_n hx hb dX5_string_58 rfl (lv_at hl 1 rfl) ?_
        refine gm_X5_at (v := (mf_at x6.2)) G hP dX5_string_59 rfl ?_
        refine lv_aload_n hx hb dX5_string_62 rfl (lv_at hl 1 rfl) ?_
        refine gm_X5_taped (v := (mf_taped x6.2)) G hP dX5_string_63 rfl ?_
        obtain ⟨x9, hx9, hf⟩ := bd_some hf
        refine vM (As := [.int (mf_at x6.2), .int (mf_taped x6.2)]) (rest := []) G kX5_149 (c_mm_signSize hx9) hP hD hS ⟨rfl, rfl, Nat.le_of_ble_eq_true rfl, Nat.le_of_ble_eq_true rfl⟩ ⟨Nat.zero_le _, Nat.zero_le _⟩ rfl hl.1 (Nat.le_of_ble_eq_true rfl) dX5_string_66 (fun H locs hP hD hS => ?_)
        refine W.eq (g2 := F0 m 69 ls [.int x9.1]) rfl ?_
        refine lv_istore_n (lv' := [(3, .int x9.1), (2, .int x6.1), (0, .ref (q 0)), (1, .int a1)]) hx hb dX5_string_69 rfl hl (by decide) rfl (fun ls hl => ?_)
        refine lv_iload_n hx hb dX5_string_70 rfl (lv_at hl 0 rfl) ?_
        refine lv_if_ne (tgt := 84) hx hb dX5_string_71 (by decide) (fun c10 => ?_) (fun c10 => ?_)
        · have hf := (if_neg c10).symm.trans hf
          refine lv_iconst (v := (0 : Int32)) hx hb dX5_string_84 (by decide) ?_
          refine lv_istore (lv' := [(4, .int (0 : Int32)), (3, .int x9.1), (2, .int x6.1), (0, .ref (q 0)), (1, .int a1)]) hx hb dX5_string_85 hl (by decide) rfl (fun ls hl => ?_)
          exact W.eq (g2 := F0 m 87 ls []) rfl (mm_string_u87 G hk17 FU (lv_sub hl [3, 4, 1, 0] rfl) hP hD hS hf)
        · have hf := (if_pos c10).symm.trans hf
          refine lv_aload_n hx hb dX5_string_74 rfl (lv_at hl 2 rfl) ?_
          refine lv_iconst (v := (2 : Int32)) hx hb dX5_string_75 (by decide) ?_
          refine lv_aload_n hx hb dX5_string_76 rfl (lv_at hl 2 rfl) ?_
          refine gm_X5_at (v := (mf_at x9.2)) G hP dX5_string_77 rfl ?_
          obtain ⟨x11, hx11, hf⟩ := bd_some hf
          refine vM (As := [.int (2 : Int32), .int (mf_at x9.2)]) (rest := []) G kX5_90 (c_mm_wrong hx11) hP hD hS ⟨rfl, rfl, Nat.le_of_ble_eq_true rfl, Nat.le_of_ble_eq_true rfl⟩ ⟨Nat.zero_le _, Nat.zero_le _⟩ rfl hl.1 (Nat.le_of_ble_eq_true rfl) dX5_string_80 (fun H locs hP hD hS => ?_)
          refine W.eq (g2 := F0 m 83 ls [.int (bI x11.1)]) rfl ?_
          cases hf
          exact ct_iret G (bI_nar x11.1) hP hD hS dX5_string_83
      · have hf := (if_pos c8).symm.trans hf
        refine lv_aload_n hx hb dX5_string_48 rfl (lv_at hl 1 rfl) ?_
        obtain ⟨x12, hx12, hf⟩ := bd_some hf
        refine vM (As := []) (rest := []) G kX5_146 (c_mm_escape hx12) hP hD hS ⟨rfl, rfl, Nat.le_of_ble_eq_true rfl, Nat.le_of_ble_eq_true rfl⟩ ⟨Nat.zero_le _, Nat.zero_le _⟩ rfl hl.1 (Nat.le_of_ble_eq_true rfl) dX5_string_49 (fun H locs hP hD hS => ?_)
        refine W.eq (g2 := F0 m 52 ls [.int (bI x12.1)]) rfl ?_
        refine lv_if_ne (tgt := 17) hx hb dX5_string_52 (by decide) (fun c13 => ?_) (fun c13 => ?_)
        · have hf := (if_pos (bI_n c13)).symm.trans hf
          exact W.eq (g2 := F0 m 17 ls []) rfl (hk17 _ _ _ _ _ (lv_sub hl [1, 2] rfl) hP hD hS hf)
        · have hf := (if_neg (bI_0 c13)).symm.trans hf
          refine lv_iconst (v := (0 : Int32)) hx hb dX5_string_55 (by decide) ?_
          cases hf
          exact ct_iret G (bI_nar false) hP hD hS dX5_string_56
    · have hf := (if_neg c7).symm.trans hf
      refine lv_aload_n hx hb dX5_string_37 rfl (lv_at hl 1 rfl) ?_
      obtain ⟨x14, hx14, hf⟩ := bd_some hf
      refine vM (As := []) (rest := []) G kX5_98 (c_mm_stuck hx14) hP hD hS ⟨rfl, rfl, Nat.le_of_ble_eq_true rfl, Nat.le_of_ble_eq_true rfl⟩ ⟨Nat.zero_le _, Nat.zero_le _⟩ rfl hl.1 (Nat.le_of_ble_eq_true rfl) dX5_string_38 (fun H locs hP hD hS => ?_)
      refine W.eq (g2 := F0 m 41 ls [.int (bI x14.1)]) rfl ?_
      cases hf
      exact ct_iret G (bI_nar x14.1) hP hD hS dX5_string_41
set_option maxHeartbeats 4000000 in
set_option maxRecDepth 100000 in
theorem mm_string_u17 {p : Program} {l : Launch} {e : Env} {s : State} {m : MethodId} {args : Array Value} {below : List Frame} {meth : Method} {c : Code} {D : va_G} {aK aV : Nat → Nat} {A : Nat → Prop} {cB cI cJ : ClassId} {q : Nat → Nat} {ρ : Bool × MSt} (G : CX p s m args meth c D (gTy cB cI cJ) aK aV A RX5 cX5_string 5 (some .boolean)) : ∀ (n : Nat) {a1 : Int32} {σ : MSt} {H : Heap} {locs : List Loc} {ls : Array Slot} (hl : lv_has ls 5 [(0, .ref (q 0)), (1, .int a1)]) (hP : va_P D vwCl (mW cB cI cJ q σ) H) (hD : va_D A (mW cB cI cJ q σ)) (hS : va_S A s.heap H locs) (hf : mm_string_L17 n a1 σ = some ρ), W p l e (rm_mm_string) s m args below meth c H locs 0 0 (MQ below (cQ D (gTy cB cI cJ) A (mW cB cI cJ q ρ.2) (some (.int (bI ρ.1)))) args s 0 0 A) (F0 m 17 ls []) := by
  intro n
  induction n with
  | zero =>
    intros
    rename_i hf
    cases hf
  | succ n ih =>
    intro a1 σ H locs ls hl hP hD hS hf
    exact mm_string_t17 G (fun _ _ H locs ls hl hP hD hS hf => ih hl hP hD hS hf) hl hP hD hS hf
set_option maxHeartbeats 4000000 in
set_option maxRecDepth 100000 in
theorem mm_string_t0e {p : Program} {l : Launch} {e : Env} {s : State} {m : MethodId} {args : Array Value} {below : List Frame} {meth : Method} {c : Code} {D : va_G} {aK aV : Nat → Nat} {A : Nat → Prop} {cB cI cJ : ClassId} {q : Nat → Nat} {H : Heap} {locs : List Loc} {ls : Array Slot} {ρ : Bool × MSt} {σ : MSt} (G : CX p s m args meth c D (gTy cB cI cJ) aK aV A RX5 cX5_string 5 (some .boolean)) (hl : lv_has ls 5 [(0, .ref (q 0))]) (hP : va_P D vwCl (mW cB cI cJ q σ) H) (hD : va_D A (mW cB cI cJ q σ)) (hS : va_S A s.heap H locs) (hf : mm_string σ = some ρ) : W p l e (rm_mm_string) s m args below meth c H locs 0 0 (MQ below (cQ D (gTy cB cI cJ) A (mW cB cI cJ q ρ.2) (some (.int (bI ρ.1)))) args s 0 0 A) (F0 m 0 ls []) := by
  unfold mm_string at hf
  obtain ⟨hx, hb, hml, hown, hT, hrt, hlk, hK, hA, hG, hE⟩ := id G
  refine lv_aload_n hx hb dX5_string_0 rfl (lv_at hl 0 rfl) ?_
  refine lv_iconst (v := (3 : Int32)) hx hb dX5_string_1 (by decide) ?_
  refine lv_lconst (v := (0 : Int64)) hx hb dX5_string_2 (by decide) ?_
  obtain ⟨x1, hx1, hf⟩ := bd_some hf
  refine vM (As := [.int (3 : Int32), .long (0 : Int64)]) (rest := []) G kX5_125 (c_mm_thing hx1) hP hD hS ⟨rfl, rfl, Nat.le_of_ble_eq_true rfl, Nat.le_of_ble_eq_true rfl⟩ ⟨Nat.zero_le _, Nat.zero_le _⟩ rfl hl.1 (Nat.le_of_ble_eq_true rfl) dX5_string_3 (fun H locs hP hD hS => ?_)
  refine W.eq (g2 := F0 m 6 ls [.int x1.1]) rfl ?_
  refine lv_istore_n (lv' := [(1, .int x1.1), (0, .ref (q 0))]) hx hb dX5_string_6 rfl hl (by decide) rfl (fun ls hl => ?_)
  refine lv_aload_n hx hb dX5_string_7 rfl (lv_at hl 1 rfl) ?_
  refine lv_dup hx hb dX5_string_8 rfl ?_
  refine gm_X5_at (v := (mf_at x1.2)) G hP dX5_string_9 rfl ?_
  refine lv_iconst (v := (1 : Int32)) hx hb dX5_string_12 (by decide) ?_
  refine lv_iadd hx hb dX5_string_13 ?_
  refine pm_X5_at (v := ((mf_at x1.2) + (1 : Int32))) G hP hD hS dX5_string_14 (fun H locs hP hD hS => ?_)
  exact W.eq (g2 := F0 m 17 ls []) rfl (mm_string_u17 G FU (lv_sub hl [1, 0] rfl) hP hD hS hf)
set_option maxHeartbeats 4000000 in
set_option maxRecDepth 100000 in
theorem c_mm_string {l : Launch} {D : va_G} {aK aV : Nat → Nat} {cB cI cJ : ClassId} {q : Nat → Nat} {ρ : Bool × MSt} {σ : MSt} (hf : mm_string σ = some ρ) : CT l D (gTy cB cI cJ) aK aV yX5_string (wM yX5_string cX5_string 5 (some .boolean)) (rm_mm_string) 0 0 [.ref (q 0)] (mW cB cI cJ q σ) (some (.int (bI ρ.1))) (mW cB cI cJ q ρ.2) := by
  refine CT.of (by decide) rfl ?_
  intro p e s m below meth c A G hnm hP hD hS
  have hl := lv_entry [.ref (q 0)] (n := 5) (Nat.le_of_ble_eq_true rfl)
  rw [lg_entry_eq]
  generalize (lg_sl [.ref (q 0)] ++ List.replicate (5 - (lg_sl [.ref (q 0)]).length) Slot.unset).toArray = ls at hl ⊢
  exact mm_string_t0e G hl hP hD hS hf
def mm_word_b2 (sI : Nat) (k2 : Int32 → Int32 → MSt → Option (Bool × MSt)) (a2 : Int32) (a3 : Int32) (σ : MSt) : Option (Bool × MSt) := (if (sLen sI) ≤ a3 then bd (mm_thing (7 : Int32) (Int32.toInt64 a2) σ) (fun (x2 : Int32 × MSt) => some (true, x2.2)) else bd (mm_here  σ) (fun (x3 : Int32 × MSt) => ck a3 (sLn sI) ((if x3.1 = (sCh sI a3) then lt (a3 + (1 : Int32)) (fun (v6 : Int32) => k2 a2 v6 (ms_at x3.2 ((mf_at x3.2) + (1 : Int32)))) else bd (mm_stuck  x3.2) (fun (x7 : Bool × MSt) => some (x7.1, x7.2))))))
def mm_word_L2 (sI : Nat) : Nat → Int32 → Int32 → MSt → Option (Bool × MSt)
  | 0, _, _, _ => none
  | n + 1, a2, a3, σ => mm_word_b2 sI (mm_word_L2 sI n) a2 a3 σ
def mm_word (sI : Nat) (p1 : Int32) (σ : MSt) : Option (Bool × MSt) := mm_word_L2 sI FU p1 (0 : Int32) σ
abbrev rm_mm_word : Room := { frames := 4, cells := 0, slots := 0, locals := 85 }
set_option maxHeartbeats 4000000 in
set_option maxRecDepth 100000 in
theorem mm_word_t2 {p : Program} {l : Launch} {e : Env} {s : State} {m : MethodId} {args : Array Value} {below : List Frame} {meth : Method} {c : Code} {D : va_G} {aK aV : Nat → Nat} {A : Nat → Prop} {cB cI cJ : ClassId} {q : Nat → Nat} {H : Heap} {locs : List Loc} {ls : Array Slot} {ρ : Bool × MSt} {sI : Nat} (hsI : sI < 6) {k2 : Int32 → Int32 → MSt → Option (Bool × MSt)} {a2 : Int32} {a3 : Int32} {σ : MSt} (G : CX p s m args meth c D (gTy cB cI cJ) aK aV A RX5 cX5_word 4 (some .boolean)) (hk2 : ∀ (a2 : Int32) (a3 : Int32) (σ : MSt) (H : Heap) (locs : List Loc) (ls : Array Slot), lv_has ls 4 [(0, .ref (q 0)), (1, .ref (aK sI)), (2, .int a2), (3, .int a3)] → va_P D vwCl (mW cB cI cJ q σ) H → va_D A (mW cB cI cJ q σ) → va_S A s.heap H locs → k2 a2 a3 σ = some ρ → W p l e (rm_mm_word) s m args below meth c H locs 0 0 (MQ below (cQ D (gTy cB cI cJ) A (mW cB cI cJ q ρ.2) (some (.int (bI ρ.1)))) args s 0 0 A) (F0 m 2 ls [])) (hl : lv_has ls 4 [(0, .ref (q 0)), (1, .ref (aK sI)), (2, .int a2), (3, .int a3)]) (hP : va_P D vwCl (mW cB cI cJ q σ) H) (hD : va_D A (mW cB cI cJ q σ)) (hS : va_S A s.heap H locs) (hf : mm_word_b2 sI k2 a2 a3 σ = some ρ) : W p l e (rm_mm_word) s m args below meth c H locs 0 0 (MQ below (cQ D (gTy cB cI cJ) A (mW cB cI cJ q ρ.2) (some (.int (bI ρ.1)))) args s 0 0 A) (F0 m 2 ls []) := by
  unfold mm_word_b2 at hf
  obtain ⟨hx, hb, hml, hown, hT, hrt, hlk, hK, hA, hG, hE⟩ := id G
  refine lv_iload_n hx hb dX5_word_2 rfl (lv_at hl 3 rfl) ?_
  refine lv_aload_n hx hb dX5_word_3 rfl (lv_at hl 1 rfl) ?_
  refine ct_len (rest := [.int a3]) G kX5_152 hsI hP hD hS ⟨Nat.le_of_ble_eq_true rfl, Nat.le_of_ble_eq_true rfl⟩ ⟨Nat.zero_le _, Nat.zero_le _⟩ hl.1 (Nat.le_of_ble_eq_true rfl) dX5_word_4 (fun H locs hP hS => ?_)
  refine W.eq (g2 := F0 m 7 ls [.int (sLen sI), .int a3]) rfl ?_
  refine lv_icmp_ge (tgt := 43) hx hb dX5_word_7 (by decide) (fun c1 => ?_) (fun c1 => ?_)
  · have hf := (if_pos c1).symm.trans hf
    refine lv_aload_n hx hb dX5_word_43 rfl (lv_at hl 0 rfl) ?_
    refine lv_bipush (v := (7 : Int32)) hx hb dX5_word_44 (by decide) ?_
    refine lv_iload_n hx hb dX5_word_46 rfl (lv_at hl 2 rfl) ?_
    refine lv_i2l (v := (Int32.toInt64 a2)) hx hb dX5_word_47 rfl ?_
    obtain ⟨x2, hx2, hf⟩ := bd_some hf
    refine vM (As := [.int (7 : Int32), .long (Int32.toInt64 a2)]) (rest := []) G kX5_125 (c_mm_thing hx2) hP hD hS ⟨rfl, rfl, Nat.le_of_ble_eq_true rfl, Nat.le_of_ble_eq_true rfl⟩ ⟨Nat.zero_le _, Nat.zero_le _⟩ rfl hl.1 (Nat.le_of_ble_eq_true rfl) dX5_word_48 (fun H locs hP hD hS => ?_)
    refine W.eq (g2 := F0 m 51 ls [.int x2.1]) rfl ?_
    refine lv_pop hx hb dX5_word_51 rfl ?_
    refine lv_iconst (v := (1 : Int32)) hx hb dX5_word_52 (by decide) ?_
    cases hf
    exact ct_iret G (bI_nar true) hP hD hS dX5_word_53
  · have hf := (if_neg c1).symm.trans hf
    refine lv_aload_n hx hb dX5_word_10 rfl (lv_at hl 0 rfl) ?_
    obtain ⟨x3, hx3, hf⟩ := bd_some hf
    refine vM (As := []) (rest := []) G kX5_86 (c_mm_here hx3) hP hD hS ⟨rfl, rfl, Nat.le_of_ble_eq_true rfl, Nat.le_of_ble_eq_true rfl⟩ ⟨Nat.zero_le _, Nat.zero_le _⟩ rfl hl.1 (Nat.le_of_ble_eq_true rfl) dX5_word_11 (fun H locs hP hD hS => ?_)
    refine W.eq (g2 := F0 m 14 ls [.int x3.1]) rfl ?_
    refine lv_aload_n hx hb dX5_word_14 rfl (lv_at hl 1 rfl) ?_
    refine lv_iload_n hx hb dX5_word_15 rfl (lv_at hl 3 rfl) ?_
    obtain ⟨hi4, hf⟩ := ck_some hf
    refine ct_cha (rest := [.int x3.1]) G kX5_111 hsI hi4 hP hD hS ⟨Nat.le_of_ble_eq_true rfl, Nat.le_of_ble_eq_true rfl⟩ ⟨Nat.zero_le _, Nat.zero_le _⟩ hl.1 (Nat.le_of_ble_eq_true rfl) dX5_word_16 (fun H locs hP hS => ?_)
    refine W.eq (g2 := F0 m 19 ls [.int (sCh sI a3), .int x3.1]) rfl ?_
    refine lv_icmp_eq (tgt := 27) hx hb dX5_word_19 (by decide) (fun c5 => ?_) (fun c5 => ?_)
    · have hf := (if_pos c5).symm.trans hf
      refine lv_aload_n hx hb dX5_word_27 rfl (lv_at hl 0 rfl) ?_
      refine lv_dup hx hb dX5_word_28 rfl ?_
      refine gm_X5_at (v := (mf_at x3.2)) G hP dX5_word_29 rfl ?_
      refine lv_iconst (v := (1 : Int32)) hx hb dX5_word_32 (by decide) ?_
      refine lv_iadd hx hb dX5_word_33 ?_
      refine pm_X5_at (v := ((mf_at x3.2) + (1 : Int32))) G hP hD hS dX5_word_34 (fun H locs hP hD hS => ?_)
      obtain ⟨v6, ev6⟩ : ∃ y : Int32, y = (a3 + (1 : Int32)) := ⟨_, rfl⟩
      have hf := lt_eq hf ev6
      refine lv_iinc (v := v6) (lv' := [(3, .int v6), (0, .ref (q 0)), (1, .ref (aK sI)), (2, .int a2)]) hx hb dX5_word_37 hl (k := 3) rfl (by rw [ev6]; rfl) (by decide) rfl (fun ls hl => ?_)
      refine lv_goto (tgt := 2) hx hb dX5_word_40 (by decide) ?_
      exact W.eq (g2 := F0 m 2 ls []) rfl (hk2 _ _ _ _ _ _ (lv_sub hl [1, 2, 3, 0] rfl) hP hD hS hf)
    · have hf := (if_neg c5).symm.trans hf
      refine lv_aload_n hx hb dX5_word_22 rfl (lv_at hl 0 rfl) ?_
      obtain ⟨x7, hx7, hf⟩ := bd_some hf
      refine vM (As := []) (rest := []) G kX5_98 (c_mm_stuck hx7) hP hD hS ⟨rfl, rfl, Nat.le_of_ble_eq_true rfl, Nat.le_of_ble_eq_true rfl⟩ ⟨Nat.zero_le _, Nat.zero_le _⟩ rfl hl.1 (Nat.le_of_ble_eq_true rfl) dX5_word_23 (fun H locs hP hD hS => ?_)
      refine W.eq (g2 := F0 m 26 ls [.int (bI x7.1)]) rfl ?_
      cases hf
      exact ct_iret G (bI_nar x7.1) hP hD hS dX5_word_26
set_option maxHeartbeats 4000000 in
set_option maxRecDepth 100000 in
theorem mm_word_u2 {p : Program} {l : Launch} {e : Env} {s : State} {m : MethodId} {args : Array Value} {below : List Frame} {meth : Method} {c : Code} {D : va_G} {aK aV : Nat → Nat} {A : Nat → Prop} {cB cI cJ : ClassId} {q : Nat → Nat} {ρ : Bool × MSt} {sI : Nat} (hsI : sI < 6) (G : CX p s m args meth c D (gTy cB cI cJ) aK aV A RX5 cX5_word 4 (some .boolean)) : ∀ (n : Nat) {a2 : Int32} {a3 : Int32} {σ : MSt} {H : Heap} {locs : List Loc} {ls : Array Slot} (hl : lv_has ls 4 [(0, .ref (q 0)), (1, .ref (aK sI)), (2, .int a2), (3, .int a3)]) (hP : va_P D vwCl (mW cB cI cJ q σ) H) (hD : va_D A (mW cB cI cJ q σ)) (hS : va_S A s.heap H locs) (hf : mm_word_L2 sI n a2 a3 σ = some ρ), W p l e (rm_mm_word) s m args below meth c H locs 0 0 (MQ below (cQ D (gTy cB cI cJ) A (mW cB cI cJ q ρ.2) (some (.int (bI ρ.1)))) args s 0 0 A) (F0 m 2 ls []) := by
  intro n
  induction n with
  | zero =>
    intros
    rename_i hf
    cases hf
  | succ n ih =>
    intro a2 a3 σ H locs ls hl hP hD hS hf
    exact mm_word_t2 hsI G (fun _ _ _ H locs ls hl hP hD hS hf => ih hl hP hD hS hf) hl hP hD hS hf
set_option maxHeartbeats 4000000 in
set_option maxRecDepth 100000 in
theorem mm_word_t0e {p : Program} {l : Launch} {e : Env} {s : State} {m : MethodId} {args : Array Value} {below : List Frame} {meth : Method} {c : Code} {D : va_G} {aK aV : Nat → Nat} {A : Nat → Prop} {cB cI cJ : ClassId} {q : Nat → Nat} {H : Heap} {locs : List Loc} {ls : Array Slot} {ρ : Bool × MSt} {sI : Nat} (hsI : sI < 6) {p1 : Int32} {σ : MSt} (G : CX p s m args meth c D (gTy cB cI cJ) aK aV A RX5 cX5_word 4 (some .boolean)) (hl : lv_has ls 4 [(0, .ref (q 0)), (1, .ref (aK sI)), (2, .int p1)]) (hP : va_P D vwCl (mW cB cI cJ q σ) H) (hD : va_D A (mW cB cI cJ q σ)) (hS : va_S A s.heap H locs) (hf : mm_word sI p1 σ = some ρ) : W p l e (rm_mm_word) s m args below meth c H locs 0 0 (MQ below (cQ D (gTy cB cI cJ) A (mW cB cI cJ q ρ.2) (some (.int (bI ρ.1)))) args s 0 0 A) (F0 m 0 ls []) := by
  unfold mm_word at hf
  obtain ⟨hx, hb, hml, hown, hT, hrt, hlk, hK, hA, hG, hE⟩ := id G
  refine lv_iconst (v := (0 : Int32)) hx hb dX5_word_0 (by decide) ?_
  refine lv_istore_n (lv' := [(3, .int (0 : Int32)), (0, .ref (q 0)), (1, .ref (aK sI)), (2, .int p1)]) hx hb dX5_word_1 rfl hl (by decide) rfl (fun ls hl => ?_)
  exact W.eq (g2 := F0 m 2 ls []) rfl (mm_word_u2 hsI G FU (lv_sub hl [1, 2, 3, 0] rfl) hP hD hS hf)
set_option maxHeartbeats 4000000 in
set_option maxRecDepth 100000 in
theorem c_mm_word {l : Launch} {D : va_G} {aK aV : Nat → Nat} {cB cI cJ : ClassId} {q : Nat → Nat} {sI : Nat} (hsI : sI < 6) {ρ : Bool × MSt} {p1 : Int32} {σ : MSt} (hf : mm_word sI p1 σ = some ρ) : CT l D (gTy cB cI cJ) aK aV yX5_word (wM yX5_word cX5_word 4 (some .boolean)) (rm_mm_word) 0 0 [.ref (q 0), .ref (aK sI), .int p1] (mW cB cI cJ q σ) (some (.int (bI ρ.1))) (mW cB cI cJ q ρ.2) := by
  refine CT.of (by decide) rfl ?_
  intro p e s m below meth c A G hnm hP hD hS
  have hl := lv_entry [.ref (q 0), .ref (aK sI), .int p1] (n := 4) (Nat.le_of_ble_eq_true rfl)
  rw [lg_entry_eq]
  generalize (lg_sl [.ref (q 0), .ref (aK sI), .int p1] ++ List.replicate (4 - (lg_sl [.ref (q 0), .ref (aK sI), .int p1]).length) Slot.unset).toArray = ls at hl ⊢
  exact mm_word_t0e hsI G hl hP hD hS hf
def mm_opens (p0 : Int32) (σ : MSt) : Option (Bool × MSt) := (if (mf_open σ) = (mf_depth σ) then bd (mm_wrong (4 : Int32) (mf_at σ) σ) (fun (x4 : Bool × MSt) => some (x4.1, x4.2)) else bd (mm_thing p0 (0 : Int64) σ) (fun (x2 : Int32 × MSt) => ck (mf_open σ) 64 (some (true, (ms_at (ms_open (ms_openThing x2.2 (upd (mf_openThing x2.2) ((mf_open σ)).toNatClampNeg x2.1)) ((mf_open x2.2) + (1 : Int32))) ((mf_at x2.2) + (1 : Int32)))))))
abbrev rm_mm_opens : Room := { frames := 1, cells := 0, slots := 0, locals := 23 }
set_option maxHeartbeats 4000000 in
set_option maxRecDepth 100000 in
theorem mm_opens_t0e {p : Program} {l : Launch} {e : Env} {s : State} {m : MethodId} {args : Array Value} {below : List Frame} {meth : Method} {c : Code} {D : va_G} {aK aV : Nat → Nat} {A : Nat → Prop} {cB cI cJ : ClassId} {q : Nat → Nat} {H : Heap} {locs : List Loc} {ls : Array Slot} {ρ : Bool × MSt} {p0 : Int32} {σ : MSt} (G : CX p s m args meth c D (gTy cB cI cJ) aK aV A RX5 cX5_opens 2 (some .boolean)) (hl : lv_has ls 2 [(0, .ref (q 0)), (1, .int p0)]) (hP : va_P D vwCl (mW cB cI cJ q σ) H) (hD : va_D A (mW cB cI cJ q σ)) (hS : va_S A s.heap H locs) (hf : mm_opens p0 σ = some ρ) : W p l e (rm_mm_opens) s m args below meth c H locs 0 0 (MQ below (cQ D (gTy cB cI cJ) A (mW cB cI cJ q ρ.2) (some (.int (bI ρ.1)))) args s 0 0 A) (F0 m 0 ls []) := by
  unfold mm_opens at hf
  obtain ⟨hx, hb, hml, hown, hT, hrt, hlk, hK, hA, hG, hE⟩ := id G
  refine lv_aload_n hx hb dX5_opens_0 rfl (lv_at hl 0 rfl) ?_
  refine gm_X5_open (v := (mf_open σ)) G hP dX5_opens_1 rfl ?_
  refine lv_aload_n hx hb dX5_opens_4 rfl (lv_at hl 0 rfl) ?_
  refine gm_X5_depth (v := (mf_depth σ)) G hP dX5_opens_5 rfl ?_
  refine lv_icmp_ne (tgt := 21) hx hb dX5_opens_8 (by decide) (fun c1 => ?_) (fun c1 => ?_)
  · have hf := (if_neg c1).symm.trans hf
    refine lv_aload_n hx hb dX5_opens_21 rfl (lv_at hl 0 rfl) ?_
    refine gm_X5_openThing G hP dX5_opens_22 ?_
    refine lv_aload_n hx hb dX5_opens_25 rfl (lv_at hl 0 rfl) ?_
    refine gm_X5_open (v := (mf_open σ)) G hP dX5_opens_26 rfl ?_
    refine lv_aload_n hx hb dX5_opens_29 rfl (lv_at hl 0 rfl) ?_
    refine lv_iload_n hx hb dX5_opens_30 rfl (lv_at hl 1 rfl) ?_
    refine lv_lconst (v := (0 : Int64)) hx hb dX5_opens_31 (by decide) ?_
    obtain ⟨x2, hx2, hf⟩ := bd_some hf
    refine vM (As := [.int p0, .long (0 : Int64)]) (rest := [.int (mf_open σ), .ref (q 7)]) G kX5_125 (c_mm_thing hx2) hP hD hS ⟨rfl, rfl, Nat.le_of_ble_eq_true rfl, Nat.le_of_ble_eq_true rfl⟩ ⟨Nat.zero_le _, Nat.zero_le _⟩ rfl hl.1 (Nat.le_of_ble_eq_true rfl) dX5_opens_32 (fun H locs hP hD hS => ?_)
    refine W.eq (g2 := F0 m 35 ls [.int x2.1, .int (mf_open σ), .ref (q 7)]) rfl ?_
    obtain ⟨hi3, hf⟩ := ck_some hf
    refine sm_openThing (f := (mf_openThing x2.2)) G hP hD hS hi3 dX5_opens_35 rfl (fun H locs hP hD hS => ?_)
    refine lv_aload_n hx hb dX5_opens_36 rfl (lv_at hl 0 rfl) ?_
    refine lv_dup hx hb dX5_opens_37 rfl ?_
    refine gm_X5_open (v := (mf_open x2.2)) G hP dX5_opens_38 (mG_open_openThing _ _) ?_
    refine lv_iconst (v := (1 : Int32)) hx hb dX5_opens_41 (by decide) ?_
    refine lv_iadd hx hb dX5_opens_42 ?_
    refine pm_X5_open (v := ((mf_open x2.2) + (1 : Int32))) G hP hD hS dX5_opens_43 (fun H locs hP hD hS => ?_)
    refine lv_aload_n hx hb dX5_opens_46 rfl (lv_at hl 0 rfl) ?_
    refine lv_dup hx hb dX5_opens_47 rfl ?_
    refine gm_X5_at (v := (mf_at x2.2)) G hP dX5_opens_48 (Eq.trans (mG_at_open _ _) (mG_at_openThing _ _)) ?_
    refine lv_iconst (v := (1 : Int32)) hx hb dX5_opens_51 (by decide) ?_
    refine lv_iadd hx hb dX5_opens_52 ?_
    refine pm_X5_at (v := ((mf_at x2.2) + (1 : Int32))) G hP hD hS dX5_opens_53 (fun H locs hP hD hS => ?_)
    refine lv_iconst (v := (1 : Int32)) hx hb dX5_opens_56 (by decide) ?_
    cases hf
    exact ct_iret G (bI_nar true) hP hD hS dX5_opens_57
  · have hf := (if_pos c1).symm.trans hf
    refine lv_aload_n hx hb dX5_opens_11 rfl (lv_at hl 0 rfl) ?_
    refine lv_iconst (v := (4 : Int32)) hx hb dX5_opens_12 (by decide) ?_
    refine lv_aload_n hx hb dX5_opens_13 rfl (lv_at hl 0 rfl) ?_
    refine gm_X5_at (v := (mf_at σ)) G hP dX5_opens_14 rfl ?_
    obtain ⟨x4, hx4, hf⟩ := bd_some hf
    refine vM (As := [.int (4 : Int32), .int (mf_at σ)]) (rest := []) G kX5_90 (c_mm_wrong hx4) hP hD hS ⟨rfl, rfl, Nat.le_of_ble_eq_true rfl, Nat.le_of_ble_eq_true rfl⟩ ⟨Nat.zero_le _, Nat.zero_le _⟩ rfl hl.1 (Nat.le_of_ble_eq_true rfl) dX5_opens_17 (fun H locs hP hD hS => ?_)
    refine W.eq (g2 := F0 m 20 ls [.int (bI x4.1)]) rfl ?_
    cases hf
    exact ct_iret G (bI_nar x4.1) hP hD hS dX5_opens_20
set_option maxHeartbeats 4000000 in
set_option maxRecDepth 100000 in
theorem c_mm_opens {l : Launch} {D : va_G} {aK aV : Nat → Nat} {cB cI cJ : ClassId} {q : Nat → Nat} {ρ : Bool × MSt} {p0 : Int32} {σ : MSt} (hf : mm_opens p0 σ = some ρ) : CT l D (gTy cB cI cJ) aK aV yX5_opens (wM yX5_opens cX5_opens 2 (some .boolean)) (rm_mm_opens) 0 0 [.ref (q 0), .int p0] (mW cB cI cJ q σ) (some (.int (bI ρ.1))) (mW cB cI cJ q ρ.2) := by
  refine CT.of (by decide) rfl ?_
  intro p e s m below meth c A G hnm hP hD hS
  have hl := lv_entry [.ref (q 0), .int p0] (n := 2) (Nat.le_of_ble_eq_true rfl)
  rw [lg_entry_eq]
  generalize (lg_sl [.ref (q 0), .int p0] ++ List.replicate (2 - (lg_sl [.ref (q 0), .int p0]).length) Slot.unset).toArray = ls at hl ⊢
  exact mm_opens_t0e G hl hP hD hS hf
def mm_isMap (σ : MSt) : Option (Bool × MSt) := (if (mf_open σ) ≤ 0 then some (false, σ) else ck ((mf_open σ) - (1 : Int32)) 64 (ck ((mf_openThing σ) (((mf_open σ) - (1 : Int32))).toNatClampNeg) 4200 ((if ((mf_sorts σ) (((mf_openThing σ) (((mf_open σ) - (1 : Int32))).toNatClampNeg)).toNatClampNeg) = (5 : Int32) then some (true, σ) else some (false, σ)))))
abbrev rm_mm_isMap : Room := { frames := 0, cells := 0, slots := 0, locals := 0 }
set_option maxHeartbeats 4000000 in
set_option maxRecDepth 100000 in
theorem mm_isMap_t0e {p : Program} {l : Launch} {e : Env} {s : State} {m : MethodId} {args : Array Value} {below : List Frame} {meth : Method} {c : Code} {D : va_G} {aK aV : Nat → Nat} {A : Nat → Prop} {cB cI cJ : ClassId} {q : Nat → Nat} {H : Heap} {locs : List Loc} {ls : Array Slot} {ρ : Bool × MSt} {σ : MSt} (G : CX p s m args meth c D (gTy cB cI cJ) aK aV A RX5 cX5_isMap 1 (some .boolean)) (hl : lv_has ls 1 [(0, .ref (q 0))]) (hP : va_P D vwCl (mW cB cI cJ q σ) H) (hD : va_D A (mW cB cI cJ q σ)) (hS : va_S A s.heap H locs) (hf : mm_isMap σ = some ρ) : W p l e (rm_mm_isMap) s m args below meth c H locs 0 0 (MQ below (cQ D (gTy cB cI cJ) A (mW cB cI cJ q ρ.2) (some (.int (bI ρ.1)))) args s 0 0 A) (F0 m 0 ls []) := by
  unfold mm_isMap at hf
  obtain ⟨hx, hb, hml, hown, hT, hrt, hlk, hK, hA, hG, hE⟩ := id G
  refine lv_aload_n hx hb dX5_isMap_0 rfl (lv_at hl 0 rfl) ?_
  refine gm_X5_open (v := (mf_open σ)) G hP dX5_isMap_1 rfl ?_
  refine lv_if_le (tgt := 31) hx hb dX5_isMap_4 (by decide) (fun c1 => ?_) (fun c1 => ?_)
  · have hf := (if_pos c1).symm.trans hf
    refine lv_iconst (v := (0 : Int32)) hx hb dX5_isMap_31 (by decide) ?_
    cases hf
    exact ct_iret G (bI_nar false) hP hD hS dX5_isMap_32
  · have hf := (if_neg c1).symm.trans hf
    refine lv_aload_n hx hb dX5_isMap_7 rfl (lv_at hl 0 rfl) ?_
    refine gm_X5_sorts G hP dX5_isMap_8 ?_
    refine lv_aload_n hx hb dX5_isMap_11 rfl (lv_at hl 0 rfl) ?_
    refine gm_X5_openThing G hP dX5_isMap_12 ?_
    refine lv_aload_n hx hb dX5_isMap_15 rfl (lv_at hl 0 rfl) ?_
    refine gm_X5_open (v := (mf_open σ)) G hP dX5_isMap_16 rfl ?_
    refine lv_iconst (v := (1 : Int32)) hx hb dX5_isMap_19 (by decide) ?_
    refine lv_isub hx hb dX5_isMap_20 ?_
    obtain ⟨hi2, hf⟩ := ck_some hf
    refine lm_openThing (f := (mf_openThing σ)) G hP hi2 dX5_isMap_21 rfl ?_
    obtain ⟨hi3, hf⟩ := ck_some hf
    refine lm_sorts (f := (mf_sorts σ)) G hP hi3 dX5_isMap_22 rfl ?_
    refine lv_iconst (v := (5 : Int32)) hx hb dX5_isMap_23 (by decide) ?_
    refine lv_icmp_ne (tgt := 31) hx hb dX5_isMap_24 (by decide) (fun c4 => ?_) (fun c4 => ?_)
    · have hf := (if_neg c4).symm.trans hf
      refine lv_iconst (v := (0 : Int32)) hx hb dX5_isMap_31 (by decide) ?_
      cases hf
      exact ct_iret G (bI_nar false) hP hD hS dX5_isMap_32
    · have hf := (if_pos c4).symm.trans hf
      refine lv_iconst (v := (1 : Int32)) hx hb dX5_isMap_27 (by decide) ?_
      refine lv_goto (tgt := 32) hx hb dX5_isMap_28 (by decide) ?_
      cases hf
      exact ct_iret G (bI_nar true) hP hD hS dX5_isMap_32
set_option maxHeartbeats 4000000 in
set_option maxRecDepth 100000 in
theorem c_mm_isMap {l : Launch} {D : va_G} {aK aV : Nat → Nat} {cB cI cJ : ClassId} {q : Nat → Nat} {ρ : Bool × MSt} {σ : MSt} (hf : mm_isMap σ = some ρ) : CT l D (gTy cB cI cJ) aK aV yX5_isMap (wM yX5_isMap cX5_isMap 1 (some .boolean)) (rm_mm_isMap) 0 0 [.ref (q 0)] (mW cB cI cJ q σ) (some (.int (bI ρ.1))) (mW cB cI cJ q ρ.2) := by
  refine CT.of (by decide) rfl ?_
  intro p e s m below meth c A G hnm hP hD hS
  have hl := lv_entry [.ref (q 0)] (n := 1) (Nat.le_of_ble_eq_true rfl)
  rw [lg_entry_eq]
  generalize (lg_sl [.ref (q 0)] ++ List.replicate (1 - (lg_sl [.ref (q 0)]).length) Slot.unset).toArray = ls at hl ⊢
  exact mm_isMap_t0e G hl hP hD hS hf
def mm_value_b99 (σ : MSt) : Option (Bool × MSt) := bd (mm_number  σ) (fun (x18 : Bool × MSt) => some (x18.1, x18.2))
def mm_value (σ : MSt) : Option (Bool × MSt) := bd (mm_here  σ) (fun (x1 : Int32 × MSt) => (if x1.1 = (34 : Int32) then bd (mm_string  x1.2) (fun (x17 : Bool × MSt) => some (x17.1, x17.2)) else (if x1.1 = (91 : Int32) then bd (mm_opens (4 : Int32) x1.2) (fun (x16 : Bool × MSt) => some (x16.1, x16.2)) else (if x1.1 = (123 : Int32) then bd (mm_opens (5 : Int32) x1.2) (fun (x15 : Bool × MSt) => some (x15.1, x15.2)) else (if x1.1 = (102 : Int32) then bd (mm_word 0 (20 : Int32) x1.2) (fun (x14 : Bool × MSt) => some (x14.1, x14.2)) else (if x1.1 = (116 : Int32) then bd (mm_word 1 (21 : Int32) x1.2) (fun (x13 : Bool × MSt) => some (x13.1, x13.2)) else (if x1.1 = (110 : Int32) then bd (mm_word 2 (22 : Int32) x1.2) (fun (x12 : Bool × MSt) => some (x12.1, x12.2)) else (if x1.1 = (45 : Int32) then mm_value_b99  x1.2 else bd (mm_isDigit x1.1 x1.2) (fun (x9 : Bool × MSt) => (if x9.1 = true then mm_value_b99  x9.2 else bd (mm_stuck  x9.2) (fun (x11 : Bool × MSt) => some (x11.1, x11.2))))))))))))
abbrev rm_mm_value : Room := { frames := 7, cells := 0, slots := 0, locals := 162 }
set_option maxHeartbeats 4000000 in
set_option maxRecDepth 100000 in
theorem mm_value_t99 {p : Program} {l : Launch} {e : Env} {s : State} {m : MethodId} {args : Array Value} {below : List Frame} {meth : Method} {c : Code} {D : va_G} {aK aV : Nat → Nat} {A : Nat → Prop} {cB cI cJ : ClassId} {q : Nat → Nat} {H : Heap} {locs : List Loc} {ls : Array Slot} {ρ : Bool × MSt} {σ : MSt} (G : CX p s m args meth c D (gTy cB cI cJ) aK aV A RX5 cX5_value 2 (some .boolean)) (hl : lv_has ls 2 [(0, .ref (q 0))]) (hP : va_P D vwCl (mW cB cI cJ q σ) H) (hD : va_D A (mW cB cI cJ q σ)) (hS : va_S A s.heap H locs) (hf : mm_value_b99 σ = some ρ) : W p l e (rm_mm_value) s m args below meth c H locs 0 0 (MQ below (cQ D (gTy cB cI cJ) A (mW cB cI cJ q ρ.2) (some (.int (bI ρ.1)))) args s 0 0 A) (F0 m 99 ls []) := by
  unfold mm_value_b99 at hf
  obtain ⟨hx, hb, hml, hown, hT, hrt, hlk, hK, hA, hG, hE⟩ := id G
  refine lv_aload_n hx hb dX5_value_99 rfl (lv_at hl 0 rfl) ?_
  obtain ⟨x18, hx18, hf⟩ := bd_some hf
  refine vM (As := []) (rest := []) G kX5_171 (c_mm_number hx18) hP hD hS ⟨rfl, rfl, Nat.le_of_ble_eq_true rfl, Nat.le_of_ble_eq_true rfl⟩ ⟨Nat.zero_le _, Nat.zero_le _⟩ rfl hl.1 (Nat.le_of_ble_eq_true rfl) dX5_value_100 (fun H locs hP hD hS => ?_)
  refine W.eq (g2 := F0 m 103 ls [.int (bI x18.1)]) rfl ?_
  refine lv_goto (tgt := 110) hx hb dX5_value_103 (by decide) ?_
  cases hf
  exact ct_iret G (bI_nar x18.1) hP hD hS dX5_value_110
set_option maxHeartbeats 4000000 in
set_option maxRecDepth 100000 in
theorem mm_value_t0e {p : Program} {l : Launch} {e : Env} {s : State} {m : MethodId} {args : Array Value} {below : List Frame} {meth : Method} {c : Code} {D : va_G} {aK aV : Nat → Nat} {A : Nat → Prop} {cB cI cJ : ClassId} {q : Nat → Nat} {H : Heap} {locs : List Loc} {ls : Array Slot} {ρ : Bool × MSt} {σ : MSt} (G : CX p s m args meth c D (gTy cB cI cJ) aK aV A RX5 cX5_value 2 (some .boolean)) (hl : lv_has ls 2 [(0, .ref (q 0))]) (hP : va_P D vwCl (mW cB cI cJ q σ) H) (hD : va_D A (mW cB cI cJ q σ)) (hS : va_S A s.heap H locs) (hf : mm_value σ = some ρ) : W p l e (rm_mm_value) s m args below meth c H locs 0 0 (MQ below (cQ D (gTy cB cI cJ) A (mW cB cI cJ q ρ.2) (some (.int (bI ρ.1)))) args s 0 0 A) (F0 m 0 ls []) := by
  unfold mm_value at hf
  obtain ⟨hx, hb, hml, hown, hT, hrt, hlk, hK, hA, hG, hE⟩ := id G
  refine lv_aload_n hx hb dX5_value_0 rfl (lv_at hl 0 rfl) ?_
  obtain ⟨x1, hx1, hf⟩ := bd_some hf
  refine vM (As := []) (rest := []) G kX5_86 (c_mm_here hx1) hP hD hS ⟨rfl, rfl, Nat.le_of_ble_eq_true rfl, Nat.le_of_ble_eq_true rfl⟩ ⟨Nat.zero_le _, Nat.zero_le _⟩ rfl hl.1 (Nat.le_of_ble_eq_true rfl) dX5_value_1 (fun H locs hP hD hS => ?_)
  refine W.eq (g2 := F0 m 4 ls [.int x1.1]) rfl ?_
  refine lv_istore_n (lv' := [(1, .int x1.1), (0, .ref (q 0))]) hx hb dX5_value_4 rfl hl (by decide) rfl (fun ls hl => ?_)
  refine lv_iload_n hx hb dX5_value_5 rfl (lv_at hl 0 rfl) ?_
  refine lv_bipush (v := (34 : Int32)) hx hb dX5_value_6 (by decide) ?_
  refine lv_icmp_ne (tgt := 16) hx hb dX5_value_8 (by decide) (fun c2 => ?_) (fun c2 => ?_)
  · have hf := (if_neg c2).symm.trans hf
    refine lv_iload_n hx hb dX5_value_16 rfl (lv_at hl 0 rfl) ?_
    refine lv_bipush (v := (91 : Int32)) hx hb dX5_value_17 (by decide) ?_
    refine lv_icmp_ne (tgt := 28) hx hb dX5_value_19 (by decide) (fun c3 => ?_) (fun c3 => ?_)
    · have hf := (if_neg c3).symm.trans hf
      refine lv_iload_n hx hb dX5_value_28 rfl (lv_at hl 0 rfl) ?_
      refine lv_bipush (v := (123 : Int32)) hx hb dX5_value_29 (by decide) ?_
      refine lv_icmp_ne (tgt := 40) hx hb dX5_value_31 (by decide) (fun c4 => ?_) (fun c4 => ?_)
      · have hf := (if_neg c4).symm.trans hf
        refine lv_iload_n hx hb dX5_value_40 rfl (lv_at hl 0 rfl) ?_
        refine lv_bipush (v := (102 : Int32)) hx hb dX5_value_41 (by decide) ?_
        refine lv_icmp_ne (tgt := 55) hx hb dX5_value_43 (by decide) (fun c5 => ?_) (fun c5 => ?_)
        · have hf := (if_neg c5).symm.trans hf
          refine lv_iload_n hx hb dX5_value_55 rfl (lv_at hl 0 rfl) ?_
          refine lv_bipush (v := (116 : Int32)) hx hb dX5_value_56 (by decide) ?_
          refine lv_icmp_ne (tgt := 70) hx hb dX5_value_58 (by decide) (fun c6 => ?_) (fun c6 => ?_)
          · have hf := (if_neg c6).symm.trans hf
            refine lv_iload_n hx hb dX5_value_70 rfl (lv_at hl 0 rfl) ?_
            refine lv_bipush (v := (110 : Int32)) hx hb dX5_value_71 (by decide) ?_
            refine lv_icmp_ne (tgt := 85) hx hb dX5_value_73 (by decide) (fun c7 => ?_) (fun c7 => ?_)
            · have hf := (if_neg c7).symm.trans hf
              refine lv_iload_n hx hb dX5_value_85 rfl (lv_at hl 0 rfl) ?_
              refine lv_bipush (v := (45 : Int32)) hx hb dX5_value_86 (by decide) ?_
              refine lv_icmp_eq (tgt := 99) hx hb dX5_value_88 (by decide) (fun c8 => ?_) (fun c8 => ?_)
              · have hf := (if_pos c8).symm.trans hf
                exact W.eq (g2 := F0 m 99 ls []) rfl (mm_value_t99 G (lv_sub hl [1] rfl) hP hD hS hf)
              · have hf := (if_neg c8).symm.trans hf
                refine lv_aload_n hx hb dX5_value_91 rfl (lv_at hl 1 rfl) ?_
                refine lv_iload_n hx hb dX5_value_92 rfl (lv_at hl 0 rfl) ?_
                obtain ⟨x9, hx9, hf⟩ := bd_some hf
                refine vM (As := [.int x1.1]) (rest := []) G kX5_94 (c_mm_isDigit hx9) hP hD hS ⟨rfl, rfl, Nat.le_of_ble_eq_true rfl, Nat.le_of_ble_eq_true rfl⟩ ⟨Nat.zero_le _, Nat.zero_le _⟩ rfl hl.1 (Nat.le_of_ble_eq_true rfl) dX5_value_93 (fun H locs hP hD hS => ?_)
                refine W.eq (g2 := F0 m 96 ls [.int (bI x9.1)]) rfl ?_
                refine lv_if_eq (tgt := 106) hx hb dX5_value_96 (by decide) (fun c10 => ?_) (fun c10 => ?_)
                · have hf := (if_neg (bI_0 c10)).symm.trans hf
                  refine lv_aload_n hx hb dX5_value_106 rfl (lv_at hl 1 rfl) ?_
                  obtain ⟨x11, hx11, hf⟩ := bd_some hf
                  refine vM (As := []) (rest := []) G kX5_98 (c_mm_stuck hx11) hP hD hS ⟨rfl, rfl, Nat.le_of_ble_eq_true rfl, Nat.le_of_ble_eq_true rfl⟩ ⟨Nat.zero_le _, Nat.zero_le _⟩ rfl hl.1 (Nat.le_of_ble_eq_true rfl) dX5_value_107 (fun H locs hP hD hS => ?_)
                  refine W.eq (g2 := F0 m 110 ls [.int (bI x11.1)]) rfl ?_
                  cases hf
                  exact ct_iret G (bI_nar x11.1) hP hD hS dX5_value_110
                · have hf := (if_pos (bI_n c10)).symm.trans hf
                  exact W.eq (g2 := F0 m 99 ls []) rfl (mm_value_t99 G (lv_sub hl [1] rfl) hP hD hS hf)
            · have hf := (if_pos c7).symm.trans hf
              refine lv_aload_n hx hb dX5_value_76 rfl (lv_at hl 1 rfl) ?_
              refine va_ldcS hx hb hown (hG.1 _ (List.mem_of_getElem? (i := 9) rfl)) dX5_value_77 ?_
              refine lv_bipush (v := (22 : Int32)) hx hb dX5_value_79 (by decide) ?_
              obtain ⟨x12, hx12, hf⟩ := bd_some hf
              refine vM (As := [.ref (aK 2), .int (22 : Int32)]) (rest := []) G kX5_163 (c_mm_word (by decide) hx12) hP hD hS ⟨rfl, rfl, Nat.le_of_ble_eq_true rfl, Nat.le_of_ble_eq_true rfl⟩ ⟨Nat.zero_le _, Nat.zero_le _⟩ rfl hl.1 (Nat.le_of_ble_eq_true rfl) dX5_value_81 (fun H locs hP hD hS => ?_)
              refine W.eq (g2 := F0 m 84 ls [.int (bI x12.1)]) rfl ?_
              cases hf
              exact ct_iret G (bI_nar x12.1) hP hD hS dX5_value_84
          · have hf := (if_pos c6).symm.trans hf
            refine lv_aload_n hx hb dX5_value_61 rfl (lv_at hl 1 rfl) ?_
            refine va_ldcS hx hb hown (hG.1 _ (List.mem_of_getElem? (i := 8) rfl)) dX5_value_62 ?_
            refine lv_bipush (v := (21 : Int32)) hx hb dX5_value_64 (by decide) ?_
            obtain ⟨x13, hx13, hf⟩ := bd_some hf
            refine vM (As := [.ref (aK 1), .int (21 : Int32)]) (rest := []) G kX5_163 (c_mm_word (by decide) hx13) hP hD hS ⟨rfl, rfl, Nat.le_of_ble_eq_true rfl, Nat.le_of_ble_eq_true rfl⟩ ⟨Nat.zero_le _, Nat.zero_le _⟩ rfl hl.1 (Nat.le_of_ble_eq_true rfl) dX5_value_66 (fun H locs hP hD hS => ?_)
            refine W.eq (g2 := F0 m 69 ls [.int (bI x13.1)]) rfl ?_
            cases hf
            exact ct_iret G (bI_nar x13.1) hP hD hS dX5_value_69
        · have hf := (if_pos c5).symm.trans hf
          refine lv_aload_n hx hb dX5_value_46 rfl (lv_at hl 1 rfl) ?_
          refine va_ldcS hx hb hown (hG.1 _ (List.mem_of_getElem? (i := 7) rfl)) dX5_value_47 ?_
          refine lv_bipush (v := (20 : Int32)) hx hb dX5_value_49 (by decide) ?_
          obtain ⟨x14, hx14, hf⟩ := bd_some hf
          refine vM (As := [.ref (aK 0), .int (20 : Int32)]) (rest := []) G kX5_163 (c_mm_word (by decide) hx14) hP hD hS ⟨rfl, rfl, Nat.le_of_ble_eq_true rfl, Nat.le_of_ble_eq_true rfl⟩ ⟨Nat.zero_le _, Nat.zero_le _⟩ rfl hl.1 (Nat.le_of_ble_eq_true rfl) dX5_value_51 (fun H locs hP hD hS => ?_)
          refine W.eq (g2 := F0 m 54 ls [.int (bI x14.1)]) rfl ?_
          cases hf
          exact ct_iret G (bI_nar x14.1) hP hD hS dX5_value_54
      · have hf := (if_pos c4).symm.trans hf
        refine lv_aload_n hx hb dX5_value_34 rfl (lv_at hl 1 rfl) ?_
        refine lv_iconst (v := (5 : Int32)) hx hb dX5_value_35 (by decide) ?_
        obtain ⟨x15, hx15, hf⟩ := bd_some hf
        refine vM (As := [.int (5 : Int32)]) (rest := []) G kX5_158 (c_mm_opens hx15) hP hD hS ⟨rfl, rfl, Nat.le_of_ble_eq_true rfl, Nat.le_of_ble_eq_true rfl⟩ ⟨Nat.zero_le _, Nat.zero_le _⟩ rfl hl.1 (Nat.le_of_ble_eq_true rfl) dX5_value_36 (fun H locs hP hD hS => ?_)
        refine W.eq (g2 := F0 m 39 ls [.int (bI x15.1)]) rfl ?_
        cases hf
        exact ct_iret G (bI_nar x15.1) hP hD hS dX5_value_39
    · have hf := (if_pos c3).symm.trans hf
      refine lv_aload_n hx hb dX5_value_22 rfl (lv_at hl 1 rfl) ?_
      refine lv_iconst (v := (4 : Int32)) hx hb dX5_value_23 (by decide) ?_
      obtain ⟨x16, hx16, hf⟩ := bd_some hf
      refine vM (As := [.int (4 : Int32)]) (rest := []) G kX5_158 (c_mm_opens hx16) hP hD hS ⟨rfl, rfl, Nat.le_of_ble_eq_true rfl, Nat.le_of_ble_eq_true rfl⟩ ⟨Nat.zero_le _, Nat.zero_le _⟩ rfl hl.1 (Nat.le_of_ble_eq_true rfl) dX5_value_24 (fun H locs hP hD hS => ?_)
      refine W.eq (g2 := F0 m 27 ls [.int (bI x16.1)]) rfl ?_
      cases hf
      exact ct_iret G (bI_nar x16.1) hP hD hS dX5_value_27
  · have hf := (if_pos c2).symm.trans hf
    refine lv_aload_n hx hb dX5_value_11 rfl (lv_at hl 1 rfl) ?_
    obtain ⟨x17, hx17, hf⟩ := bd_some hf
    refine vM (As := []) (rest := []) G kX5_155 (c_mm_string hx17) hP hD hS ⟨rfl, rfl, Nat.le_of_ble_eq_true rfl, Nat.le_of_ble_eq_true rfl⟩ ⟨Nat.zero_le _, Nat.zero_le _⟩ rfl hl.1 (Nat.le_of_ble_eq_true rfl) dX5_value_12 (fun H locs hP hD hS => ?_)
    refine W.eq (g2 := F0 m 15 ls [.int (bI x17.1)]) rfl ?_
    cases hf
    exact ct_iret G (bI_nar x17.1) hP hD hS dX5_value_15
set_option maxHeartbeats 4000000 in
set_option maxRecDepth 100000 in
theorem c_mm_value {l : Launch} {D : va_G} {aK aV : Nat → Nat} {cB cI cJ : ClassId} {q : Nat → Nat} {ρ : Bool × MSt} {σ : MSt} (hf : mm_value σ = some ρ) : CT l D (gTy cB cI cJ) aK aV yX5_value (wM yX5_value cX5_value 2 (some .boolean)) (rm_mm_value) 0 0 [.ref (q 0)] (mW cB cI cJ q σ) (some (.int (bI ρ.1))) (mW cB cI cJ q ρ.2) := by
  refine CT.of (by decide) rfl ?_
  intro p e s m below meth c A G hnm hP hD hS
  have hl := lv_entry [.ref (q 0)] (n := 2) (Nat.le_of_ble_eq_true rfl)
  rw [lg_entry_eq]
  generalize (lg_sl [.ref (q 0)] ++ List.replicate (2 - (lg_sl [.ref (q 0)]).length) Slot.unset).toArray = ls at hl ⊢
  exact mm_value_t0e G hl hP hD hS hf
def mm_key (σ : MSt) : Option (Bool × MSt) := bd (mm_here  σ) (fun (x1 : Int32 × MSt) => (if x1.1 = (34 : Int32) then bd (mm_string  x1.2) (fun (x3 : Bool × MSt) => (if x3.1 = true then bd (mm_blanks  x3.2) (fun (x5 : MSt) => bd (mm_here  x5) (fun (x6 : Int32 × MSt) => (if x6.1 = (58 : Int32) then bd (mm_blanks  (ms_at x6.2 ((mf_at x6.2) + (1 : Int32)))) (fun (x8 : MSt) => some (true, x8)) else bd (mm_stuck  x6.2) (fun (x9 : Bool × MSt) => some (x9.1, x9.2))))) else some (false, x3.2))) else bd (mm_stuck  x1.2) (fun (x10 : Bool × MSt) => some (x10.1, x10.2))))
abbrev rm_mm_key : Room := { frames := 5, cells := 0, slots := 0, locals := 115 }
set_option maxHeartbeats 4000000 in
set_option maxRecDepth 100000 in
theorem mm_key_t0e {p : Program} {l : Launch} {e : Env} {s : State} {m : MethodId} {args : Array Value} {below : List Frame} {meth : Method} {c : Code} {D : va_G} {aK aV : Nat → Nat} {A : Nat → Prop} {cB cI cJ : ClassId} {q : Nat → Nat} {H : Heap} {locs : List Loc} {ls : Array Slot} {ρ : Bool × MSt} {σ : MSt} (G : CX p s m args meth c D (gTy cB cI cJ) aK aV A RX5 cX5_key 1 (some .boolean)) (hl : lv_has ls 1 [(0, .ref (q 0))]) (hP : va_P D vwCl (mW cB cI cJ q σ) H) (hD : va_D A (mW cB cI cJ q σ)) (hS : va_S A s.heap H locs) (hf : mm_key σ = some ρ) : W p l e (rm_mm_key) s m args below meth c H locs 0 0 (MQ below (cQ D (gTy cB cI cJ) A (mW cB cI cJ q ρ.2) (some (.int (bI ρ.1)))) args s 0 0 A) (F0 m 0 ls []) := by
  unfold mm_key at hf
  obtain ⟨hx, hb, hml, hown, hT, hrt, hlk, hK, hA, hG, hE⟩ := id G
  refine lv_aload_n hx hb dX5_key_0 rfl (lv_at hl 0 rfl) ?_
  obtain ⟨x1, hx1, hf⟩ := bd_some hf
  refine vM (As := []) (rest := []) G kX5_86 (c_mm_here hx1) hP hD hS ⟨rfl, rfl, Nat.le_of_ble_eq_true rfl, Nat.le_of_ble_eq_true rfl⟩ ⟨Nat.zero_le _, Nat.zero_le _⟩ rfl hl.1 (Nat.le_of_ble_eq_true rfl) dX5_key_1 (fun H locs hP hD hS => ?_)
  refine W.eq (g2 := F0 m 4 ls [.int x1.1]) rfl ?_
  refine lv_bipush (v := (34 : Int32)) hx hb dX5_key_4 (by decide) ?_
  refine lv_icmp_eq (tgt := 14) hx hb dX5_key_6 (by decide) (fun c2 => ?_) (fun c2 => ?_)
  · have hf := (if_pos c2).symm.trans hf
    refine lv_aload_n hx hb dX5_key_14 rfl (lv_at hl 0 rfl) ?_
    obtain ⟨x3, hx3, hf⟩ := bd_some hf
    refine vM (As := []) (rest := []) G kX5_155 (c_mm_string hx3) hP hD hS ⟨rfl, rfl, Nat.le_of_ble_eq_true rfl, Nat.le_of_ble_eq_true rfl⟩ ⟨Nat.zero_le _, Nat.zero_le _⟩ rfl hl.1 (Nat.le_of_ble_eq_true rfl) dX5_key_15 (fun H locs hP hD hS => ?_)
    refine W.eq (g2 := F0 m 18 ls [.int (bI x3.1)]) rfl ?_
    refine lv_if_ne (tgt := 23) hx hb dX5_key_18 (by decide) (fun c4 => ?_) (fun c4 => ?_)
    · have hf := (if_pos (bI_n c4)).symm.trans hf
      refine lv_aload_n hx hb dX5_key_23 rfl (lv_at hl 0 rfl) ?_
      obtain ⟨x5, hx5, hf⟩ := bd_some hf
      refine vM (As := []) (rest := []) G kX5_174 (c_mm_blanks hx5) hP hD hS ⟨rfl, rfl, Nat.le_of_ble_eq_true rfl, Nat.le_of_ble_eq_true rfl⟩ ⟨Nat.zero_le _, Nat.zero_le _⟩ rfl hl.1 (Nat.le_of_ble_eq_true rfl) dX5_key_24 (fun H locs hP hD hS => ?_)
      refine W.eq (g2 := F0 m 27 ls []) rfl ?_
      refine lv_aload_n hx hb dX5_key_27 rfl (lv_at hl 0 rfl) ?_
      obtain ⟨x6, hx6, hf⟩ := bd_some hf
      refine vM (As := []) (rest := []) G kX5_86 (c_mm_here hx6) hP hD hS ⟨rfl, rfl, Nat.le_of_ble_eq_true rfl, Nat.le_of_ble_eq_true rfl⟩ ⟨Nat.zero_le _, Nat.zero_le _⟩ rfl hl.1 (Nat.le_of_ble_eq_true rfl) dX5_key_28 (fun H locs hP hD hS => ?_)
      refine W.eq (g2 := F0 m 31 ls [.int x6.1]) rfl ?_
      refine lv_bipush (v := (58 : Int32)) hx hb dX5_key_31 (by decide) ?_
      refine lv_icmp_eq (tgt := 41) hx hb dX5_key_33 (by decide) (fun c7 => ?_) (fun c7 => ?_)
      · have hf := (if_pos c7).symm.trans hf
        refine lv_aload_n hx hb dX5_key_41 rfl (lv_at hl 0 rfl) ?_
        refine lv_dup hx hb dX5_key_42 rfl ?_
        refine gm_X5_at (v := (mf_at x6.2)) G hP dX5_key_43 rfl ?_
        refine lv_iconst (v := (1 : Int32)) hx hb dX5_key_46 (by decide) ?_
        refine lv_iadd hx hb dX5_key_47 ?_
        refine pm_X5_at (v := ((mf_at x6.2) + (1 : Int32))) G hP hD hS dX5_key_48 (fun H locs hP hD hS => ?_)
        refine lv_aload_n hx hb dX5_key_51 rfl (lv_at hl 0 rfl) ?_
        obtain ⟨x8, hx8, hf⟩ := bd_some hf
        refine vM (As := []) (rest := []) G kX5_174 (c_mm_blanks hx8) hP hD hS ⟨rfl, rfl, Nat.le_of_ble_eq_true rfl, Nat.le_of_ble_eq_true rfl⟩ ⟨Nat.zero_le _, Nat.zero_le _⟩ rfl hl.1 (Nat.le_of_ble_eq_true rfl) dX5_key_52 (fun H locs hP hD hS => ?_)
        refine W.eq (g2 := F0 m 55 ls []) rfl ?_
        refine lv_iconst (v := (1 : Int32)) hx hb dX5_key_55 (by decide) ?_
        cases hf
        exact ct_iret G (bI_nar true) hP hD hS dX5_key_56
      · have hf := (if_neg c7).symm.trans hf
        refine lv_aload_n hx hb dX5_key_36 rfl (lv_at hl 0 rfl) ?_
        obtain ⟨x9, hx9, hf⟩ := bd_some hf
        refine vM (As := []) (rest := []) G kX5_98 (c_mm_stuck hx9) hP hD hS ⟨rfl, rfl, Nat.le_of_ble_eq_true rfl, Nat.le_of_ble_eq_true rfl⟩ ⟨Nat.zero_le _, Nat.zero_le _⟩ rfl hl.1 (Nat.le_of_ble_eq_true rfl) dX5_key_37 (fun H locs hP hD hS => ?_)
        refine W.eq (g2 := F0 m 40 ls [.int (bI x9.1)]) rfl ?_
        cases hf
        exact ct_iret G (bI_nar x9.1) hP hD hS dX5_key_40
    · have hf := (if_neg (bI_0 c4)).symm.trans hf
      refine lv_iconst (v := (0 : Int32)) hx hb dX5_key_21 (by decide) ?_
      cases hf
      exact ct_iret G (bI_nar false) hP hD hS dX5_key_22
  · have hf := (if_neg c2).symm.trans hf
    refine lv_aload_n hx hb dX5_key_9 rfl (lv_at hl 0 rfl) ?_
    obtain ⟨x10, hx10, hf⟩ := bd_some hf
    refine vM (As := []) (rest := []) G kX5_98 (c_mm_stuck hx10) hP hD hS ⟨rfl, rfl, Nat.le_of_ble_eq_true rfl, Nat.le_of_ble_eq_true rfl⟩ ⟨Nat.zero_le _, Nat.zero_le _⟩ rfl hl.1 (Nat.le_of_ble_eq_true rfl) dX5_key_10 (fun H locs hP hD hS => ?_)
    refine W.eq (g2 := F0 m 13 ls [.int (bI x10.1)]) rfl ?_
    cases hf
    exact ct_iret G (bI_nar x10.1) hP hD hS dX5_key_13
set_option maxHeartbeats 4000000 in
set_option maxRecDepth 100000 in
theorem c_mm_key {l : Launch} {D : va_G} {aK aV : Nat → Nat} {cB cI cJ : ClassId} {q : Nat → Nat} {ρ : Bool × MSt} {σ : MSt} (hf : mm_key σ = some ρ) : CT l D (gTy cB cI cJ) aK aV yX5_key (wM yX5_key cX5_key 1 (some .boolean)) (rm_mm_key) 0 0 [.ref (q 0)] (mW cB cI cJ q σ) (some (.int (bI ρ.1))) (mW cB cI cJ q ρ.2) := by
  refine CT.of (by decide) rfl ?_
  intro p e s m below meth c A G hnm hP hD hS
  have hl := lv_entry [.ref (q 0)] (n := 1) (Nat.le_of_ble_eq_true rfl)
  rw [lg_entry_eq]
  generalize (lg_sl [.ref (q 0)] ++ List.replicate (1 - (lg_sl [.ref (q 0)]).length) Slot.unset).toArray = ls at hl ⊢
  exact mm_key_t0e G hl hP hD hS hf
def mm_item_b41 (σ : MSt) : Option (Bool × MSt) := bd (mm_value  σ) (fun (x9 : Bool × MSt) => (if x9.1 = true then some (true, x9.2) else some (false, x9.2)))
def mm_item_b27 (σ : MSt) : Option (Bool × MSt) := bd (mm_isMap  σ) (fun (x5 : Bool × MSt) => (if x5.1 = true then bd (mm_key  x5.2) (fun (x7 : Bool × MSt) => (if x7.1 = true then mm_item_b41  x7.2 else some (false, x7.2))) else mm_item_b41  x5.2))
def mm_item (σ : MSt) : Option (Bool × MSt) := (if (mf_open σ) ≤ 0 then mm_item_b27  σ else ck ((mf_open σ) - (1 : Int32)) 64 (ck ((mf_openThing σ) (((mf_open σ) - (1 : Int32))).toNatClampNeg) 4200 (ck ((mf_openThing σ) (((mf_open σ) - (1 : Int32))).toNatClampNeg) 4200 (mm_item_b27  (ms_numbers σ (vp_updL (mf_numbers σ) (((mf_openThing σ) (((mf_open σ) - (1 : Int32))).toNatClampNeg)).toNatClampNeg (((mf_numbers σ) (((mf_openThing σ) (((mf_open σ) - (1 : Int32))).toNatClampNeg)).toNatClampNeg) + (1 : Int64))))))))
abbrev rm_mm_item : Room := { frames := 8, cells := 0, slots := 0, locals := 183 }
set_option maxHeartbeats 4000000 in
set_option maxRecDepth 100000 in
theorem mm_item_t41 {p : Program} {l : Launch} {e : Env} {s : State} {m : MethodId} {args : Array Value} {below : List Frame} {meth : Method} {c : Code} {D : va_G} {aK aV : Nat → Nat} {A : Nat → Prop} {cB cI cJ : ClassId} {q : Nat → Nat} {H : Heap} {locs : List Loc} {ls : Array Slot} {ρ : Bool × MSt} {σ : MSt} (G : CX p s m args meth c D (gTy cB cI cJ) aK aV A RX5 cX5_item 1 (some .boolean)) (hl : lv_has ls 1 [(0, .ref (q 0))]) (hP : va_P D vwCl (mW cB cI cJ q σ) H) (hD : va_D A (mW cB cI cJ q σ)) (hS : va_S A s.heap H locs) (hf : mm_item_b41 σ = some ρ) : W p l e (rm_mm_item) s m args below meth c H locs 0 0 (MQ below (cQ D (gTy cB cI cJ) A (mW cB cI cJ q ρ.2) (some (.int (bI ρ.1)))) args s 0 0 A) (F0 m 41 ls []) := by
  unfold mm_item_b41 at hf
  obtain ⟨hx, hb, hml, hown, hT, hrt, hlk, hK, hA, hG, hE⟩ := id G
  refine lv_aload_n hx hb dX5_item_41 rfl (lv_at hl 0 rfl) ?_
  obtain ⟨x9, hx9, hf⟩ := bd_some hf
  refine vM (As := []) (rest := []) G kX5_183 (c_mm_value hx9) hP hD hS ⟨rfl, rfl, Nat.le_of_ble_eq_true rfl, Nat.le_of_ble_eq_true rfl⟩ ⟨Nat.zero_le _, Nat.zero_le _⟩ rfl hl.1 (Nat.le_of_ble_eq_true rfl) dX5_item_42 (fun H locs hP hD hS => ?_)
  refine W.eq (g2 := F0 m 45 ls [.int (bI x9.1)]) rfl ?_
  refine lv_if_eq (tgt := 52) hx hb dX5_item_45 (by decide) (fun c10 => ?_) (fun c10 => ?_)
  · have hf := (if_neg (bI_0 c10)).symm.trans hf
    refine lv_iconst (v := (0 : Int32)) hx hb dX5_item_52 (by decide) ?_
    cases hf
    exact ct_iret G (bI_nar false) hP hD hS dX5_item_53
  · have hf := (if_pos (bI_n c10)).symm.trans hf
    refine lv_iconst (v := (1 : Int32)) hx hb dX5_item_48 (by decide) ?_
    refine lv_goto (tgt := 53) hx hb dX5_item_49 (by decide) ?_
    cases hf
    exact ct_iret G (bI_nar true) hP hD hS dX5_item_53
set_option maxHeartbeats 4000000 in
set_option maxRecDepth 100000 in
theorem mm_item_t27 {p : Program} {l : Launch} {e : Env} {s : State} {m : MethodId} {args : Array Value} {below : List Frame} {meth : Method} {c : Code} {D : va_G} {aK aV : Nat → Nat} {A : Nat → Prop} {cB cI cJ : ClassId} {q : Nat → Nat} {H : Heap} {locs : List Loc} {ls : Array Slot} {ρ : Bool × MSt} {σ : MSt} (G : CX p s m args meth c D (gTy cB cI cJ) aK aV A RX5 cX5_item 1 (some .boolean)) (hl : lv_has ls 1 [(0, .ref (q 0))]) (hP : va_P D vwCl (mW cB cI cJ q σ) H) (hD : va_D A (mW cB cI cJ q σ)) (hS : va_S A s.heap H locs) (hf : mm_item_b27 σ = some ρ) : W p l e (rm_mm_item) s m args below meth c H locs 0 0 (MQ below (cQ D (gTy cB cI cJ) A (mW cB cI cJ q ρ.2) (some (.int (bI ρ.1)))) args s 0 0 A) (F0 m 27 ls []) := by
  unfold mm_item_b27 at hf
  obtain ⟨hx, hb, hml, hown, hT, hrt, hlk, hK, hA, hG, hE⟩ := id G
  refine lv_aload_n hx hb dX5_item_27 rfl (lv_at hl 0 rfl) ?_
  obtain ⟨x5, hx5, hf⟩ := bd_some hf
  refine vM (As := []) (rest := []) G kX5_177 (c_mm_isMap hx5) hP hD hS ⟨rfl, rfl, Nat.le_of_ble_eq_true rfl, Nat.le_of_ble_eq_true rfl⟩ ⟨Nat.zero_le _, Nat.zero_le _⟩ rfl hl.1 (Nat.le_of_ble_eq_true rfl) dX5_item_28 (fun H locs hP hD hS => ?_)
  refine W.eq (g2 := F0 m 31 ls [.int (bI x5.1)]) rfl ?_
  refine lv_if_eq (tgt := 41) hx hb dX5_item_31 (by decide) (fun c6 => ?_) (fun c6 => ?_)
  · have hf := (if_neg (bI_0 c6)).symm.trans hf
    exact W.eq (g2 := F0 m 41 ls []) rfl (mm_item_t41 G (lv_sub hl [0] rfl) hP hD hS hf)
  · have hf := (if_pos (bI_n c6)).symm.trans hf
    refine lv_aload_n hx hb dX5_item_34 rfl (lv_at hl 0 rfl) ?_
    obtain ⟨x7, hx7, hf⟩ := bd_some hf
    refine vM (As := []) (rest := []) G kX5_180 (c_mm_key hx7) hP hD hS ⟨rfl, rfl, Nat.le_of_ble_eq_true rfl, Nat.le_of_ble_eq_true rfl⟩ ⟨Nat.zero_le _, Nat.zero_le _⟩ rfl hl.1 (Nat.le_of_ble_eq_true rfl) dX5_item_35 (fun H locs hP hD hS => ?_)
    refine W.eq (g2 := F0 m 38 ls [.int (bI x7.1)]) rfl ?_
    refine lv_if_eq (tgt := 52) hx hb dX5_item_38 (by decide) (fun c8 => ?_) (fun c8 => ?_)
    · have hf := (if_neg (bI_0 c8)).symm.trans hf
      refine lv_iconst (v := (0 : Int32)) hx hb dX5_item_52 (by decide) ?_
      cases hf
      exact ct_iret G (bI_nar false) hP hD hS dX5_item_53
    · have hf := (if_pos (bI_n c8)).symm.trans hf
      exact W.eq (g2 := F0 m 41 ls []) rfl (mm_item_t41 G (lv_sub hl [0] rfl) hP hD hS hf)
set_option maxHeartbeats 4000000 in
set_option maxRecDepth 100000 in
theorem mm_item_t0e {p : Program} {l : Launch} {e : Env} {s : State} {m : MethodId} {args : Array Value} {below : List Frame} {meth : Method} {c : Code} {D : va_G} {aK aV : Nat → Nat} {A : Nat → Prop} {cB cI cJ : ClassId} {q : Nat → Nat} {H : Heap} {locs : List Loc} {ls : Array Slot} {ρ : Bool × MSt} {σ : MSt} (G : CX p s m args meth c D (gTy cB cI cJ) aK aV A RX5 cX5_item 1 (some .boolean)) (hl : lv_has ls 1 [(0, .ref (q 0))]) (hP : va_P D vwCl (mW cB cI cJ q σ) H) (hD : va_D A (mW cB cI cJ q σ)) (hS : va_S A s.heap H locs) (hf : mm_item σ = some ρ) : W p l e (rm_mm_item) s m args below meth c H locs 0 0 (MQ below (cQ D (gTy cB cI cJ) A (mW cB cI cJ q ρ.2) (some (.int (bI ρ.1)))) args s 0 0 A) (F0 m 0 ls []) := by
  unfold mm_item at hf
  obtain ⟨hx, hb, hml, hown, hT, hrt, hlk, hK, hA, hG, hE⟩ := id G
  refine lv_aload_n hx hb dX5_item_0 rfl (lv_at hl 0 rfl) ?_
  refine gm_X5_open (v := (mf_open σ)) G hP dX5_item_1 rfl ?_
  refine lv_if_le (tgt := 27) hx hb dX5_item_4 (by decide) (fun c1 => ?_) (fun c1 => ?_)
  · have hf := (if_pos c1).symm.trans hf
    exact W.eq (g2 := F0 m 27 ls []) rfl (mm_item_t27 G (lv_sub hl [0] rfl) hP hD hS hf)
  · have hf := (if_neg c1).symm.trans hf
    refine lv_aload_n hx hb dX5_item_7 rfl (lv_at hl 0 rfl) ?_
    refine gm_X5_numbers G hP dX5_item_8 ?_
    refine lv_aload_n hx hb dX5_item_11 rfl (lv_at hl 0 rfl) ?_
    refine gm_X5_openThing G hP dX5_item_12 ?_
    refine lv_aload_n hx hb dX5_item_15 rfl (lv_at hl 0 rfl) ?_
    refine gm_X5_open (v := (mf_open σ)) G hP dX5_item_16 rfl ?_
    refine lv_iconst (v := (1 : Int32)) hx hb dX5_item_19 (by decide) ?_
    refine lv_isub hx hb dX5_item_20 ?_
    obtain ⟨hi2, hf⟩ := ck_some hf
    refine lm_openThing (f := (mf_openThing σ)) G hP hi2 dX5_item_21 rfl ?_
    refine lv_dup2_11 hx hb dX5_item_22 rfl rfl ?_
    obtain ⟨hi3, hf⟩ := ck_some hf
    refine lm_numbers (f := (mf_numbers σ)) G hP hi3 dX5_item_23 rfl ?_
    refine lv_lconst (v := (1 : Int64)) hx hb dX5_item_24 (by decide) ?_
    refine lv_ladd hx hb dX5_item_25 ?_
    obtain ⟨hi4, hf⟩ := ck_some hf
    refine sm_numbers (f := (mf_numbers σ)) G hP hD hS hi4 dX5_item_26 rfl (fun H locs hP hD hS => ?_)
    exact W.eq (g2 := F0 m 27 ls []) rfl (mm_item_t27 G (lv_sub hl [0] rfl) hP hD hS hf)
set_option maxHeartbeats 4000000 in
set_option maxRecDepth 100000 in
theorem c_mm_item {l : Launch} {D : va_G} {aK aV : Nat → Nat} {cB cI cJ : ClassId} {q : Nat → Nat} {ρ : Bool × MSt} {σ : MSt} (hf : mm_item σ = some ρ) : CT l D (gTy cB cI cJ) aK aV yX5_item (wM yX5_item cX5_item 1 (some .boolean)) (rm_mm_item) 0 0 [.ref (q 0)] (mW cB cI cJ q σ) (some (.int (bI ρ.1))) (mW cB cI cJ q ρ.2) := by
  refine CT.of (by decide) rfl ?_
  intro p e s m below meth c A G hnm hP hD hS
  have hl := lv_entry [.ref (q 0)] (n := 1) (Nat.le_of_ble_eq_true rfl)
  rw [lg_entry_eq]
  generalize (lg_sl [.ref (q 0)] ++ List.replicate (1 - (lg_sl [.ref (q 0)]).length) Slot.unset).toArray = ls at hl ⊢
  exact mm_item_t0e G hl hP hD hS hf
def mm_isCloser_b18 (s0 : Int32) (s1 : Int32) (σ : MSt) : Option (Bool × MSt) := (if s1 = s0 then some (true, σ) else some (false, σ))
def mm_isCloser (σ : MSt) : Option (Bool × MSt) := bd (mm_here  σ) (fun (x1 : Int32 × MSt) => bd (mm_isMap  x1.2) (fun (x2 : Bool × MSt) => (if x2.1 = true then mm_isCloser_b18 (125 : Int32) x1.1 x2.2 else mm_isCloser_b18 (93 : Int32) x1.1 x2.2)))
abbrev rm_mm_isCloser : Room := { frames := 1, cells := 0, slots := 0, locals := 20 }
set_option maxHeartbeats 4000000 in
set_option maxRecDepth 100000 in
theorem mm_isCloser_t18 {p : Program} {l : Launch} {e : Env} {s : State} {m : MethodId} {args : Array Value} {below : List Frame} {meth : Method} {c : Code} {D : va_G} {aK aV : Nat → Nat} {A : Nat → Prop} {cB cI cJ : ClassId} {q : Nat → Nat} {H : Heap} {locs : List Loc} {ls : Array Slot} {ρ : Bool × MSt} {s0 : Int32} {s1 : Int32} {σ : MSt} (G : CX p s m args meth c D (gTy cB cI cJ) aK aV A RX5 cX5_isCloser 1 (some .boolean)) (hl : lv_has ls 1 []) (hP : va_P D vwCl (mW cB cI cJ q σ) H) (hD : va_D A (mW cB cI cJ q σ)) (hS : va_S A s.heap H locs) (hf : mm_isCloser_b18 s0 s1 σ = some ρ) : W p l e (rm_mm_isCloser) s m args below meth c H locs 0 0 (MQ below (cQ D (gTy cB cI cJ) A (mW cB cI cJ q ρ.2) (some (.int (bI ρ.1)))) args s 0 0 A) (F0 m 18 ls [.int s0, .int s1]) := by
  unfold mm_isCloser_b18 at hf
  obtain ⟨hx, hb, hml, hown, hT, hrt, hlk, hK, hA, hG, hE⟩ := id G
  refine lv_icmp_ne (tgt := 25) hx hb dX5_isCloser_18 (by decide) (fun c4 => ?_) (fun c4 => ?_)
  · have hf := (if_neg c4).symm.trans hf
    refine lv_iconst (v := (0 : Int32)) hx hb dX5_isCloser_25 (by decide) ?_
    cases hf
    exact ct_iret G (bI_nar false) hP hD hS dX5_isCloser_26
  · have hf := (if_pos c4).symm.trans hf
    refine lv_iconst (v := (1 : Int32)) hx hb dX5_isCloser_21 (by decide) ?_
    refine lv_goto (tgt := 26) hx hb dX5_isCloser_22 (by decide) ?_
    cases hf
    exact ct_iret G (bI_nar true) hP hD hS dX5_isCloser_26
set_option maxHeartbeats 4000000 in
set_option maxRecDepth 100000 in
theorem mm_isCloser_t0e {p : Program} {l : Launch} {e : Env} {s : State} {m : MethodId} {args : Array Value} {below : List Frame} {meth : Method} {c : Code} {D : va_G} {aK aV : Nat → Nat} {A : Nat → Prop} {cB cI cJ : ClassId} {q : Nat → Nat} {H : Heap} {locs : List Loc} {ls : Array Slot} {ρ : Bool × MSt} {σ : MSt} (G : CX p s m args meth c D (gTy cB cI cJ) aK aV A RX5 cX5_isCloser 1 (some .boolean)) (hl : lv_has ls 1 [(0, .ref (q 0))]) (hP : va_P D vwCl (mW cB cI cJ q σ) H) (hD : va_D A (mW cB cI cJ q σ)) (hS : va_S A s.heap H locs) (hf : mm_isCloser σ = some ρ) : W p l e (rm_mm_isCloser) s m args below meth c H locs 0 0 (MQ below (cQ D (gTy cB cI cJ) A (mW cB cI cJ q ρ.2) (some (.int (bI ρ.1)))) args s 0 0 A) (F0 m 0 ls []) := by
  unfold mm_isCloser at hf
  obtain ⟨hx, hb, hml, hown, hT, hrt, hlk, hK, hA, hG, hE⟩ := id G
  refine lv_aload_n hx hb dX5_isCloser_0 rfl (lv_at hl 0 rfl) ?_
  obtain ⟨x1, hx1, hf⟩ := bd_some hf
  refine vM (As := []) (rest := []) G kX5_86 (c_mm_here hx1) hP hD hS ⟨rfl, rfl, Nat.le_of_ble_eq_true rfl, Nat.le_of_ble_eq_true rfl⟩ ⟨Nat.zero_le _, Nat.zero_le _⟩ rfl hl.1 (Nat.le_of_ble_eq_true rfl) dX5_isCloser_1 (fun H locs hP hD hS => ?_)
  refine W.eq (g2 := F0 m 4 ls [.int x1.1]) rfl ?_
  refine lv_aload_n hx hb dX5_isCloser_4 rfl (lv_at hl 0 rfl) ?_
  obtain ⟨x2, hx2, hf⟩ := bd_some hf
  refine vM (As := []) (rest := [.int x1.1]) G kX5_177 (c_mm_isMap hx2) hP hD hS ⟨rfl, rfl, Nat.le_of_ble_eq_true rfl, Nat.le_of_ble_eq_true rfl⟩ ⟨Nat.zero_le _, Nat.zero_le _⟩ rfl hl.1 (Nat.le_of_ble_eq_true rfl) dX5_isCloser_5 (fun H locs hP hD hS => ?_)
  refine W.eq (g2 := F0 m 8 ls [.int (bI x2.1), .int x1.1]) rfl ?_
  refine lv_if_eq (tgt := 16) hx hb dX5_isCloser_8 (by decide) (fun c3 => ?_) (fun c3 => ?_)
  · have hf := (if_neg (bI_0 c3)).symm.trans hf
    refine lv_bipush (v := (93 : Int32)) hx hb dX5_isCloser_16 (by decide) ?_
    exact W.eq (g2 := F0 m 18 ls [.int (93 : Int32), .int x1.1]) rfl (mm_isCloser_t18 G (lv_sub hl [] rfl) hP hD hS hf)
  · have hf := (if_pos (bI_n c3)).symm.trans hf
    refine lv_bipush (v := (125 : Int32)) hx hb dX5_isCloser_11 (by decide) ?_
    refine lv_goto (tgt := 18) hx hb dX5_isCloser_13 (by decide) ?_
    exact W.eq (g2 := F0 m 18 ls [.int (125 : Int32), .int x1.1]) rfl (mm_isCloser_t18 G (lv_sub hl [] rfl) hP hD hS hf)
set_option maxHeartbeats 4000000 in
set_option maxRecDepth 100000 in
theorem c_mm_isCloser {l : Launch} {D : va_G} {aK aV : Nat → Nat} {cB cI cJ : ClassId} {q : Nat → Nat} {ρ : Bool × MSt} {σ : MSt} (hf : mm_isCloser σ = some ρ) : CT l D (gTy cB cI cJ) aK aV yX5_isCloser (wM yX5_isCloser cX5_isCloser 1 (some .boolean)) (rm_mm_isCloser) 0 0 [.ref (q 0)] (mW cB cI cJ q σ) (some (.int (bI ρ.1))) (mW cB cI cJ q ρ.2) := by
  refine CT.of (by decide) rfl ?_
  intro p e s m below meth c A G hnm hP hD hS
  have hl := lv_entry [.ref (q 0)] (n := 1) (Nat.le_of_ble_eq_true rfl)
  rw [lg_entry_eq]
  generalize (lg_sl [.ref (q 0)] ++ List.replicate (1 - (lg_sl [.ref (q 0)]).length) Slot.unset).toArray = ls at hl ⊢
  exact mm_isCloser_t0e G hl hP hD hS hf
def mm_goesOn_b45 (σ : MSt) : Option (Bool × MSt) := (if (mf_open σ) = 0 then some (false, σ) else bd (mm_here  σ) (fun (x7 : Int32 × MSt) => (if x7.1 = (44 : Int32) then bd (mm_blanks  (ms_at x7.2 ((mf_at x7.2) + (1 : Int32)))) (fun (x9 : MSt) => some (true, x9)) else bd (mm_stuck  x7.2) (fun (x10 : Bool × MSt) => some (x10.1, x10.2)))))
def mm_goesOn_b4 (k4 : MSt → Option (Bool × MSt)) (σ : MSt) : Option (Bool × MSt) := (if (mf_open σ) ≤ 0 then mm_goesOn_b45  σ else bd (mm_isCloser  σ) (fun (x3 : Bool × MSt) => (if x3.1 = true then bd (mm_blanks  (ms_at (ms_open x3.2 ((mf_open x3.2) - (1 : Int32))) ((mf_at x3.2) + (1 : Int32)))) (fun (x5 : MSt) => k4  x5) else mm_goesOn_b45  x3.2)))
def mm_goesOn_L4 : Nat → MSt → Option (Bool × MSt)
  | 0, _ => none
  | n + 1, σ => mm_goesOn_b4 (mm_goesOn_L4 n) σ
def mm_goesOn (σ : MSt) : Option (Bool × MSt) := bd (mm_blanks  σ) (fun (x1 : MSt) => mm_goesOn_L4 FU  x1)
abbrev rm_mm_goesOn : Room := { frames := 2, cells := 0, slots := 0, locals := 42 }
set_option maxHeartbeats 4000000 in
set_option maxRecDepth 100000 in
theorem mm_goesOn_t45 {p : Program} {l : Launch} {e : Env} {s : State} {m : MethodId} {args : Array Value} {below : List Frame} {meth : Method} {c : Code} {D : va_G} {aK aV : Nat → Nat} {A : Nat → Prop} {cB cI cJ : ClassId} {q : Nat → Nat} {H : Heap} {locs : List Loc} {ls : Array Slot} {ρ : Bool × MSt} {σ : MSt} (G : CX p s m args meth c D (gTy cB cI cJ) aK aV A RX5 cX5_goesOn 1 (some .boolean)) (hl : lv_has ls 1 [(0, .ref (q 0))]) (hP : va_P D vwCl (mW cB cI cJ q σ) H) (hD : va_D A (mW cB cI cJ q σ)) (hS : va_S A s.heap H locs) (hf : mm_goesOn_b45 σ = some ρ) : W p l e (rm_mm_goesOn) s m args below meth c H locs 0 0 (MQ below (cQ D (gTy cB cI cJ) A (mW cB cI cJ q ρ.2) (some (.int (bI ρ.1)))) args s 0 0 A) (F0 m 45 ls []) := by
  unfold mm_goesOn_b45 at hf
  obtain ⟨hx, hb, hml, hown, hT, hrt, hlk, hK, hA, hG, hE⟩ := id G
  refine lv_aload_n hx hb dX5_goesOn_45 rfl (lv_at hl 0 rfl) ?_
  refine gm_X5_open (v := (mf_open σ)) G hP dX5_goesOn_46 rfl ?_
  refine lv_if_ne (tgt := 54) hx hb dX5_goesOn_49 (by decide) (fun c6 => ?_) (fun c6 => ?_)
  · have hf := (if_neg c6).symm.trans hf
    refine lv_aload_n hx hb dX5_goesOn_54 rfl (lv_at hl 0 rfl) ?_
    obtain ⟨x7, hx7, hf⟩ := bd_some hf
    refine vM (As := []) (rest := []) G kX5_86 (c_mm_here hx7) hP hD hS ⟨rfl, rfl, Nat.le_of_ble_eq_true rfl, Nat.le_of_ble_eq_true rfl⟩ ⟨Nat.zero_le _, Nat.zero_le _⟩ rfl hl.1 (Nat.le_of_ble_eq_true rfl) dX5_goesOn_55 (fun H locs hP hD hS => ?_)
    refine W.eq (g2 := F0 m 58 ls [.int x7.1]) rfl ?_
    refine lv_bipush (v := (44 : Int32)) hx hb dX5_goesOn_58 (by decide) ?_
    refine lv_icmp_eq (tgt := 68) hx hb dX5_goesOn_60 (by decide) (fun c8 => ?_) (fun c8 => ?_)
    · have hf := (if_pos c8).symm.trans hf
      refine lv_aload_n hx hb dX5_goesOn_68 rfl (lv_at hl 0 rfl) ?_
      refine lv_dup hx hb dX5_goesOn_69 rfl ?_
      refine gm_X5_at (v := (mf_at x7.2)) G hP dX5_goesOn_70 rfl ?_
      refine lv_iconst (v := (1 : Int32)) hx hb dX5_goesOn_73 (by decide) ?_
      refine lv_iadd hx hb dX5_goesOn_74 ?_
      refine pm_X5_at (v := ((mf_at x7.2) + (1 : Int32))) G hP hD hS dX5_goesOn_75 (fun H locs hP hD hS => ?_)
      refine lv_aload_n hx hb dX5_goesOn_78 rfl (lv_at hl 0 rfl) ?_
      obtain ⟨x9, hx9, hf⟩ := bd_some hf
      refine vM (As := []) (rest := []) G kX5_174 (c_mm_blanks hx9) hP hD hS ⟨rfl, rfl, Nat.le_of_ble_eq_true rfl, Nat.le_of_ble_eq_true rfl⟩ ⟨Nat.zero_le _, Nat.zero_le _⟩ rfl hl.1 (Nat.le_of_ble_eq_true rfl) dX5_goesOn_79 (fun H locs hP hD hS => ?_)
      refine W.eq (g2 := F0 m 82 ls []) rfl ?_
      refine lv_iconst (v := (1 : Int32)) hx hb dX5_goesOn_82 (by decide) ?_
      cases hf
      exact ct_iret G (bI_nar true) hP hD hS dX5_goesOn_83
    · have hf := (if_neg c8).symm.trans hf
      refine lv_aload_n hx hb dX5_goesOn_63 rfl (lv_at hl 0 rfl) ?_
      obtain ⟨x10, hx10, hf⟩ := bd_some hf
      refine vM (As := []) (rest := []) G kX5_98 (c_mm_stuck hx10) hP hD hS ⟨rfl, rfl, Nat.le_of_ble_eq_true rfl, Nat.le_of_ble_eq_true rfl⟩ ⟨Nat.zero_le _, Nat.zero_le _⟩ rfl hl.1 (Nat.le_of_ble_eq_true rfl) dX5_goesOn_64 (fun H locs hP hD hS => ?_)
      refine W.eq (g2 := F0 m 67 ls [.int (bI x10.1)]) rfl ?_
      cases hf
      exact ct_iret G (bI_nar x10.1) hP hD hS dX5_goesOn_67
  · have hf := (if_pos c6).symm.trans hf
    refine lv_iconst (v := (0 : Int32)) hx hb dX5_goesOn_52 (by decide) ?_
    cases hf
    exact ct_iret G (bI_nar false) hP hD hS dX5_goesOn_53
set_option maxHeartbeats 4000000 in
set_option maxRecDepth 100000 in
theorem mm_goesOn_t4 {p : Program} {l : Launch} {e : Env} {s : State} {m : MethodId} {args : Array Value} {below : List Frame} {meth : Method} {c : Code} {D : va_G} {aK aV : Nat → Nat} {A : Nat → Prop} {cB cI cJ : ClassId} {q : Nat → Nat} {H : Heap} {locs : List Loc} {ls : Array Slot} {ρ : Bool × MSt} {k4 : MSt → Option (Bool × MSt)} {σ : MSt} (G : CX p s m args meth c D (gTy cB cI cJ) aK aV A RX5 cX5_goesOn 1 (some .boolean)) (hk4 : ∀  (σ : MSt) (H : Heap) (locs : List Loc) (ls : Array Slot), lv_has ls 1 [(0, .ref (q 0))] → va_P D vwCl (mW cB cI cJ q σ) H → va_D A (mW cB cI cJ q σ) → va_S A s.heap H locs → k4  σ = some ρ → W p l e (rm_mm_goesOn) s m args below meth c H locs 0 0 (MQ below (cQ D (gTy cB cI cJ) A (mW cB cI cJ q ρ.2) (some (.int (bI ρ.1)))) args s 0 0 A) (F0 m 4 ls [])) (hl : lv_has ls 1 [(0, .ref (q 0))]) (hP : va_P D vwCl (mW cB cI cJ q σ) H) (hD : va_D A (mW cB cI cJ q σ)) (hS : va_S A s.heap H locs) (hf : mm_goesOn_b4 k4 σ = some ρ) : W p l e (rm_mm_goesOn) s m args below meth c H locs 0 0 (MQ below (cQ D (gTy cB cI cJ) A (mW cB cI cJ q ρ.2) (some (.int (bI ρ.1)))) args s 0 0 A) (F0 m 4 ls []) := by
  unfold mm_goesOn_b4 at hf
  obtain ⟨hx, hb, hml, hown, hT, hrt, hlk, hK, hA, hG, hE⟩ := id G
  refine lv_aload_n hx hb dX5_goesOn_4 rfl (lv_at hl 0 rfl) ?_
  refine gm_X5_open (v := (mf_open σ)) G hP dX5_goesOn_5 rfl ?_
  refine lv_if_le (tgt := 45) hx hb dX5_goesOn_8 (by decide) (fun c2 => ?_) (fun c2 => ?_)
  · have hf := (if_pos c2).symm.trans hf
    exact W.eq (g2 := F0 m 45 ls []) rfl (mm_goesOn_t45 G (lv_sub hl [0] rfl) hP hD hS hf)
  · have hf := (if_neg c2).symm.trans hf
    refine lv_aload_n hx hb dX5_goesOn_11 rfl (lv_at hl 0 rfl) ?_
    obtain ⟨x3, hx3, hf⟩ := bd_some hf
    refine vM (As := []) (rest := []) G kX5_186 (c_mm_isCloser hx3) hP hD hS ⟨rfl, rfl, Nat.le_of_ble_eq_true rfl, Nat.le_of_ble_eq_true rfl⟩ ⟨Nat.zero_le _, Nat.zero_le _⟩ rfl hl.1 (Nat.le_of_ble_eq_true rfl) dX5_goesOn_12 (fun H locs hP hD hS => ?_)
    refine W.eq (g2 := F0 m 15 ls [.int (bI x3.1)]) rfl ?_
    refine lv_if_eq (tgt := 45) hx hb dX5_goesOn_15 (by decide) (fun c4 => ?_) (fun c4 => ?_)
    · have hf := (if_neg (bI_0 c4)).symm.trans hf
      exact W.eq (g2 := F0 m 45 ls []) rfl (mm_goesOn_t45 G (lv_sub hl [0] rfl) hP hD hS hf)
    · have hf := (if_pos (bI_n c4)).symm.trans hf
      refine lv_aload_n hx hb dX5_goesOn_18 rfl (lv_at hl 0 rfl) ?_
      refine lv_dup hx hb dX5_goesOn_19 rfl ?_
      refine gm_X5_open (v := (mf_open x3.2)) G hP dX5_goesOn_20 rfl ?_
      refine lv_iconst (v := (1 : Int32)) hx hb dX5_goesOn_23 (by decide) ?_
      refine lv_isub hx hb dX5_goesOn_24 ?_
      refine pm_X5_open (v := ((mf_open x3.2) - (1 : Int32))) G hP hD hS dX5_goesOn_25 (fun H locs hP hD hS => ?_)
      refine lv_aload_n hx hb dX5_goesOn_28 rfl (lv_at hl 0 rfl) ?_
      refine lv_dup hx hb dX5_goesOn_29 rfl ?_
      refine gm_X5_at (v := (mf_at x3.2)) G hP dX5_goesOn_30 (mG_at_open _ _) ?_
      refine lv_iconst (v := (1 : Int32)) hx hb dX5_goesOn_33 (by decide) ?_
      refine lv_iadd hx hb dX5_goesOn_34 ?_
      refine pm_X5_at (v := ((mf_at x3.2) + (1 : Int32))) G hP hD hS dX5_goesOn_35 (fun H locs hP hD hS => ?_)
      refine lv_aload_n hx hb dX5_goesOn_38 rfl (lv_at hl 0 rfl) ?_
      obtain ⟨x5, hx5, hf⟩ := bd_some hf
      refine vM (As := []) (rest := []) G kX5_174 (c_mm_blanks hx5) hP hD hS ⟨rfl, rfl, Nat.le_of_ble_eq_true rfl, Nat.le_of_ble_eq_true rfl⟩ ⟨Nat.zero_le _, Nat.zero_le _⟩ rfl hl.1 (Nat.le_of_ble_eq_true rfl) dX5_goesOn_39 (fun H locs hP hD hS => ?_)
      refine W.eq (g2 := F0 m 42 ls []) rfl ?_
      refine lv_goto (tgt := 4) hx hb dX5_goesOn_42 (by decide) ?_
      exact W.eq (g2 := F0 m 4 ls []) rfl (hk4  _ _ _ _ (lv_sub hl [0] rfl) hP hD hS hf)
set_option maxHeartbeats 4000000 in
set_option maxRecDepth 100000 in
theorem mm_goesOn_u4 {p : Program} {l : Launch} {e : Env} {s : State} {m : MethodId} {args : Array Value} {below : List Frame} {meth : Method} {c : Code} {D : va_G} {aK aV : Nat → Nat} {A : Nat → Prop} {cB cI cJ : ClassId} {q : Nat → Nat} {ρ : Bool × MSt} (G : CX p s m args meth c D (gTy cB cI cJ) aK aV A RX5 cX5_goesOn 1 (some .boolean)) : ∀ (n : Nat) {σ : MSt} {H : Heap} {locs : List Loc} {ls : Array Slot} (hl : lv_has ls 1 [(0, .ref (q 0))]) (hP : va_P D vwCl (mW cB cI cJ q σ) H) (hD : va_D A (mW cB cI cJ q σ)) (hS : va_S A s.heap H locs) (hf : mm_goesOn_L4 n σ = some ρ), W p l e (rm_mm_goesOn) s m args below meth c H locs 0 0 (MQ below (cQ D (gTy cB cI cJ) A (mW cB cI cJ q ρ.2) (some (.int (bI ρ.1)))) args s 0 0 A) (F0 m 4 ls []) := by
  intro n
  induction n with
  | zero =>
    intros
    rename_i hf
    cases hf
  | succ n ih =>
    intro σ H locs ls hl hP hD hS hf
    exact mm_goesOn_t4 G (fun _ H locs ls hl hP hD hS hf => ih hl hP hD hS hf) hl hP hD hS hf
set_option maxHeartbeats 4000000 in
set_option maxRecDepth 100000 in
theorem mm_goesOn_t0e {p : Program} {l : Launch} {e : Env} {s : State} {m : MethodId} {args : Array Value} {below : List Frame} {meth : Method} {c : Code} {D : va_G} {aK aV : Nat → Nat} {A : Nat → Prop} {cB cI cJ : ClassId} {q : Nat → Nat} {H : Heap} {locs : List Loc} {ls : Array Slot} {ρ : Bool × MSt} {σ : MSt} (G : CX p s m args meth c D (gTy cB cI cJ) aK aV A RX5 cX5_goesOn 1 (some .boolean)) (hl : lv_has ls 1 [(0, .ref (q 0))]) (hP : va_P D vwCl (mW cB cI cJ q σ) H) (hD : va_D A (mW cB cI cJ q σ)) (hS : va_S A s.heap H locs) (hf : mm_goesOn σ = some ρ) : W p l e (rm_mm_goesOn) s m args below meth c H locs 0 0 (MQ below (cQ D (gTy cB cI cJ) A (mW cB cI cJ q ρ.2) (some (.int (bI ρ.1)))) args s 0 0 A) (F0 m 0 ls []) := by
  unfold mm_goesOn at hf
  obtain ⟨hx, hb, hml, hown, hT, hrt, hlk, hK, hA, hG, hE⟩ := id G
  refine lv_aload_n hx hb dX5_goesOn_0 rfl (lv_at hl 0 rfl) ?_
  obtain ⟨x1, hx1, hf⟩ := bd_some hf
  refine vM (As := []) (rest := []) G kX5_174 (c_mm_blanks hx1) hP hD hS ⟨rfl, rfl, Nat.le_of_ble_eq_true rfl, Nat.le_of_ble_eq_true rfl⟩ ⟨Nat.zero_le _, Nat.zero_le _⟩ rfl hl.1 (Nat.le_of_ble_eq_true rfl) dX5_goesOn_1 (fun H locs hP hD hS => ?_)
  refine W.eq (g2 := F0 m 4 ls []) rfl ?_
  exact W.eq (g2 := F0 m 4 ls []) rfl (mm_goesOn_u4 G FU (lv_sub hl [0] rfl) hP hD hS hf)
set_option maxHeartbeats 4000000 in
set_option maxRecDepth 100000 in
theorem c_mm_goesOn {l : Launch} {D : va_G} {aK aV : Nat → Nat} {cB cI cJ : ClassId} {q : Nat → Nat} {ρ : Bool × MSt} {σ : MSt} (hf : mm_goesOn σ = some ρ) : CT l D (gTy cB cI cJ) aK aV yX5_goesOn (wM yX5_goesOn cX5_goesOn 1 (some .boolean)) (rm_mm_goesOn) 0 0 [.ref (q 0)] (mW cB cI cJ q σ) (some (.int (bI ρ.1))) (mW cB cI cJ q ρ.2) := by
  refine CT.of (by decide) rfl ?_
  intro p e s m below meth c A G hnm hP hD hS
  have hl := lv_entry [.ref (q 0)] (n := 1) (Nat.le_of_ble_eq_true rfl)
  rw [lg_entry_eq]
  generalize (lg_sl [.ref (q 0)] ++ List.replicate (1 - (lg_sl [.ref (q 0)]).length) Slot.unset).toArray = ls at hl ⊢
  exact mm_goesOn_t0e G hl hP hD hS hf
def mm_readsJson_b45 (k6 : Int32 → MSt → Option (MSt)) (σ : MSt) : Option (MSt) := bd (mm_goesOn  σ) (fun (x13 : Bool × MSt) => k6 (bI x13.1) x13.2)
def mm_readsJson_b6 (k6 : Int32 → MSt → Option (MSt)) (a1 : Int32) (σ : MSt) : Option (MSt) := (if a1 = 0 then (if (mf_fault σ) = 0 then (if (mf_taped σ) ≤ (mf_at σ) then some σ else bd (mm_stuck  σ) (fun (x5 : Bool × MSt) => some x5.2)) else some σ) else lt (mf_open σ) (fun (v6 : Int32) => bd (mm_item  σ) (fun (x7 : Bool × MSt) => (if x7.1 = true then (if (mf_open x7.2) ≤ v6 then mm_readsJson_b45 k6  x7.2 else bd (mm_blanks  x7.2) (fun (x10 : MSt) => bd (mm_isCloser  x10) (fun (x11 : Bool × MSt) => (if x11.1 = true then mm_readsJson_b45 k6  x11.2 else k6 a1 x11.2)))) else some x7.2))))
def mm_readsJson_L6 : Nat → Int32 → MSt → Option (MSt)
  | 0, _, _ => none
  | n + 1, a1, σ => mm_readsJson_b6 (mm_readsJson_L6 n) a1 σ
def mm_readsJson (σ : MSt) : Option (MSt) := bd (mm_blanks  σ) (fun (x1 : MSt) => mm_readsJson_L6 FU (1 : Int32) x1)
abbrev rm_mm_readsJson : Room := { frames := 9, cells := 0, slots := 0, locals := 203 }
set_option maxHeartbeats 4000000 in
set_option maxRecDepth 100000 in
theorem mm_readsJson_t45 {p : Program} {l : Launch} {e : Env} {s : State} {m : MethodId} {args : Array Value} {below : List Frame} {meth : Method} {c : Code} {D : va_G} {aK aV : Nat → Nat} {A : Nat → Prop} {cB cI cJ : ClassId} {q : Nat → Nat} {H : Heap} {locs : List Loc} {ls : Array Slot} {ρ : MSt} {k6 : Int32 → MSt → Option (MSt)} {σ : MSt} (G : CX p s m args meth c D (gTy cB cI cJ) aK aV A RX5 cX5_readsJson 3 none) (hk6 : ∀ (a1 : Int32) (σ : MSt) (H : Heap) (locs : List Loc) (ls : Array Slot), lv_has ls 3 [(0, .ref (q 0)), (1, .int a1)] → va_P D vwCl (mW cB cI cJ q σ) H → va_D A (mW cB cI cJ q σ) → va_S A s.heap H locs → k6 a1 σ = some ρ → W p l e (rm_mm_readsJson) s m args below meth c H locs 0 0 (MQ below (cQ D (gTy cB cI cJ) A (mW cB cI cJ q ρ) none) args s 0 0 A) (F0 m 6 ls [])) (hl : lv_has ls 3 [(0, .ref (q 0))]) (hP : va_P D vwCl (mW cB cI cJ q σ) H) (hD : va_D A (mW cB cI cJ q σ)) (hS : va_S A s.heap H locs) (hf : mm_readsJson_b45 k6 σ = some ρ) : W p l e (rm_mm_readsJson) s m args below meth c H locs 0 0 (MQ below (cQ D (gTy cB cI cJ) A (mW cB cI cJ q ρ) none) args s 0 0 A) (F0 m 45 ls []) := by
  unfold mm_readsJson_b45 at hf
  obtain ⟨hx, hb, hml, hown, hT, hrt, hlk, hK, hA, hG, hE⟩ := id G
  refine lv_aload_n hx hb dX5_readsJson_45 rfl (lv_at hl 0 rfl) ?_
  obtain ⟨x13, hx13, hf⟩ := bd_some hf
  refine vM (As := []) (rest := []) G kX5_192 (c_mm_goesOn hx13) hP hD hS ⟨rfl, rfl, Nat.le_of_ble_eq_true rfl, Nat.le_of_ble_eq_true rfl⟩ ⟨Nat.zero_le _, Nat.zero_le _⟩ rfl hl.1 (Nat.le_of_ble_eq_true rfl) dX5_readsJson_46 (fun H locs hP hD hS => ?_)
  refine W.eq (g2 := F0 m 49 ls [.int (bI x13.1)]) rfl ?_
  refine lv_istore_n (lv' := [(1, .int (bI x13.1)), (0, .ref (q 0))]) hx hb dX5_readsJson_49 rfl hl (by decide) rfl (fun ls hl => ?_)
  refine lv_goto (tgt := 6) hx hb dX5_readsJson_50 (by decide) ?_
  exact W.eq (g2 := F0 m 6 ls []) rfl (hk6 _ _ _ _ _ (lv_sub hl [1, 0] rfl) hP hD hS hf)
set_option maxHeartbeats 4000000 in
set_option maxRecDepth 100000 in
theorem mm_readsJson_t6 {p : Program} {l : Launch} {e : Env} {s : State} {m : MethodId} {args : Array Value} {below : List Frame} {meth : Method} {c : Code} {D : va_G} {aK aV : Nat → Nat} {A : Nat → Prop} {cB cI cJ : ClassId} {q : Nat → Nat} {H : Heap} {locs : List Loc} {ls : Array Slot} {ρ : MSt} {k6 : Int32 → MSt → Option (MSt)} {a1 : Int32} {σ : MSt} (G : CX p s m args meth c D (gTy cB cI cJ) aK aV A RX5 cX5_readsJson 3 none) (hk6 : ∀ (a1 : Int32) (σ : MSt) (H : Heap) (locs : List Loc) (ls : Array Slot), lv_has ls 3 [(0, .ref (q 0)), (1, .int a1)] → va_P D vwCl (mW cB cI cJ q σ) H → va_D A (mW cB cI cJ q σ) → va_S A s.heap H locs → k6 a1 σ = some ρ → W p l e (rm_mm_readsJson) s m args below meth c H locs 0 0 (MQ below (cQ D (gTy cB cI cJ) A (mW cB cI cJ q ρ) none) args s 0 0 A) (F0 m 6 ls [])) (hl : lv_has ls 3 [(0, .ref (q 0)), (1, .int a1)]) (hP : va_P D vwCl (mW cB cI cJ q σ) H) (hD : va_D A (mW cB cI cJ q σ)) (hS : va_S A s.heap H locs) (hf : mm_readsJson_b6 k6 a1 σ = some ρ) : W p l e (rm_mm_readsJson) s m args below meth c H locs 0 0 (MQ below (cQ D (gTy cB cI cJ) A (mW cB cI cJ q ρ) none) args s 0 0 A) (F0 m 6 ls []) := by
  unfold mm_readsJson_b6 at hf
  obtain ⟨hx, hb, hml, hown, hT, hrt, hlk, hK, hA, hG, hE⟩ := id G
  refine lv_iload_n hx hb dX5_readsJson_6 rfl (lv_at hl 1 rfl) ?_
  refine lv_if_eq (tgt := 53) hx hb dX5_readsJson_7 (by decide) (fun c2 => ?_) (fun c2 => ?_)
  · have hf := (if_pos c2).symm.trans hf
    refine lv_aload_n hx hb dX5_readsJson_53 rfl (lv_at hl 0 rfl) ?_
    refine gm_X5_fault (v := (mf_fault σ)) G hP dX5_readsJson_54 rfl ?_
    refine lv_if_ne (tgt := 76) hx hb dX5_readsJson_57 (by decide) (fun c3 => ?_) (fun c3 => ?_)
    · have hf := (if_neg c3).symm.trans hf
      cases hf
      exact ct_vret G hP hD hS dX5_readsJson_76
    · have hf := (if_pos c3).symm.trans hf
      refine lv_aload_n hx hb dX5_readsJson_60 rfl (lv_at hl 0 rfl) ?_
      refine gm_X5_at (v := (mf_at σ)) G hP dX5_readsJson_61 rfl ?_
      refine lv_aload_n hx hb dX5_readsJson_64 rfl (lv_at hl 0 rfl) ?_
      refine gm_X5_taped (v := (mf_taped σ)) G hP dX5_readsJson_65 rfl ?_
      refine lv_icmp_ge (tgt := 76) hx hb dX5_readsJson_68 (by decide) (fun c4 => ?_) (fun c4 => ?_)
      · have hf := (if_pos c4).symm.trans hf
        cases hf
        exact ct_vret G hP hD hS dX5_readsJson_76
      · have hf := (if_neg c4).symm.trans hf
        refine lv_aload_n hx hb dX5_readsJson_71 rfl (lv_at hl 0 rfl) ?_
        obtain ⟨x5, hx5, hf⟩ := bd_some hf
        refine vM (As := []) (rest := []) G kX5_98 (c_mm_stuck hx5) hP hD hS ⟨rfl, rfl, Nat.le_of_ble_eq_true rfl, Nat.le_of_ble_eq_true rfl⟩ ⟨Nat.zero_le _, Nat.zero_le _⟩ rfl hl.1 (Nat.le_of_ble_eq_true rfl) dX5_readsJson_72 (fun H locs hP hD hS => ?_)
        refine W.eq (g2 := F0 m 75 ls [.int (bI x5.1)]) rfl ?_
        refine lv_pop hx hb dX5_readsJson_75 rfl ?_
        cases hf
        exact ct_vret G hP hD hS dX5_readsJson_76
  · have hf := (if_neg c2).symm.trans hf
    refine lv_aload_n hx hb dX5_readsJson_10 rfl (lv_at hl 0 rfl) ?_
    refine gm_X5_open (v := (mf_open σ)) G hP dX5_readsJson_11 rfl ?_
    refine lv_topi (fun v6 ev6 => ?_)
    have hf := lt_eq hf ev6
    refine lv_istore_n (lv' := [(2, .int v6), (0, .ref (q 0)), (1, .int a1)]) hx hb dX5_readsJson_14 rfl hl (by decide) rfl (fun ls hl => ?_)
    refine lv_aload_n hx hb dX5_readsJson_15 rfl (lv_at hl 1 rfl) ?_
    obtain ⟨x7, hx7, hf⟩ := bd_some hf
    refine vM (As := []) (rest := []) G kX5_189 (c_mm_item hx7) hP hD hS ⟨rfl, rfl, Nat.le_of_ble_eq_true rfl, Nat.le_of_ble_eq_true rfl⟩ ⟨Nat.zero_le _, Nat.zero_le _⟩ rfl hl.1 (Nat.le_of_ble_eq_true rfl) dX5_readsJson_16 (fun H locs hP hD hS => ?_)
    refine W.eq (g2 := F0 m 19 ls [.int (bI x7.1)]) rfl ?_
    refine lv_if_ne (tgt := 23) hx hb dX5_readsJson_19 (by decide) (fun c8 => ?_) (fun c8 => ?_)
    · have hf := (if_pos (bI_n c8)).symm.trans hf
      refine lv_aload_n hx hb dX5_readsJson_23 rfl (lv_at hl 1 rfl) ?_
      refine gm_X5_open (v := (mf_open x7.2)) G hP dX5_readsJson_24 rfl ?_
      refine lv_iload_n hx hb dX5_readsJson_27 rfl (lv_at hl 0 rfl) ?_
      refine lv_icmp_le (tgt := 45) hx hb dX5_readsJson_28 (by decide) (fun c9 => ?_) (fun c9 => ?_)
      · have hf := (if_pos c9).symm.trans hf
        exact W.eq (g2 := F0 m 45 ls []) rfl (mm_readsJson_t45 G hk6 (lv_sub hl [1] rfl) hP hD hS hf)
      · have hf := (if_neg c9).symm.trans hf
        refine lv_aload_n hx hb dX5_readsJson_31 rfl (lv_at hl 1 rfl) ?_
        obtain ⟨x10, hx10, hf⟩ := bd_some hf
        refine vM (As := []) (rest := []) G kX5_174 (c_mm_blanks hx10) hP hD hS ⟨rfl, rfl, Nat.le_of_ble_eq_true rfl, Nat.le_of_ble_eq_true rfl⟩ ⟨Nat.zero_le _, Nat.zero_le _⟩ rfl hl.1 (Nat.le_of_ble_eq_true rfl) dX5_readsJson_32 (fun H locs hP hD hS => ?_)
        refine W.eq (g2 := F0 m 35 ls []) rfl ?_
        refine lv_aload_n hx hb dX5_readsJson_35 rfl (lv_at hl 1 rfl) ?_
        obtain ⟨x11, hx11, hf⟩ := bd_some hf
        refine vM (As := []) (rest := []) G kX5_186 (c_mm_isCloser hx11) hP hD hS ⟨rfl, rfl, Nat.le_of_ble_eq_true rfl, Nat.le_of_ble_eq_true rfl⟩ ⟨Nat.zero_le _, Nat.zero_le _⟩ rfl hl.1 (Nat.le_of_ble_eq_true rfl) dX5_readsJson_36 (fun H locs hP hD hS => ?_)
        refine W.eq (g2 := F0 m 39 ls [.int (bI x11.1)]) rfl ?_
        refine lv_if_ne (tgt := 45) hx hb dX5_readsJson_39 (by decide) (fun c12 => ?_) (fun c12 => ?_)
        · have hf := (if_pos (bI_n c12)).symm.trans hf
          exact W.eq (g2 := F0 m 45 ls []) rfl (mm_readsJson_t45 G hk6 (lv_sub hl [1] rfl) hP hD hS hf)
        · have hf := (if_neg (bI_0 c12)).symm.trans hf
          refine lv_goto (tgt := 6) hx hb dX5_readsJson_42 (by decide) ?_
          exact W.eq (g2 := F0 m 6 ls []) rfl (hk6 _ _ _ _ _ (lv_sub hl [1, 2] rfl) hP hD hS hf)
    · have hf := (if_neg (bI_0 c8)).symm.trans hf
      cases hf
      exact ct_vret G hP hD hS dX5_readsJson_22
set_option maxHeartbeats 4000000 in
set_option maxRecDepth 100000 in
theorem mm_readsJson_u6 {p : Program} {l : Launch} {e : Env} {s : State} {m : MethodId} {args : Array Value} {below : List Frame} {meth : Method} {c : Code} {D : va_G} {aK aV : Nat → Nat} {A : Nat → Prop} {cB cI cJ : ClassId} {q : Nat → Nat} {ρ : MSt} (G : CX p s m args meth c D (gTy cB cI cJ) aK aV A RX5 cX5_readsJson 3 none) : ∀ (n : Nat) {a1 : Int32} {σ : MSt} {H : Heap} {locs : List Loc} {ls : Array Slot} (hl : lv_has ls 3 [(0, .ref (q 0)), (1, .int a1)]) (hP : va_P D vwCl (mW cB cI cJ q σ) H) (hD : va_D A (mW cB cI cJ q σ)) (hS : va_S A s.heap H locs) (hf : mm_readsJson_L6 n a1 σ = some ρ), W p l e (rm_mm_readsJson) s m args below meth c H locs 0 0 (MQ below (cQ D (gTy cB cI cJ) A (mW cB cI cJ q ρ) none) args s 0 0 A) (F0 m 6 ls []) := by
  intro n
  induction n with
  | zero =>
    intros
    rename_i hf
    cases hf
  | succ n ih =>
    intro a1 σ H locs ls hl hP hD hS hf
    exact mm_readsJson_t6 G (fun _ _ H locs ls hl hP hD hS hf => ih hl hP hD hS hf) hl hP hD hS hf
set_option maxHeartbeats 4000000 in
set_option maxRecDepth 100000 in
theorem mm_readsJson_t0e {p : Program} {l : Launch} {e : Env} {s : State} {m : MethodId} {args : Array Value} {below : List Frame} {meth : Method} {c : Code} {D : va_G} {aK aV : Nat → Nat} {A : Nat → Prop} {cB cI cJ : ClassId} {q : Nat → Nat} {H : Heap} {locs : List Loc} {ls : Array Slot} {ρ : MSt} {σ : MSt} (G : CX p s m args meth c D (gTy cB cI cJ) aK aV A RX5 cX5_readsJson 3 none) (hl : lv_has ls 3 [(0, .ref (q 0))]) (hP : va_P D vwCl (mW cB cI cJ q σ) H) (hD : va_D A (mW cB cI cJ q σ)) (hS : va_S A s.heap H locs) (hf : mm_readsJson σ = some ρ) : W p l e (rm_mm_readsJson) s m args below meth c H locs 0 0 (MQ below (cQ D (gTy cB cI cJ) A (mW cB cI cJ q ρ) none) args s 0 0 A) (F0 m 0 ls []) := by
  unfold mm_readsJson at hf
  obtain ⟨hx, hb, hml, hown, hT, hrt, hlk, hK, hA, hG, hE⟩ := id G
  refine lv_aload_n hx hb dX5_readsJson_0 rfl (lv_at hl 0 rfl) ?_
  obtain ⟨x1, hx1, hf⟩ := bd_some hf
  refine vM (As := []) (rest := []) G kX5_174 (c_mm_blanks hx1) hP hD hS ⟨rfl, rfl, Nat.le_of_ble_eq_true rfl, Nat.le_of_ble_eq_true rfl⟩ ⟨Nat.zero_le _, Nat.zero_le _⟩ rfl hl.1 (Nat.le_of_ble_eq_true rfl) dX5_readsJson_1 (fun H locs hP hD hS => ?_)
  refine W.eq (g2 := F0 m 4 ls []) rfl ?_
  refine lv_iconst (v := (1 : Int32)) hx hb dX5_readsJson_4 (by decide) ?_
  refine lv_istore_n (lv' := [(1, .int (1 : Int32)), (0, .ref (q 0))]) hx hb dX5_readsJson_5 rfl hl (by decide) rfl (fun ls hl => ?_)
  exact W.eq (g2 := F0 m 6 ls []) rfl (mm_readsJson_u6 G FU (lv_sub hl [1, 0] rfl) hP hD hS hf)
set_option maxHeartbeats 4000000 in
set_option maxRecDepth 100000 in
theorem c_mm_readsJson {l : Launch} {D : va_G} {aK aV : Nat → Nat} {cB cI cJ : ClassId} {q : Nat → Nat} {ρ : MSt} {σ : MSt} (hf : mm_readsJson σ = some ρ) : CT l D (gTy cB cI cJ) aK aV yX5_readsJson (wM yX5_readsJson cX5_readsJson 3 none) (rm_mm_readsJson) 0 0 [.ref (q 0)] (mW cB cI cJ q σ) none (mW cB cI cJ q ρ) := by
  refine CT.of (by decide) rfl ?_
  intro p e s m below meth c A G hnm hP hD hS
  have hl := lv_entry [.ref (q 0)] (n := 3) (Nat.le_of_ble_eq_true rfl)
  rw [lg_entry_eq]
  generalize (lg_sl [.ref (q 0)] ++ List.replicate (3 - (lg_sl [.ref (q 0)]).length) Slot.unset).toArray = ls at hl ⊢
  exact mm_readsJson_t0e G hl hP hD hS hf
