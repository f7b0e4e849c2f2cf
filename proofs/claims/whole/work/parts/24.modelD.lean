/-! THE REFERENCE: reading CBOR (printed by program wip/gen) -/
def mm_text_b21 (σ : MSt) : Option (Bool × MSt) := bd (mm_wrong (1 : Int32) (mf_taped σ) σ) (fun (x4 : Bool × MSt) => some (x4.1, x4.2))
def mm_text_b76 (k39 : Int32 → MSt → Option (Bool × MSt)) (k76 : Int32 → Int32 → Int32 → MSt → Option (Bool × MSt)) (a3 : Int32) (a4 : Int32) (a5 : Int32) (σ : MSt) : Option (Bool × MSt) := (if a4 ≤ a5 then k39 a3 (ms_at σ ((mf_at σ) + a4)) else ck ((mf_at σ) + a5) 4000 (bd (mm_letter ((mf_tape σ) (((mf_at σ) + a5)).toNatClampNeg) σ) (fun (x11 : MSt) => lt (a5 + (1 : Int32)) (fun (v12 : Int32) => k76 a3 a4 v12 x11))))
def mm_text_L76 (k39 : Int32 → MSt → Option (Bool × MSt)) : Nat → Int32 → Int32 → Int32 → MSt → Option (Bool × MSt)
  | 0, _, _, _, _ => none
  | n + 1, a3, a4, a5, σ => mm_text_b76 k39 (mm_text_L76 k39 n) a3 a4 a5 σ
def mm_text_b39 (k39 : Int32 → MSt → Option (Bool × MSt)) (a3 : Int32) (σ : MSt) : Option (Bool × MSt) := (if a3 ≤ (mf_at σ) then some (true, σ) else bd (mm_signSize (mf_at σ) a3 σ) (fun (x6 : Int32 × MSt) => (if x6.1 = 0 then bd (mm_wrong (3 : Int32) (mf_at x6.2) x6.2) (fun (x8 : Bool × MSt) => some (x8.1, x8.2)) else mm_text_L76 k39 FU a3 x6.1 (0 : Int32) x6.2)))
def mm_text_L39 : Nat → Int32 → MSt → Option (Bool × MSt)
  | 0, _, _ => none
  | n + 1, a3, σ => mm_text_b39 (mm_text_L39 n) a3 σ
def mm_text (p0 : Int64) (σ : MSt) : Option (Bool × MSt) := (if p0 < (0 : Int64) then mm_text_b21  σ else (if p0 ≤ (Int32.toInt64 ((mf_taped σ) - (mf_at σ))) then lt ((mf_at σ) + (Int64.toInt32 p0)) (fun (v3 : Int32) => mm_text_L39 FU v3 σ) else mm_text_b21  σ))
abbrev rm_mm_text : Room := { frames := 2, cells := 0, slots := 0, locals := 51 }
set_option maxHeartbeats 4000000 in
set_option maxRecDepth 100000 in
theorem mm_text_t21 {p : Program} {l : Launch} {e : Env} {s : State} {m : MethodId} {args : Array Value} {below : List Frame} {meth : Method} {c : Code} {D : va_G} {aK aV : Nat → Nat} {A : Nat → Prop} {cB cI cJ : ClassId} {q : Nat → Nat} {H : Heap} {locs : List Loc} {ls : Array Slot} {ρ : Bool × MSt} {σ : MSt} (G : CX p s m args meth c D (gTy cB cI cJ) aK aV A RX5 cX5_text 6 (some .boolean)) (hl : lv_has ls 6 [(0, .ref (q 0))]) (hP : va_P D vwCl (mW cB cI cJ q σ) H) (hD : va_D A (mW cB cI cJ q σ)) (hS : va_S A s.heap H locs) (hf : mm_text_b21 σ = some ρ) : W p l e (rm_mm_text) s m args below meth c H locs 0 0 (MQ below (cQ D (gTy cB cI cJ) A (mW cB cI cJ q ρ.2) (some (.int (bI ρ.1)))) args s 0 0 A) (F0 m 21 ls []) := by
  unfold mm_text_b21 at hf
  obtain ⟨hx, hb, hml, hown, hT, hrt, hlk, hK, hA, hG, hE⟩ := id G
  refine lv_aload_n hx hb dX5_text_21 rfl (lv_at hl 0 rfl) ?_
  refine lv_iconst (v := (1 : Int32)) hx hb dX5_text_22 (by decide) ?_
  refine lv_aload_n hx hb dX5_text_23 rfl (lv_at hl 0 rfl) ?_
  refine gm_X5_taped (v := (mf_taped σ)) G hP dX5_text_24 rfl ?_
  obtain ⟨x4, hx4, hf⟩ := bd_some hf
  refine vM (As := [.int (1 : Int32), .int (mf_taped σ)]) (rest := []) G kX5_90 (c_mm_wrong hx4) hP hD hS ⟨rfl, rfl, Nat.le_of_ble_eq_true rfl, Nat.le_of_ble_eq_true rfl⟩ ⟨Nat.zero_le _, Nat.zero_le _⟩ rfl hl.1 (Nat.le_of_ble_eq_true rfl) dX5_text_27 (fun H locs hP hD hS => ?_)
  refine W.eq (g2 := F0 m 30 ls [.int (bI x4.1)]) rfl ?_
  cases hf
  exact ct_iret G (bI_nar x4.1) hP hD hS dX5_text_30
set_option maxHeartbeats 4000000 in
set_option maxRecDepth 100000 in
theorem mm_text_t76 {p : Program} {l : Launch} {e : Env} {s : State} {m : MethodId} {args : Array Value} {below : List Frame} {meth : Method} {c : Code} {D : va_G} {aK aV : Nat → Nat} {A : Nat → Prop} {cB cI cJ : ClassId} {q : Nat → Nat} {H : Heap} {locs : List Loc} {ls : Array Slot} {ρ : Bool × MSt} {k39 : Int32 → MSt → Option (Bool × MSt)} {k76 : Int32 → Int32 → Int32 → MSt → Option (Bool × MSt)} {a3 : Int32} {a4 : Int32} {a5 : Int32} {σ : MSt} (G : CX p s m args meth c D (gTy cB cI cJ) aK aV A RX5 cX5_text 6 (some .boolean)) (hk39 : ∀ (a3 : Int32) (σ : MSt) (H : Heap) (locs : List Loc) (ls : Array Slot), lv_has ls 6 [(0, .ref (q 0)), (3, .int a3)] → va_P D vwCl (mW cB cI cJ q σ) H → va_D A (mW cB cI cJ q σ) → va_S A s.heap H locs → k39 a3 σ = some ρ → W p l e (rm_mm_text) s m args below meth c H locs 0 0 (MQ below (cQ D (gTy cB cI cJ) A (mW cB cI cJ q ρ.2) (some (.int (bI ρ.1)))) args s 0 0 A) (F0 m 39 ls [])) (hk76 : ∀ (a3 : Int32) (a4 : Int32) (a5 : Int32) (σ : MSt) (H : Heap) (locs : List Loc) (ls : Array Slot), lv_has ls 6 [(0, .ref (q 0)), (3, .int a3), (4, .int a4), (5, .int a5)] → va_P D vwCl (mW cB cI cJ q σ) H → va_D A (mW cB cI cJ q σ) → va_S A s.heap H locs → k76 a3 a4 a5 σ = some ρ → W p l e (rm_mm_text) s m args below meth c H locs 0 0 (MQ below (cQ D (gTy cB cI cJ) A (mW cB cI cJ q ρ.2) (some (.int (bI ρ.1)))) args s 0 0 A) (F0 m 76 ls [])) (hl : lv_has ls 6 [(0, .ref (q 0)), (3, .int a3), (4, .int a4), (5, .int a5)]) (hP : va_P D vwCl (mW cB cI cJ q σ) H) (hD : va_D A (mW cB cI cJ q σ)) (hS : va_S A s.heap H locs) (hf : mm_text_b76 k39 k76 a3 a4 a5 σ = some ρ) : W p l e (rm_mm_text) s m args below meth c H locs 0 0 (MQ below (cQ D (gTy cB cI cJ) A (mW cB cI cJ q ρ.2) (some (.int (bI ρ.1)))) args s 0 0 A) (F0 m 76 ls []) := by
  unfold mm_text_b76 at hf
  obtain ⟨hx, hb, hml, hown, hT, hrt, hlk, hK, hA, hG, hE⟩ := id G
  refine lv_iload hx hb dX5_text_76 (lv_at hl 3 rfl) ?_
  refine lv_iload hx hb dX5_text_78 (lv_at hl 2 rfl) ?_
  refine lv_icmp_ge (tgt := 105) hx hb dX5_text_80 (by decide) (fun c9 => ?_) (fun c9 => ?_)
  · have hf := (if_pos c9).symm.trans hf
    refine lv_aload_n hx hb dX5_text_105 rfl (lv_at hl 0 rfl) ?_
    refine lv_dup hx hb dX5_text_106 rfl ?_
    refine gm_X5_at (v := (mf_at σ)) G hP dX5_text_107 rfl ?_
    refine lv_iload hx hb dX5_text_110 (lv_at hl 2 rfl) ?_
    refine lv_iadd hx hb dX5_text_112 ?_
    refine pm_X5_at (v := ((mf_at σ) + a4)) G hP hD hS dX5_text_113 (fun H locs hP hD hS => ?_)
    refine lv_goto (tgt := 39) hx hb dX5_text_116 (by decide) ?_
    exact W.eq (g2 := F0 m 39 ls []) rfl (hk39 _ _ _ _ _ (lv_sub hl [0, 1] rfl) hP hD hS hf)
  · have hf := (if_neg c9).symm.trans hf
    refine lv_aload_n hx hb dX5_text_83 rfl (lv_at hl 0 rfl) ?_
    refine lv_aload_n hx hb dX5_text_84 rfl (lv_at hl 0 rfl) ?_
    refine gm_X5_tape G hP dX5_text_85 ?_
    refine lv_aload_n hx hb dX5_text_88 rfl (lv_at hl 0 rfl) ?_
    refine gm_X5_at (v := (mf_at σ)) G hP dX5_text_89 rfl ?_
    refine lv_iload hx hb dX5_text_92 (lv_at hl 3 rfl) ?_
    refine lv_iadd hx hb dX5_text_94 ?_
    obtain ⟨hi10, hf⟩ := ck_some hf
    refine lm_tape (f := (mf_tape σ)) G hP hi10 dX5_text_95 rfl ?_
    obtain ⟨x11, hx11, hf⟩ := bd_some hf
    refine vM (As := [.int ((mf_tape σ) (((mf_at σ) + a5)).toNatClampNeg)]) (rest := []) G kX5_80 (c_mm_letter hx11) hP hD hS ⟨rfl, rfl, Nat.le_of_ble_eq_true rfl, Nat.le_of_ble_eq_true rfl⟩ ⟨Nat.zero_le _, Nat.zero_le _⟩ rfl hl.1 (Nat.le_of_ble_eq_true rfl) dX5_text_96 (fun H locs hP hD hS => ?_)
    refine W.eq (g2 := F0 m 99 ls []) rfl ?_
    obtain ⟨v12, ev12⟩ : ∃ y : Int32, y = (a5 + (1 : Int32)) := ⟨_, rfl⟩
    have hf := lt_eq hf ev12
    refine lv_iinc (v := v12) (lv' := [(5, .int v12), (0, .ref (q 0)), (3, .int a3), (4, .int a4)]) hx hb dX5_text_99 hl (k := 3) rfl (by rw [ev12]; rfl) (by decide) rfl (fun ls hl => ?_)
    refine lv_goto (tgt := 76) hx hb dX5_text_102 (by decide) ?_
    exact W.eq (g2 := F0 m 76 ls []) rfl (hk76 _ _ _ _ _ _ _ (lv_sub hl [1, 2, 3, 0] rfl) hP hD hS hf)
set_option maxHeartbeats 4000000 in
set_option maxRecDepth 100000 in
theorem mm_text_u76 {p : Program} {l : Launch} {e : Env} {s : State} {m : MethodId} {args : Array Value} {below : List Frame} {meth : Method} {c : Code} {D : va_G} {aK aV : Nat → Nat} {A : Nat → Prop} {cB cI cJ : ClassId} {q : Nat → Nat} {ρ : Bool × MSt} {k39 : Int32 → MSt → Option (Bool × MSt)} (G : CX p s m args meth c D (gTy cB cI cJ) aK aV A RX5 cX5_text 6 (some .boolean)) (hk39 : ∀ (a3 : Int32) (σ : MSt) (H : Heap) (locs : List Loc) (ls : Array Slot), lv_has ls 6 [(0, .ref (q 0)), (3, .int a3)] → va_P D vwCl (mW cB cI cJ q σ) H → va_D A (mW cB cI cJ q σ) → va_S A s.heap H locs → k39 a3 σ = some ρ → W p l e (rm_mm_text) s m args below meth c H locs 0 0 (MQ below (cQ D (gTy cB cI cJ) A (mW cB cI cJ q ρ.2) (some (.int (bI ρ.1)))) args s 0 0 A) (F0 m 39 ls [])) : ∀ (n : Nat) {a3 : Int32} {a4 : Int32} {a5 : Int32} {σ : MSt} {H : Heap} {locs : List Loc} {ls : Array Slot} (hl : lv_has ls 6 [(0, .ref (q 0)), (3, .int a3), (4, .int a4), (5, .int a5)]) (hP : va_P D vwCl (mW cB cI cJ q σ) H) (hD : va_D A (mW cB cI cJ q σ)) (hS : va_S A s.heap H locs) (hf : mm_text_L76 k39 n a3 a4 a5 σ = some ρ), W p l e (rm_mm_text) s m args below meth c H locs 0 0 (MQ below (cQ D (gTy cB cI cJ) A (mW cB cI cJ q ρ.2) (some (.int (bI ρ.1)))) args s 0 0 A) (F0 m 76 ls []) := by
  intro n
  induction n with
  | zero =>
    intros
    rename_i hf
    cases hf
  | succ n ih =>
    intro a3 a4 a5 σ H locs ls hl hP hD hS hf
    exact mm_text_t76 G hk39 (fun _ _ _ _ H locs ls hl hP hD hS hf => ih hl hP hD hS hf) hl hP hD hS hf
set_option maxHeartbeats 4000000 in
set_option maxRecDepth 100000 in
theorem mm_text_t39 {p : Program} {l : Launch} {e : Env} {s : State} {m : MethodId} {args : Array Value} {below : List Frame} {meth : Method} {c : Code} {D : va_G} {aK aV : Nat → Nat} {A : Nat → Prop} {cB cI cJ : ClassId} {q : Nat → Nat} {H : Heap} {locs : List Loc} {ls : Array Slot} {ρ : Bool × MSt} {k39 : Int32 → MSt → Option (Bool × MSt)} {a3 : Int32} {σ : MSt} (G : CX p s m args meth c D (gTy cB cI cJ) aK aV A RX5 cX5_text 6 (some .boolean)) (hk39 : ∀ (a3 : Int32) (σ : MSt) (H : Heap) (locs : List Loc) (ls : Array Slot), lv_has ls 6 [(0, .ref (q 0)), (3, .int a3)] → va_P D vwCl (mW cB cI cJ q σ) H → va_D A (mW cB cI cJ q σ) → va_S A s.heap H locs → k39 a3 σ = some ρ → W p l e (rm_mm_text) s m args below meth c H locs 0 0 (MQ below (cQ D (gTy cB cI cJ) A (mW cB cI cJ q ρ.2) (some (.int (bI ρ.1)))) args s 0 0 A) (F0 m 39 ls [])) (hl : lv_has ls 6 [(0, .ref (q 0)), (3, .int a3)]) (hP : va_P D vwCl (mW cB cI cJ q σ) H) (hD : va_D A (mW cB cI cJ q σ)) (hS : va_S A s.heap H locs) (hf : mm_text_b39 k39 a3 σ = some ρ) : W p l e (rm_mm_text) s m args below meth c H locs 0 0 (MQ below (cQ D (gTy cB cI cJ) A (mW cB cI cJ q ρ.2) (some (.int (bI ρ.1)))) args s 0 0 A) (F0 m 39 ls []) := by
  unfold mm_text_b39 at hf
  obtain ⟨hx, hb, hml, hown, hT, hrt, hlk, hK, hA, hG, hE⟩ := id G
  refine lv_aload_n hx hb dX5_text_39 rfl (lv_at hl 0 rfl) ?_
  refine gm_X5_at (v := (mf_at σ)) G hP dX5_text_40 rfl ?_
  refine lv_iload_n hx hb dX5_text_43 rfl (lv_at hl 1 rfl) ?_
  refine lv_icmp_ge (tgt := 119) hx hb dX5_text_44 (by decide) (fun c5 => ?_) (fun c5 => ?_)
  · have hf := (if_pos c5).symm.trans hf
    refine lv_iconst (v := (1 : Int32)) hx hb dX5_text_119 (by decide) ?_
    cases hf
    exact ct_iret G (bI_nar true) hP hD hS dX5_text_120
  · have hf := (if_neg c5).symm.trans hf
    refine lv_aload_n hx hb dX5_text_47 rfl (lv_at hl 0 rfl) ?_
    refine lv_aload_n hx hb dX5_text_48 rfl (lv_at hl 0 rfl) ?_
    refine gm_X5_at (v := (mf_at σ)) G hP dX5_text_49 rfl ?_
    refine lv_iload_n hx hb dX5_text_52 rfl (lv_at hl 1 rfl) ?_
    obtain ⟨x6, hx6, hf⟩ := bd_some hf
    refine vM (As := [.int (mf_at σ), .int a3]) (rest := []) G kX5_149 (c_mm_signSize hx6) hP hD hS ⟨rfl, rfl, Nat.le_of_ble_eq_true rfl, Nat.le_of_ble_eq_true rfl⟩ ⟨Nat.zero_le _, Nat.zero_le _⟩ rfl hl.1 (Nat.le_of_ble_eq_true rfl) dX5_text_53 (fun H locs hP hD hS => ?_)
    refine W.eq (g2 := F0 m 56 ls [.int x6.1]) rfl ?_
    refine lv_istore (lv' := [(4, .int x6.1), (0, .ref (q 0)), (3, .int a3)]) hx hb dX5_text_56 hl (by decide) rfl (fun ls hl => ?_)
    refine lv_iload hx hb dX5_text_58 (lv_at hl 0 rfl) ?_
    refine lv_if_ne (tgt := 73) hx hb dX5_text_60 (by decide) (fun c7 => ?_) (fun c7 => ?_)
    · have hf := (if_neg c7).symm.trans hf
      refine lv_iconst (v := (0 : Int32)) hx hb dX5_text_73 (by decide) ?_
      refine lv_istore (lv' := [(5, .int (0 : Int32)), (4, .int x6.1), (0, .ref (q 0)), (3, .int a3)]) hx hb dX5_text_74 hl (by decide) rfl (fun ls hl => ?_)
      exact W.eq (g2 := F0 m 76 ls []) rfl (mm_text_u76 G hk39 FU (lv_sub hl [2, 3, 1, 0] rfl) hP hD hS hf)
    · have hf := (if_pos c7).symm.trans hf
      refine lv_aload_n hx hb dX5_text_63 rfl (lv_at hl 1 rfl) ?_
      refine lv_iconst (v := (3 : Int32)) hx hb dX5_text_64 (by decide) ?_
      refine lv_aload_n hx hb dX5_text_65 rfl (lv_at hl 1 rfl) ?_
      refine gm_X5_at (v := (mf_at x6.2)) G hP dX5_text_66 rfl ?_
      obtain ⟨x8, hx8, hf⟩ := bd_some hf
      refine vM (As := [.int (3 : Int32), .int (mf_at x6.2)]) (rest := []) G kX5_90 (c_mm_wrong hx8) hP hD hS ⟨rfl, rfl, Nat.le_of_ble_eq_true rfl, Nat.le_of_ble_eq_true rfl⟩ ⟨Nat.zero_le _, Nat.zero_le _⟩ rfl hl.1 (Nat.le_of_ble_eq_true rfl) dX5_text_69 (fun H locs hP hD hS => ?_)
      refine W.eq (g2 := F0 m 72 ls [.int (bI x8.1)]) rfl ?_
      cases hf
      exact ct_iret G (bI_nar x8.1) hP hD hS dX5_text_72
set_option maxHeartbeats 4000000 in
set_option maxRecDepth 100000 in
theorem mm_text_u39 {p : Program} {l : Launch} {e : Env} {s : State} {m : MethodId} {args : Array Value} {below : List Frame} {meth : Method} {c : Code} {D : va_G} {aK aV : Nat → Nat} {A : Nat → Prop} {cB cI cJ : ClassId} {q : Nat → Nat} {ρ : Bool × MSt} (G : CX p s m args meth c D (gTy cB cI cJ) aK aV A RX5 cX5_text 6 (some .boolean)) : ∀ (n : Nat) {a3 : Int32} {σ : MSt} {H : Heap} {locs : List Loc} {ls : Array Slot} (hl : lv_has ls 6 [(0, .ref (q 0)), (3, .int a3)]) (hP : va_P D vwCl (mW cB cI cJ q σ) H) (hD : va_D A (mW cB cI cJ q σ)) (hS : va_S A s.heap H locs) (hf : mm_text_L39 n a3 σ = some ρ), W p l e (rm_mm_text) s m args below meth c H locs 0 0 (MQ below (cQ D (gTy cB cI cJ) A (mW cB cI cJ q ρ.2) (some (.int (bI ρ.1)))) args s 0 0 A) (F0 m 39 ls []) := by
  intro n
  induction n with
  | zero =>
    intros
    rename_i hf
    cases hf
  | succ n ih =>
    intro a3 σ H locs ls hl hP hD hS hf
    exact mm_text_t39 G (fun _ _ H locs ls hl hP hD hS hf => ih hl hP hD hS hf) hl hP hD hS hf
set_option maxHeartbeats 4000000 in
set_option maxRecDepth 100000 in
theorem mm_text_t0e {p : Program} {l : Launch} {e : Env} {s : State} {m : MethodId} {args : Array Value} {below : List Frame} {meth : Method} {c : Code} {D : va_G} {aK aV : Nat → Nat} {A : Nat → Prop} {cB cI cJ : ClassId} {q : Nat → Nat} {H : Heap} {locs : List Loc} {ls : Array Slot} {ρ : Bool × MSt} {p0 : Int64} {σ : MSt} (G : CX p s m args meth c D (gTy cB cI cJ) aK aV A RX5 cX5_text 6 (some .boolean)) (hl : lv_has ls 6 [(0, .ref (q 0)), (1, .long p0)]) (hP : va_P D vwCl (mW cB cI cJ q σ) H) (hD : va_D A (mW cB cI cJ q σ)) (hS : va_S A s.heap H locs) (hf : mm_text p0 σ = some ρ) : W p l e (rm_mm_text) s m args below meth c H locs 0 0 (MQ below (cQ D (gTy cB cI cJ) A (mW cB cI cJ q ρ.2) (some (.int (bI ρ.1)))) args s 0 0 A) (F0 m 0 ls []) := by
  unfold mm_text at hf
  obtain ⟨hx, hb, hml, hown, hT, hrt, hlk, hK, hA, hG, hE⟩ := id G
  refine lv_lload_n hx hb dX5_text_0 rfl (lv_at hl 1 rfl) ?_
  refine lv_lconst (v := (0 : Int64)) hx hb dX5_text_1 (by decide) ?_
  refine W.lcmp hx hb dX5_text_2 ?_
  refine lv_if_lt (tgt := 21) hx hb dX5_text_3 (by decide) (fun c1 => ?_) (fun c1 => ?_)
  · have hf := (if_pos ((lg_cmp_lt _ _).mp c1)).symm.trans hf
    exact W.eq (g2 := F0 m 21 ls []) rfl (mm_text_t21 G (lv_sub hl [0] rfl) hP hD hS hf)
  · have hf := (if_neg (fun z => c1 ((lg_cmp_lt _ _).mpr z))).symm.trans hf
    refine lv_lload_n hx hb dX5_text_6 rfl (lv_at hl 1 rfl) ?_
    refine lv_aload_n hx hb dX5_text_7 rfl (lv_at hl 0 rfl) ?_
    refine gm_X5_taped (v := (mf_taped σ)) G hP dX5_text_8 rfl ?_
    refine lv_aload_n hx hb dX5_text_11 rfl (lv_at hl 0 rfl) ?_
    refine gm_X5_at (v := (mf_at σ)) G hP dX5_text_12 rfl ?_
    refine lv_isub hx hb dX5_text_15 ?_
    refine lv_i2l (v := (Int32.toInt64 ((mf_taped σ) - (mf_at σ)))) hx hb dX5_text_16 rfl ?_
    refine W.lcmp hx hb dX5_text_17 ?_
    refine lv_if_le (tgt := 31) hx hb dX5_text_18 (by decide) (fun c2 => ?_) (fun c2 => ?_)
    · have hf := (if_pos ((lg_cmp_le _ _).mp c2)).symm.trans hf
      refine lv_aload_n hx hb dX5_text_31 rfl (lv_at hl 0 rfl) ?_
      refine gm_X5_at (v := (mf_at σ)) G hP dX5_text_32 rfl ?_
      refine lv_lload_n hx hb dX5_text_35 rfl (lv_at hl 1 rfl) ?_
      refine lv_l2i (v := (Int64.toInt32 p0)) hx hb dX5_text_36 rfl ?_
      refine lv_iadd hx hb dX5_text_37 ?_
      refine lv_topi (fun v3 ev3 => ?_)
      have hf := lt_eq hf ev3
      refine lv_istore_n (lv' := [(3, .int v3), (0, .ref (q 0)), (1, .long p0)]) hx hb dX5_text_38 rfl hl (by decide) rfl (fun ls hl => ?_)
      exact W.eq (g2 := F0 m 39 ls []) rfl (mm_text_u39 G FU (lv_sub hl [1, 0] rfl) hP hD hS hf)
    · have hf := (if_neg (fun z => c2 ((lg_cmp_le _ _).mpr z))).symm.trans hf
      exact W.eq (g2 := F0 m 21 ls []) rfl (mm_text_t21 G (lv_sub hl [0] rfl) hP hD hS hf)
set_option maxHeartbeats 4000000 in
set_option maxRecDepth 100000 in
theorem c_mm_text {l : Launch} {D : va_G} {aK aV : Nat → Nat} {cB cI cJ : ClassId} {q : Nat → Nat} {ρ : Bool × MSt} {p0 : Int64} {σ : MSt} (hf : mm_text p0 σ = some ρ) : CT l D (gTy cB cI cJ) aK aV yX5_text (wM yX5_text cX5_text 6 (some .boolean)) (rm_mm_text) 0 0 [.ref (q 0), .long p0] (mW cB cI cJ q σ) (some (.int (bI ρ.1))) (mW cB cI cJ q ρ.2) := by
  refine CT.of (by decide) rfl ?_
  intro p e s m below meth c A G hnm hP hD hS
  have hl := lv_entry [.ref (q 0), .long p0] (n := 6) (Nat.le_of_ble_eq_true rfl)
  rw [lg_entry_eq]
  generalize (lg_sl [.ref (q 0), .long p0] ++ List.replicate (6 - (lg_sl [.ref (q 0), .long p0]).length) Slot.unset).toArray = ls at hl ⊢
  exact mm_text_t0e G hl hP hD hS hf
def mm_head_b103 (a2 : Int32) (σ : MSt) : Option (Bool × MSt) := bd (mm_wrong (2 : Int32) a2 σ) (fun (x16 : Bool × MSt) => some (x16.1, x16.2))
def mm_head_b269 (a2 : Int32) (σ : MSt) : Option (Bool × MSt) := bd (mm_wrong (6 : Int32) a2 σ) (fun (x42 : Bool × MSt) => some (x42.1, x42.2))
def mm_head_b318 (a3 : Int32) (a6 : Int64) (σ : MSt) : Option (Bool × MSt) := bd (mm_thing a3 a6 σ) (fun (x35 : Int32 × MSt) => (if a3 = (3 : Int32) then bd (mm_text a6 x35.2) (fun (x37 : Bool × MSt) => (if x37.1 = true then some (true, x37.2) else some (false, x37.2))) else some (true, x35.2)))
def mm_head_b300 (a2 : Int32) (a3 : Int32) (a6 : Int64) (σ : MSt) : Option (Bool × MSt) := (if (mf_open σ) = (mf_depth σ) then bd (mm_wrong (4 : Int32) a2 σ) (fun (x34 : Bool × MSt) => some (x34.1, x34.2)) else mm_head_b318 a3 a6 σ)
def mm_head_b277 (a2 : Int32) (a3 : Int32) (a5 : Int32) (a6 : Int64) (σ : MSt) : Option (Bool × MSt) := (if a3 = (4 : Int32) then mm_head_b300 a2 a3 a6 (ms_at σ ((mf_at σ) + (a5 + (1 : Int32)))) else (if a3 = (5 : Int32) then mm_head_b300 a2 a3 a6 (ms_at σ ((mf_at σ) + (a5 + (1 : Int32)))) else mm_head_b318 a3 a6 (ms_at σ ((mf_at σ) + (a5 + (1 : Int32))))))
def mm_head_b239 (a2 : Int32) (a3 : Int32) (a5 : Int32) (a6 : Int64) (s0 : Int64) (σ : MSt) : Option (Bool × MSt) := (if (8 : Int32) ≤ a5 then (if ((Int64.toUInt64 a6 >>> ((Int32.toInt64 (32 : Int32)).toUInt64 &&& Int64.toUInt64 63)).toInt64) = (0 : Int64) then mm_head_b269 a2 σ else mm_head_b277 a2 a3 a5 a6 σ) else (if s0 ≤ a6 then mm_head_b277 a2 a3 a5 a6 σ else mm_head_b269 a2 σ))
def mm_head_b187 (k187 : Int32 → Int32 → Int32 → Int64 → Int32 → MSt → Option (Bool × MSt)) (a2 : Int32) (a3 : Int32) (a5 : Int32) (a6 : Int64) (a8 : Int32) (σ : MSt) : Option (Bool × MSt) := (if a5 < a8 then (if a5 = (1 : Int32) then mm_head_b239 a2 a3 a5 a6 (24 : Int64) σ else mm_head_b239 a2 a3 a5 a6 ((1 : Int64) <<< (Int32.toInt64 ((4 : Int32) * a5) &&& 63)) σ) else ck ((mf_at σ) + a8) 4000 (lt ((a6 <<< (Int32.toInt64 (8 : Int32) &&& 63)) ||| (Int32.toInt64 ((mf_tape σ) (((mf_at σ) + a8)).toNatClampNeg))) (fun (v31 : Int64) => lt (a8 + (1 : Int32)) (fun (v32 : Int32) => k187 a2 a3 a5 v31 v32 σ))))
def mm_head_L187 : Nat → Int32 → Int32 → Int32 → Int64 → Int32 → MSt → Option (Bool × MSt)
  | 0, _, _, _, _, _, _ => none
  | n + 1, a2, a3, a5, a6, a8, σ => mm_head_b187 (mm_head_L187 n) a2 a3 a5 a6 a8 σ
def mm_head_b143 (a2 : Int32) (a3 : Int32) (a4 : Int32) (s0 : Int32) (σ : MSt) : Option (Bool × MSt) := (if s0 ≤ (((mf_taped σ) - (mf_at σ)) - (1 : Int32)) then lt (Int32.toInt64 a4) (fun (v23 : Int64) => (if s0 ≤ 0 then mm_head_b277 a2 a3 s0 v23 σ else mm_head_L187 FU a2 a3 s0 (0 : Int64) (1 : Int32) σ)) else bd (mm_wrong (1 : Int32) (mf_taped σ) σ) (fun (x25 : Bool × MSt) => some (x25.1, x25.2)))
def mm_head_b110 (a2 : Int32) (a3 : Int32) (a4 : Int32) (σ : MSt) : Option (Bool × MSt) := (if a4 = (31 : Int32) then bd (mm_wrong (6 : Int32) a2 σ) (fun (x21 : Bool × MSt) => some (x21.1, x21.2)) else (if (24 : Int32) ≤ a4 then mm_head_b143 a2 a3 a4 ((1 : Int32) <<< ((a4 - (24 : Int32)) &&& 31)) σ else mm_head_b143 a2 a3 a4 (0 : Int32) σ))
def mm_head_b94 (a1 : Int32) (a2 : Int32) (a3 : Int32) (a4 : Int32) (σ : MSt) : Option (Bool × MSt) := (if a1 = 0 then mm_head_b110 a2 a3 a4 σ else (if a3 = (3 : Int32) then mm_head_b110 a2 a3 a4 σ else mm_head_b103 a2 σ))
def mm_head_b63 (a1 : Int32) (a2 : Int32) (a3 : Int32) (a4 : Int32) (σ : MSt) : Option (Bool × MSt) := (if a3 = (2 : Int32) then mm_head_b103 a2 σ else (if a3 = (6 : Int32) then mm_head_b103 a2 σ else (if a3 = (7 : Int32) then (if a4 < (20 : Int32) then mm_head_b103 a2 σ else (if (22 : Int32) < a4 then mm_head_b103 a2 σ else mm_head_b94 a1 a2 a3 a4 σ)) else mm_head_b94 a1 a2 a3 a4 σ)))
def mm_head_b56 (a2 : Int32) (σ : MSt) : Option (Bool × MSt) := bd (mm_wrong (1 : Int32) a2 σ) (fun (x15 : Bool × MSt) => some (x15.1, x15.2))
def mm_head (p0 : Int32) (σ : MSt) : Option (Bool × MSt) := lt (mf_at σ) (fun (v1 : Int32) => ck (mf_at σ) 4000 (lt (((mf_tape σ) ((mf_at σ)).toNatClampNeg) >>> ((5 : Int32) &&& 31)) (fun (v3 : Int32) => ck (mf_at σ) 4000 (lt (((mf_tape σ) ((mf_at σ)).toNatClampNeg) &&& (31 : Int32)) (fun (v5 : Int32) => (if v5 ≤ (27 : Int32) then mm_head_b63 p0 v1 v3 v5 σ else (if v5 < (31 : Int32) then mm_head_b56 v1 σ else (if v3 < (2 : Int32) then mm_head_b56 v1 σ else (if v3 = (7 : Int32) then mm_head_b56 v1 σ else mm_head_b63 p0 v1 v3 v5 σ)))))))))
abbrev rm_mm_head : Room := { frames := 3, cells := 0, slots := 0, locals := 76 }
set_option maxHeartbeats 4000000 in
set_option maxRecDepth 100000 in
theorem mm_head_t103 {p : Program} {l : Launch} {e : Env} {s : State} {m : MethodId} {args : Array Value} {below : List Frame} {meth : Method} {c : Code} {D : va_G} {aK aV : Nat → Nat} {A : Nat → Prop} {cB cI cJ : ClassId} {q : Nat → Nat} {H : Heap} {locs : List Loc} {ls : Array Slot} {ρ : Bool × MSt} {a2 : Int32} {σ : MSt} (G : CX p s m args meth c D (gTy cB cI cJ) aK aV A RX5 cX5_head 10 (some .boolean)) (hl : lv_has ls 10 [(0, .ref (q 0)), (2, .int a2)]) (hP : va_P D vwCl (mW cB cI cJ q σ) H) (hD : va_D A (mW cB cI cJ q σ)) (hS : va_S A s.heap H locs) (hf : mm_head_b103 a2 σ = some ρ) : W p l e (rm_mm_head) s m args below meth c H locs 0 0 (MQ below (cQ D (gTy cB cI cJ) A (mW cB cI cJ q ρ.2) (some (.int (bI ρ.1)))) args s 0 0 A) (F0 m 103 ls []) := by
  unfold mm_head_b103 at hf
  obtain ⟨hx, hb, hml, hown, hT, hrt, hlk, hK, hA, hG, hE⟩ := id G
  refine lv_aload_n hx hb dX5_head_103 rfl (lv_at hl 0 rfl) ?_
  refine lv_iconst (v := (2 : Int32)) hx hb dX5_head_104 (by decide) ?_
  refine lv_iload_n hx hb dX5_head_105 rfl (lv_at hl 1 rfl) ?_
  obtain ⟨x16, hx16, hf⟩ := bd_some hf
  refine vM (As := [.int (2 : Int32), .int a2]) (rest := []) G kX5_90 (c_mm_wrong hx16) hP hD hS ⟨rfl, rfl, Nat.le_of_ble_eq_true rfl, Nat.le_of_ble_eq_true rfl⟩ ⟨Nat.zero_le _, Nat.zero_le _⟩ rfl hl.1 (Nat.le_of_ble_eq_true rfl) dX5_head_106 (fun H locs hP hD hS => ?_)
  refine W.eq (g2 := F0 m 109 ls [.int (bI x16.1)]) rfl ?_
  cases hf
  exact ct_iret G (bI_nar x16.1) hP hD hS dX5_head_109
set_option maxHeartbeats 4000000 in
set_option maxRecDepth 100000 in
theorem mm_head_t269 {p : Program} {l : Launch} {e : Env} {s : State} {m : MethodId} {args : Array Value} {below : List Frame} {meth : Method} {c : Code} {D : va_G} {aK aV : Nat → Nat} {A : Nat → Prop} {cB cI cJ : ClassId} {q : Nat → Nat} {H : Heap} {locs : List Loc} {ls : Array Slot} {ρ : Bool × MSt} {a2 : Int32} {σ : MSt} (G : CX p s m args meth c D (gTy cB cI cJ) aK aV A RX5 cX5_head 10 (some .boolean)) (hl : lv_has ls 10 [(0, .ref (q 0)), (2, .int a2)]) (hP : va_P D vwCl (mW cB cI cJ q σ) H) (hD : va_D A (mW cB cI cJ q σ)) (hS : va_S A s.heap H locs) (hf : mm_head_b269 a2 σ = some ρ) : W p l e (rm_mm_head) s m args below meth c H locs 0 0 (MQ below (cQ D (gTy cB cI cJ) A (mW cB cI cJ q ρ.2) (some (.int (bI ρ.1)))) args s 0 0 A) (F0 m 269 ls []) := by
  unfold mm_head_b269 at hf
  obtain ⟨hx, hb, hml, hown, hT, hrt, hlk, hK, hA, hG, hE⟩ := id G
  refine lv_aload_n hx hb dX5_head_269 rfl (lv_at hl 0 rfl) ?_
  refine lv_bipush (v := (6 : Int32)) hx hb dX5_head_270 (by decide) ?_
  refine lv_iload_n hx hb dX5_head_272 rfl (lv_at hl 1 rfl) ?_
  obtain ⟨x42, hx42, hf⟩ := bd_some hf
  refine vM (As := [.int (6 : Int32), .int a2]) (rest := []) G kX5_90 (c_mm_wrong hx42) hP hD hS ⟨rfl, rfl, Nat.le_of_ble_eq_true rfl, Nat.le_of_ble_eq_true rfl⟩ ⟨Nat.zero_le _, Nat.zero_le _⟩ rfl hl.1 (Nat.le_of_ble_eq_true rfl) dX5_head_273 (fun H locs hP hD hS => ?_)
  refine W.eq (g2 := F0 m 276 ls [.int (bI x42.1)]) rfl ?_
  cases hf
  exact ct_iret G (bI_nar x42.1) hP hD hS dX5_head_276
set_option maxHeartbeats 4000000 in
set_option maxRecDepth 100000 in
theorem mm_head_t318 {p : Program} {l : Launch} {e : Env} {s : State} {m : MethodId} {args : Array Value} {below : List Frame} {meth : Method} {c : Code} {D : va_G} {aK aV : Nat → Nat} {A : Nat → Prop} {cB cI cJ : ClassId} {q : Nat → Nat} {H : Heap} {locs : List Loc} {ls : Array Slot} {ρ : Bool × MSt} {a3 : Int32} {a6 : Int64} {σ : MSt} (G : CX p s m args meth c D (gTy cB cI cJ) aK aV A RX5 cX5_head 10 (some .boolean)) (hl : lv_has ls 10 [(0, .ref (q 0)), (3, .int a3), (6, .long a6)]) (hP : va_P D vwCl (mW cB cI cJ q σ) H) (hD : va_D A (mW cB cI cJ q σ)) (hS : va_S A s.heap H locs) (hf : mm_head_b318 a3 a6 σ = some ρ) : W p l e (rm_mm_head) s m args below meth c H locs 0 0 (MQ below (cQ D (gTy cB cI cJ) A (mW cB cI cJ q ρ.2) (some (.int (bI ρ.1)))) args s 0 0 A) (F0 m 318 ls []) := by
  unfold mm_head_b318 at hf
  obtain ⟨hx, hb, hml, hown, hT, hrt, hlk, hK, hA, hG, hE⟩ := id G
  refine lv_aload_n hx hb dX5_head_318 rfl (lv_at hl 0 rfl) ?_
  refine lv_iload_n hx hb dX5_head_319 rfl (lv_at hl 1 rfl) ?_
  refine lv_lload hx hb dX5_head_320 (lv_at hl 2 rfl) ?_
  obtain ⟨x35, hx35, hf⟩ := bd_some hf
  refine vM (As := [.int a3, .long a6]) (rest := []) G kX5_125 (c_mm_thing hx35) hP hD hS ⟨rfl, rfl, Nat.le_of_ble_eq_true rfl, Nat.le_of_ble_eq_true rfl⟩ ⟨Nat.zero_le _, Nat.zero_le _⟩ rfl hl.1 (Nat.le_of_ble_eq_true rfl) dX5_head_322 (fun H locs hP hD hS => ?_)
  refine W.eq (g2 := F0 m 325 ls [.int x35.1]) rfl ?_
  refine lv_pop hx hb dX5_head_325 rfl ?_
  refine lv_iload_n hx hb dX5_head_326 rfl (lv_at hl 1 rfl) ?_
  refine lv_iconst (v := (3 : Int32)) hx hb dX5_head_327 (by decide) ?_
  refine lv_icmp_ne (tgt := 340) hx hb dX5_head_328 (by decide) (fun c36 => ?_) (fun c36 => ?_)
  · have hf := (if_neg c36).symm.trans hf
    refine lv_iconst (v := (1 : Int32)) hx hb dX5_head_340 (by decide) ?_
    refine lv_goto (tgt := 345) hx hb dX5_head_341 (by decide) ?_
    cases hf
    exact ct_iret G (bI_nar true) hP hD hS dX5_head_345
  · have hf := (if_pos c36).symm.trans hf
    refine lv_aload_n hx hb dX5_head_331 rfl (lv_at hl 0 rfl) ?_
    refine lv_lload hx hb dX5_head_332 (lv_at hl 2 rfl) ?_
    obtain ⟨x37, hx37, hf⟩ := bd_some hf
    refine vM (As := [.long a6]) (rest := []) G kX5_197 (c_mm_text hx37) hP hD hS ⟨rfl, rfl, Nat.le_of_ble_eq_true rfl, Nat.le_of_ble_eq_true rfl⟩ ⟨Nat.zero_le _, Nat.zero_le _⟩ rfl hl.1 (Nat.le_of_ble_eq_true rfl) dX5_head_334 (fun H locs hP hD hS => ?_)
    refine W.eq (g2 := F0 m 337 ls [.int (bI x37.1)]) rfl ?_
    refine lv_if_eq (tgt := 344) hx hb dX5_head_337 (by decide) (fun c38 => ?_) (fun c38 => ?_)
    · have hf := (if_neg (bI_0 c38)).symm.trans hf
      refine lv_iconst (v := (0 : Int32)) hx hb dX5_head_344 (by decide) ?_
      cases hf
      exact ct_iret G (bI_nar false) hP hD hS dX5_head_345
    · have hf := (if_pos (bI_n c38)).symm.trans hf
      refine lv_iconst (v := (1 : Int32)) hx hb dX5_head_340 (by decide) ?_
      refine lv_goto (tgt := 345) hx hb dX5_head_341 (by decide) ?_
      cases hf
      exact ct_iret G (bI_nar true) hP hD hS dX5_head_345
set_option maxHeartbeats 4000000 in
set_option maxRecDepth 100000 in
theorem mm_head_t300 {p : Program} {l : Launch} {e : Env} {s : State} {m : MethodId} {args : Array Value} {below : List Frame} {meth : Method} {c : Code} {D : va_G} {aK aV : Nat → Nat} {A : Nat → Prop} {cB cI cJ : ClassId} {q : Nat → Nat} {H : Heap} {locs : List Loc} {ls : Array Slot} {ρ : Bool × MSt} {a2 : Int32} {a3 : Int32} {a6 : Int64} {σ : MSt} (G : CX p s m args meth c D (gTy cB cI cJ) aK aV A RX5 cX5_head 10 (some .boolean)) (hl : lv_has ls 10 [(0, .ref (q 0)), (2, .int a2), (3, .int a3), (6, .long a6)]) (hP : va_P D vwCl (mW cB cI cJ q σ) H) (hD : va_D A (mW cB cI cJ q σ)) (hS : va_S A s.heap H locs) (hf : mm_head_b300 a2 a3 a6 σ = some ρ) : W p l e (rm_mm_head) s m args below meth c H locs 0 0 (MQ below (cQ D (gTy cB cI cJ) A (mW cB cI cJ q ρ.2) (some (.int (bI ρ.1)))) args s 0 0 A) (F0 m 300 ls []) := by
  unfold mm_head_b300 at hf
  obtain ⟨hx, hb, hml, hown, hT, hrt, hlk, hK, hA, hG, hE⟩ := id G
  refine lv_aload_n hx hb dX5_head_300 rfl (lv_at hl 0 rfl) ?_
  refine gm_X5_open (v := (mf_open σ)) G hP dX5_head_301 rfl ?_
  refine lv_aload_n hx hb dX5_head_304 rfl (lv_at hl 0 rfl) ?_
  refine gm_X5_depth (v := (mf_depth σ)) G hP dX5_head_305 rfl ?_
  refine lv_icmp_ne (tgt := 318) hx hb dX5_head_308 (by decide) (fun c33 => ?_) (fun c33 => ?_)
  · have hf := (if_neg c33).symm.trans hf
    exact W.eq (g2 := F0 m 318 ls []) rfl (mm_head_t318 G (lv_sub hl [0, 2, 3] rfl) hP hD hS hf)
  · have hf := (if_pos c33).symm.trans hf
    refine lv_aload_n hx hb dX5_head_311 rfl (lv_at hl 0 rfl) ?_
    refine lv_iconst (v := (4 : Int32)) hx hb dX5_head_312 (by decide) ?_
    refine lv_iload_n hx hb dX5_head_313 rfl (lv_at hl 1 rfl) ?_
    obtain ⟨x34, hx34, hf⟩ := bd_some hf
    refine vM (As := [.int (4 : Int32), .int a2]) (rest := []) G kX5_90 (c_mm_wrong hx34) hP hD hS ⟨rfl, rfl, Nat.le_of_ble_eq_true rfl, Nat.le_of_ble_eq_true rfl⟩ ⟨Nat.zero_le _, Nat.zero_le _⟩ rfl hl.1 (Nat.le_of_ble_eq_true rfl) dX5_head_314 (fun H locs hP hD hS => ?_)
    refine W.eq (g2 := F0 m 317 ls [.int (bI x34.1)]) rfl ?_
    cases hf
    exact ct_iret G (bI_nar x34.1) hP hD hS dX5_head_317
set_option maxHeartbeats 4000000 in
set_option maxRecDepth 100000 in
theorem mm_head_t277 {p : Program} {l : Launch} {e : Env} {s : State} {m : MethodId} {args : Array Value} {below : List Frame} {meth : Method} {c : Code} {D : va_G} {aK aV : Nat → Nat} {A : Nat → Prop} {cB cI cJ : ClassId} {q : Nat → Nat} {H : Heap} {locs : List Loc} {ls : Array Slot} {ρ : Bool × MSt} {a2 : Int32} {a3 : Int32} {a5 : Int32} {a6 : Int64} {σ : MSt} (G : CX p s m args meth c D (gTy cB cI cJ) aK aV A RX5 cX5_head 10 (some .boolean)) (hl : lv_has ls 10 [(0, .ref (q 0)), (2, .int a2), (3, .int a3), (5, .int a5), (6, .long a6)]) (hP : va_P D vwCl (mW cB cI cJ q σ) H) (hD : va_D A (mW cB cI cJ q σ)) (hS : va_S A s.heap H locs) (hf : mm_head_b277 a2 a3 a5 a6 σ = some ρ) : W p l e (rm_mm_head) s m args below meth c H locs 0 0 (MQ below (cQ D (gTy cB cI cJ) A (mW cB cI cJ q ρ.2) (some (.int (bI ρ.1)))) args s 0 0 A) (F0 m 277 ls []) := by
  unfold mm_head_b277 at hf
  obtain ⟨hx, hb, hml, hown, hT, hrt, hlk, hK, hA, hG, hE⟩ := id G
  refine lv_aload_n hx hb dX5_head_277 rfl (lv_at hl 0 rfl) ?_
  refine lv_dup hx hb dX5_head_278 rfl ?_
  refine gm_X5_at (v := (mf_at σ)) G hP dX5_head_279 rfl ?_
  refine lv_iload hx hb dX5_head_282 (lv_at hl 3 rfl) ?_
  refine lv_iconst (v := (1 : Int32)) hx hb dX5_head_284 (by decide) ?_
  refine lv_iadd hx hb dX5_head_285 ?_
  refine lv_iadd hx hb dX5_head_286 ?_
  refine pm_X5_at (v := ((mf_at σ) + (a5 + (1 : Int32)))) G hP hD hS dX5_head_287 (fun H locs hP hD hS => ?_)
  refine lv_iload_n hx hb dX5_head_290 rfl (lv_at hl 2 rfl) ?_
  refine lv_iconst (v := (4 : Int32)) hx hb dX5_head_291 (by decide) ?_
  refine lv_icmp_eq (tgt := 300) hx hb dX5_head_292 (by decide) (fun c26 => ?_) (fun c26 => ?_)
  · have hf := (if_pos c26).symm.trans hf
    exact W.eq (g2 := F0 m 300 ls []) rfl (mm_head_t300 G (lv_sub hl [0, 1, 2, 4] rfl) hP hD hS hf)
  · have hf := (if_neg c26).symm.trans hf
    refine lv_iload_n hx hb dX5_head_295 rfl (lv_at hl 2 rfl) ?_
    refine lv_iconst (v := (5 : Int32)) hx hb dX5_head_296 (by decide) ?_
    refine lv_icmp_ne (tgt := 318) hx hb dX5_head_297 (by decide) (fun c27 => ?_) (fun c27 => ?_)
    · have hf := (if_neg c27).symm.trans hf
      exact W.eq (g2 := F0 m 318 ls []) rfl (mm_head_t318 G (lv_sub hl [0, 2, 4] rfl) hP hD hS hf)
    · have hf := (if_pos c27).symm.trans hf
      exact W.eq (g2 := F0 m 300 ls []) rfl (mm_head_t300 G (lv_sub hl [0, 1, 2, 4] rfl) hP hD hS hf)
set_option maxHeartbeats 4000000 in
set_option maxRecDepth 100000 in
theorem mm_head_t239 {p : Program} {l : Launch} {e : Env} {s : State} {m : MethodId} {args : Array Value} {below : List Frame} {meth : Method} {c : Code} {D : va_G} {aK aV : Nat → Nat} {A : Nat → Prop} {cB cI cJ : ClassId} {q : Nat → Nat} {H : Heap} {locs : List Loc} {ls : Array Slot} {ρ : Bool × MSt} {a2 : Int32} {a3 : Int32} {a5 : Int32} {a6 : Int64} {s0 : Int64} {σ : MSt} (G : CX p s m args meth c D (gTy cB cI cJ) aK aV A RX5 cX5_head 10 (some .boolean)) (hl : lv_has ls 10 [(0, .ref (q 0)), (2, .int a2), (3, .int a3), (5, .int a5), (6, .long a6)]) (hP : va_P D vwCl (mW cB cI cJ q σ) H) (hD : va_D A (mW cB cI cJ q σ)) (hS : va_S A s.heap H locs) (hf : mm_head_b239 a2 a3 a5 a6 s0 σ = some ρ) : W p l e (rm_mm_head) s m args below meth c H locs 0 0 (MQ below (cQ D (gTy cB cI cJ) A (mW cB cI cJ q ρ.2) (some (.int (bI ρ.1)))) args s 0 0 A) (F0 m 239 ls [.long s0]) := by
  unfold mm_head_b239 at hf
  obtain ⟨hx, hb, hml, hown, hT, hrt, hlk, hK, hA, hG, hE⟩ := id G
  refine lv_lstore (lv' := [(8, .long s0), (0, .ref (q 0)), (2, .int a2), (3, .int a3), (5, .int a5), (6, .long a6)]) hx hb dX5_head_239 hl (by decide) rfl (fun ls hl => ?_)
  refine lv_iload hx hb dX5_head_241 (lv_at hl 4 rfl) ?_
  refine lv_bipush (v := (8 : Int32)) hx hb dX5_head_243 (by decide) ?_
  refine lv_icmp_ge (tgt := 259) hx hb dX5_head_245 (by decide) (fun c39 => ?_) (fun c39 => ?_)
  · have hf := (if_pos c39).symm.trans hf
    refine lv_lload hx hb dX5_head_259 (lv_at hl 5 rfl) ?_
    refine lv_bipush (v := (32 : Int32)) hx hb dX5_head_261 (by decide) ?_
    refine lv_lushr (v := ((Int64.toUInt64 a6 >>> ((Int32.toInt64 (32 : Int32)).toUInt64 &&& Int64.toUInt64 63)).toInt64)) hx hb dX5_head_263 rfl ?_
    refine lv_lconst (v := (0 : Int64)) hx hb dX5_head_264 (by decide) ?_
    refine W.lcmp hx hb dX5_head_265 ?_
    refine lv_if_ne (tgt := 277) hx hb dX5_head_266 (by decide) (fun c40 => ?_) (fun c40 => ?_)
    · have hf := (if_neg (fun z => c40 ((lg_cmp_eq _ _).mpr z))).symm.trans hf
      exact W.eq (g2 := F0 m 277 ls []) rfl (mm_head_t277 G (lv_sub hl [1, 2, 3, 4, 5] rfl) hP hD hS hf)
    · have hf := (if_pos ((lg_cmp_eq _ _).mp c40)).symm.trans hf
      exact W.eq (g2 := F0 m 269 ls []) rfl (mm_head_t269 G (lv_sub hl [1, 2] rfl) hP hD hS hf)
  · have hf := (if_neg c39).symm.trans hf
    refine lv_lload hx hb dX5_head_248 (lv_at hl 5 rfl) ?_
    refine lv_lload hx hb dX5_head_250 (lv_at hl 0 rfl) ?_
    refine W.lcmp hx hb dX5_head_252 ?_
    refine lv_if_ge (tgt := 277) hx hb dX5_head_253 (by decide) (fun c41 => ?_) (fun c41 => ?_)
    · have hf := (if_pos ((lg_cmp_ge _ _).mp c41)).symm.trans hf
      exact W.eq (g2 := F0 m 277 ls []) rfl (mm_head_t277 G (lv_sub hl [1, 2, 3, 4, 5] rfl) hP hD hS hf)
    · have hf := (if_neg (fun z => c41 ((lg_cmp_ge _ _).mpr z))).symm.trans hf
      refine lv_goto (tgt := 269) hx hb dX5_head_256 (by decide) ?_
      exact W.eq (g2 := F0 m 269 ls []) rfl (mm_head_t269 G (lv_sub hl [1, 2] rfl) hP hD hS hf)
set_option maxHeartbeats 4000000 in
set_option maxRecDepth 100000 in
theorem mm_head_t187 {p : Program} {l : Launch} {e : Env} {s : State} {m : MethodId} {args : Array Value} {below : List Frame} {meth : Method} {c : Code} {D : va_G} {aK aV : Nat → Nat} {A : Nat → Prop} {cB cI cJ : ClassId} {q : Nat → Nat} {H : Heap} {locs : List Loc} {ls : Array Slot} {ρ : Bool × MSt} {k187 : Int32 → Int32 → Int32 → Int64 → Int32 → MSt → Option (Bool × MSt)} {a2 : Int32} {a3 : Int32} {a5 : Int32} {a6 : Int64} {a8 : Int32} {σ : MSt} (G : CX p s m args meth c D (gTy cB cI cJ) aK aV A RX5 cX5_head 10 (some .boolean)) (hk187 : ∀ (a2 : Int32) (a3 : Int32) (a5 : Int32) (a6 : Int64) (a8 : Int32) (σ : MSt) (H : Heap) (locs : List Loc) (ls : Array Slot), lv_has ls 10 [(0, .ref (q 0)), (2, .int a2), (3, .int a3), (5, .int a5), (6, .long a6), (8, .int a8)] → va_P D vwCl (mW cB cI cJ q σ) H → va_D A (mW cB cI cJ q σ) → va_S A s.heap H locs → k187 a2 a3 a5 a6 a8 σ = some ρ → W p l e (rm_mm_head) s m args below meth c H locs 0 0 (MQ below (cQ D (gTy cB cI cJ) A (mW cB cI cJ q ρ.2) (some (.int (bI ρ.1)))) args s 0 0 A) (F0 m 187 ls [])) (hl : lv_has ls 10 [(0, .ref (q 0)), (2, .int a2), (3, .int a3), (5, .int a5), (6, .long a6), (8, .int a8)]) (hP : va_P D vwCl (mW cB cI cJ q σ) H) (hD : va_D A (mW cB cI cJ q σ)) (hS : va_S A s.heap H locs) (hf : mm_head_b187 k187 a2 a3 a5 a6 a8 σ = some ρ) : W p l e (rm_mm_head) s m args below meth c H locs 0 0 (MQ below (cQ D (gTy cB cI cJ) A (mW cB cI cJ q ρ.2) (some (.int (bI ρ.1)))) args s 0 0 A) (F0 m 187 ls []) := by
  unfold mm_head_b187 at hf
  obtain ⟨hx, hb, hml, hown, hT, hrt, hlk, hK, hA, hG, hE⟩ := id G
  refine lv_iload hx hb dX5_head_187 (lv_at hl 5 rfl) ?_
  refine lv_iload hx hb dX5_head_189 (lv_at hl 3 rfl) ?_
  refine lv_icmp_gt (tgt := 221) hx hb dX5_head_191 (by decide) (fun c28 => ?_) (fun c28 => ?_)
  · have hf := (if_pos c28).symm.trans hf
    refine lv_iload hx hb dX5_head_221 (lv_at hl 3 rfl) ?_
    refine lv_iconst (v := (1 : Int32)) hx hb dX5_head_223 (by decide) ?_
    refine lv_icmp_ne (tgt := 233) hx hb dX5_head_224 (by decide) (fun c29 => ?_) (fun c29 => ?_)
    · have hf := (if_neg c29).symm.trans hf
      refine lv_lconst (v := (1 : Int64)) hx hb dX5_head_233 (by decide) ?_
      refine lv_iconst (v := (4 : Int32)) hx hb dX5_head_234 (by decide) ?_
      refine lv_iload hx hb dX5_head_235 (lv_at hl 3 rfl) ?_
      refine lv_imul hx hb dX5_head_237 ?_
      refine lv_lshl (v := ((1 : Int64) <<< (Int32.toInt64 ((4 : Int32) * a5) &&& 63))) hx hb dX5_head_238 rfl ?_
      exact W.eq (g2 := F0 m 239 ls [.long ((1 : Int64) <<< (Int32.toInt64 ((4 : Int32) * a5) &&& 63))]) rfl (mm_head_t239 G (lv_sub hl [0, 1, 2, 3, 4] rfl) hP hD hS hf)
    · have hf := (if_pos c29).symm.trans hf
      refine lv_ldc2 (v := (24 : Int64)) hx hb hown (hT _ wc_X5_195) dX5_head_227 ?_
      refine lv_goto (tgt := 239) hx hb dX5_head_230 (by decide) ?_
      exact W.eq (g2 := F0 m 239 ls [.long (24 : Int64)]) rfl (mm_head_t239 G (lv_sub hl [0, 1, 2, 3, 4] rfl) hP hD hS hf)
  · have hf := (if_neg c28).symm.trans hf
    refine lv_lload hx hb dX5_head_194 (lv_at hl 4 rfl) ?_
    refine lv_bipush (v := (8 : Int32)) hx hb dX5_head_196 (by decide) ?_
    refine lv_lshl (v := (a6 <<< (Int32.toInt64 (8 : Int32) &&& 63))) hx hb dX5_head_198 rfl ?_
    refine lv_aload_n hx hb dX5_head_199 rfl (lv_at hl 0 rfl) ?_
    refine gm_X5_tape G hP dX5_head_200 ?_
    refine lv_aload_n hx hb dX5_head_203 rfl (lv_at hl 0 rfl) ?_
    refine gm_X5_at (v := (mf_at σ)) G hP dX5_head_204 rfl ?_
    refine lv_iload hx hb dX5_head_207 (lv_at hl 5 rfl) ?_
    refine lv_iadd hx hb dX5_head_209 ?_
    obtain ⟨hi30, hf⟩ := ck_some hf
    refine lm_tape (f := (mf_tape σ)) G hP hi30 dX5_head_210 rfl ?_
    refine lv_i2l (v := (Int32.toInt64 ((mf_tape σ) (((mf_at σ) + a8)).toNatClampNeg))) hx hb dX5_head_211 rfl ?_
    refine lv_lor hx hb dX5_head_212 ?_
    refine lv_topl (fun v31 ev31 => ?_)
    have hf := lt_eq hf ev31
    refine lv_lstore (lv' := [(6, .long v31), (0, .ref (q 0)), (2, .int a2), (3, .int a3), (5, .int a5), (8, .int a8)]) hx hb dX5_head_213 hl (by decide) rfl (fun ls hl => ?_)
    obtain ⟨v32, ev32⟩ : ∃ y : Int32, y = (a8 + (1 : Int32)) := ⟨_, rfl⟩
    have hf := lt_eq hf ev32
    refine lv_iinc (v := v32) (lv' := [(8, .int v32), (6, .long v31), (0, .ref (q 0)), (2, .int a2), (3, .int a3), (5, .int a5)]) hx hb dX5_head_215 hl (k := 5) rfl (by rw [ev32]; rfl) (by decide) rfl (fun ls hl => ?_)
    refine lv_goto (tgt := 187) hx hb dX5_head_218 (by decide) ?_
    exact W.eq (g2 := F0 m 187 ls []) rfl (hk187 _ _ _ _ _ _ _ _ _ (lv_sub hl [2, 3, 4, 5, 1, 0] rfl) hP hD hS hf)
set_option maxHeartbeats 4000000 in
set_option maxRecDepth 100000 in
theorem mm_head_u187 {p : Program} {l : Launch} {e : Env} {s : State} {m : MethodId} {args : Array Value} {below : List Frame} {meth : Method} {c : Code} {D : va_G} {aK aV : Nat → Nat} {A : Nat → Prop} {cB cI cJ : ClassId} {q : Nat → Nat} {ρ : Bool × MSt} (G : CX p s m args meth c D (gTy cB cI cJ) aK aV A RX5 cX5_head 10 (some .boolean)) : ∀ (n : Nat) {a2 : Int32} {a3 : Int32} {a5 : Int32} {a6 : Int64} {a8 : Int32} {σ : MSt} {H : Heap} {locs : List Loc} {ls : Array Slot} (hl : lv_has ls 10 [(0, .ref (q 0)), (2, .int a2), (3, .int a3), (5, .int a5), (6, .long a6), (8, .int a8)]) (hP : va_P D vwCl (mW cB cI cJ q σ) H) (hD : va_D A (mW cB cI cJ q σ)) (hS : va_S A s.heap H locs) (hf : mm_head_L187 n a2 a3 a5 a6 a8 σ = some ρ), W p l e (rm_mm_head) s m args below meth c H locs 0 0 (MQ below (cQ D (gTy cB cI cJ) A (mW cB cI cJ q ρ.2) (some (.int (bI ρ.1)))) args s 0 0 A) (F0 m 187 ls []) := by
  intro n
  induction n with
  | zero =>
    intros
    rename_i hf
    cases hf
  | succ n ih =>
    intro a2 a3 a5 a6 a8 σ H locs ls hl hP hD hS hf
    exact mm_head_t187 G (fun _ _ _ _ _ _ H locs ls hl hP hD hS hf => ih hl hP hD hS hf) hl hP hD hS hf
set_option maxHeartbeats 4000000 in
set_option maxRecDepth 100000 in
theorem mm_head_t143 {p : Program} {l : Launch} {e : Env} {s : State} {m : MethodId} {args : Array Value} {below : List Frame} {meth : Method} {c : Code} {D : va_G} {aK aV : Nat → Nat} {A : Nat → Prop} {cB cI cJ : ClassId} {q : Nat → Nat} {H : Heap} {locs : List Loc} {ls : Array Slot} {ρ : Bool × MSt} {a2 : Int32} {a3 : Int32} {a4 : Int32} {s0 : Int32} {σ : MSt} (G : CX p s m args meth c D (gTy cB cI cJ) aK aV A RX5 cX5_head 10 (some .boolean)) (hl : lv_has ls 10 [(0, .ref (q 0)), (2, .int a2), (3, .int a3), (4, .int a4)]) (hP : va_P D vwCl (mW cB cI cJ q σ) H) (hD : va_D A (mW cB cI cJ q σ)) (hS : va_S A s.heap H locs) (hf : mm_head_b143 a2 a3 a4 s0 σ = some ρ) : W p l e (rm_mm_head) s m args below meth c H locs 0 0 (MQ below (cQ D (gTy cB cI cJ) A (mW cB cI cJ q ρ.2) (some (.int (bI ρ.1)))) args s 0 0 A) (F0 m 143 ls [.int s0]) := by
  unfold mm_head_b143 at hf
  obtain ⟨hx, hb, hml, hown, hT, hrt, hlk, hK, hA, hG, hE⟩ := id G
  refine lv_istore (lv' := [(5, .int s0), (0, .ref (q 0)), (2, .int a2), (3, .int a3), (4, .int a4)]) hx hb dX5_head_143 hl (by decide) rfl (fun ls hl => ?_)
  refine lv_aload_n hx hb dX5_head_145 rfl (lv_at hl 1 rfl) ?_
  refine gm_X5_taped (v := (mf_taped σ)) G hP dX5_head_146 rfl ?_
  refine lv_aload_n hx hb dX5_head_149 rfl (lv_at hl 1 rfl) ?_
  refine gm_X5_at (v := (mf_at σ)) G hP dX5_head_150 rfl ?_
  refine lv_isub hx hb dX5_head_153 ?_
  refine lv_iconst (v := (1 : Int32)) hx hb dX5_head_154 (by decide) ?_
  refine lv_isub hx hb dX5_head_155 ?_
  refine lv_iload hx hb dX5_head_156 (lv_at hl 0 rfl) ?_
  refine lv_icmp_ge (tgt := 171) hx hb dX5_head_158 (by decide) (fun c22 => ?_) (fun c22 => ?_)
  · have hf := (if_pos c22).symm.trans hf
    refine lv_iload hx hb dX5_head_171 (lv_at hl 4 rfl) ?_
    refine lv_i2l (v := (Int32.toInt64 a4)) hx hb dX5_head_173 rfl ?_
    refine lv_topl (fun v23 ev23 => ?_)
    have hf := lt_eq hf ev23
    refine lv_lstore (lv' := [(6, .long v23), (5, .int s0), (0, .ref (q 0)), (2, .int a2), (3, .int a3), (4, .int a4)]) hx hb dX5_head_174 hl (by decide) rfl (fun ls hl => ?_)
    refine lv_iload hx hb dX5_head_176 (lv_at hl 1 rfl) ?_
    refine lv_if_le (tgt := 277) hx hb dX5_head_178 (by decide) (fun c24 => ?_) (fun c24 => ?_)
    · have hf := (if_pos c24).symm.trans hf
      exact W.eq (g2 := F0 m 277 ls []) rfl (mm_head_t277 G (lv_sub hl [2, 3, 4, 1, 0] rfl) hP hD hS hf)
    · have hf := (if_neg c24).symm.trans hf
      refine lv_lconst (v := (0 : Int64)) hx hb dX5_head_181 (by decide) ?_
      refine lv_lstore (lv' := [(6, .long (0 : Int64)), (5, .int s0), (0, .ref (q 0)), (2, .int a2), (3, .int a3), (4, .int a4)]) hx hb dX5_head_182 hl (by decide) rfl (fun ls hl => ?_)
      refine lv_iconst (v := (1 : Int32)) hx hb dX5_head_184 (by decide) ?_
      refine lv_istore (lv' := [(8, .int (1 : Int32)), (6, .long (0 : Int64)), (5, .int s0), (0, .ref (q 0)), (2, .int a2), (3, .int a3), (4, .int a4)]) hx hb dX5_head_185 hl (by decide) rfl (fun ls hl => ?_)
      exact W.eq (g2 := F0 m 187 ls []) rfl (mm_head_u187 G FU (lv_sub hl [3, 4, 5, 2, 1, 0] rfl) hP hD hS hf)
  · have hf := (if_neg c22).symm.trans hf
    refine lv_aload_n hx hb dX5_head_161 rfl (lv_at hl 1 rfl) ?_
    refine lv_iconst (v := (1 : Int32)) hx hb dX5_head_162 (by decide) ?_
    refine lv_aload_n hx hb dX5_head_163 rfl (lv_at hl 1 rfl) ?_
    refine gm_X5_taped (v := (mf_taped σ)) G hP dX5_head_164 rfl ?_
    obtain ⟨x25, hx25, hf⟩ := bd_some hf
    refine vM (As := [.int (1 : Int32), .int (mf_taped σ)]) (rest := []) G kX5_90 (c_mm_wrong hx25) hP hD hS ⟨rfl, rfl, Nat.le_of_ble_eq_true rfl, Nat.le_of_ble_eq_true rfl⟩ ⟨Nat.zero_le _, Nat.zero_le _⟩ rfl hl.1 (Nat.le_of_ble_eq_true rfl) dX5_head_167 (fun H locs hP hD hS => ?_)
    refine W.eq (g2 := F0 m 170 ls [.int (bI x25.1)]) rfl ?_
    cases hf
    exact ct_iret G (bI_nar x25.1) hP hD hS dX5_head_170
set_option maxHeartbeats 4000000 in
set_option maxRecDepth 100000 in
theorem mm_head_t110 {p : Program} {l : Launch} {e : Env} {s : State} {m : MethodId} {args : Array Value} {below : List Frame} {meth : Method} {c : Code} {D : va_G} {aK aV : Nat → Nat} {A : Nat → Prop} {cB cI cJ : ClassId} {q : Nat → Nat} {H : Heap} {locs : List Loc} {ls : Array Slot} {ρ : Bool × MSt} {a2 : Int32} {a3 : Int32} {a4 : Int32} {σ : MSt} (G : CX p s m args meth c D (gTy cB cI cJ) aK aV A RX5 cX5_head 10 (some .boolean)) (hl : lv_has ls 10 [(0, .ref (q 0)), (2, .int a2), (3, .int a3), (4, .int a4)]) (hP : va_P D vwCl (mW cB cI cJ q σ) H) (hD : va_D A (mW cB cI cJ q σ)) (hS : va_S A s.heap H locs) (hf : mm_head_b110 a2 a3 a4 σ = some ρ) : W p l e (rm_mm_head) s m args below meth c H locs 0 0 (MQ below (cQ D (gTy cB cI cJ) A (mW cB cI cJ q ρ.2) (some (.int (bI ρ.1)))) args s 0 0 A) (F0 m 110 ls []) := by
  unfold mm_head_b110 at hf
  obtain ⟨hx, hb, hml, hown, hT, hrt, hlk, hK, hA, hG, hE⟩ := id G
  refine lv_iload hx hb dX5_head_110 (lv_at hl 3 rfl) ?_
  refine lv_bipush (v := (31 : Int32)) hx hb dX5_head_112 (by decide) ?_
  refine lv_icmp_ne (tgt := 125) hx hb dX5_head_114 (by decide) (fun c19 => ?_) (fun c19 => ?_)
  · have hf := (if_neg c19).symm.trans hf
    refine lv_iload hx hb dX5_head_125 (lv_at hl 3 rfl) ?_
    refine lv_bipush (v := (24 : Int32)) hx hb dX5_head_127 (by decide) ?_
    refine lv_icmp_ge (tgt := 136) hx hb dX5_head_129 (by decide) (fun c20 => ?_) (fun c20 => ?_)
    · have hf := (if_pos c20).symm.trans hf
      refine lv_iconst (v := (1 : Int32)) hx hb dX5_head_136 (by decide) ?_
      refine lv_iload hx hb dX5_head_137 (lv_at hl 3 rfl) ?_
      refine lv_bipush (v := (24 : Int32)) hx hb dX5_head_139 (by decide) ?_
      refine lv_isub hx hb dX5_head_141 ?_
      refine lv_ishl hx hb dX5_head_142 ?_
      exact W.eq (g2 := F0 m 143 ls [.int ((1 : Int32) <<< ((a4 - (24 : Int32)) &&& 31))]) rfl (mm_head_t143 G (lv_sub hl [0, 1, 2, 3] rfl) hP hD hS hf)
    · have hf := (if_neg c20).symm.trans hf
      refine lv_iconst (v := (0 : Int32)) hx hb dX5_head_132 (by decide) ?_
      refine lv_goto (tgt := 143) hx hb dX5_head_133 (by decide) ?_
      exact W.eq (g2 := F0 m 143 ls [.int (0 : Int32)]) rfl (mm_head_t143 G (lv_sub hl [0, 1, 2, 3] rfl) hP hD hS hf)
  · have hf := (if_pos c19).symm.trans hf
    refine lv_aload_n hx hb dX5_head_117 rfl (lv_at hl 0 rfl) ?_
    refine lv_bipush (v := (6 : Int32)) hx hb dX5_head_118 (by decide) ?_
    refine lv_iload_n hx hb dX5_head_120 rfl (lv_at hl 1 rfl) ?_
    obtain ⟨x21, hx21, hf⟩ := bd_some hf
    refine vM (As := [.int (6 : Int32), .int a2]) (rest := []) G kX5_90 (c_mm_wrong hx21) hP hD hS ⟨rfl, rfl, Nat.le_of_ble_eq_true rfl, Nat.le_of_ble_eq_true rfl⟩ ⟨Nat.zero_le _, Nat.zero_le _⟩ rfl hl.1 (Nat.le_of_ble_eq_true rfl) dX5_head_121 (fun H locs hP hD hS => ?_)
    refine W.eq (g2 := F0 m 124 ls [.int (bI x21.1)]) rfl ?_
    cases hf
    exact ct_iret G (bI_nar x21.1) hP hD hS dX5_head_124
set_option maxHeartbeats 4000000 in
set_option maxRecDepth 100000 in
theorem mm_head_t94 {p : Program} {l : Launch} {e : Env} {s : State} {m : MethodId} {args : Array Value} {below : List Frame} {meth : Method} {c : Code} {D : va_G} {aK aV : Nat → Nat} {A : Nat → Prop} {cB cI cJ : ClassId} {q : Nat → Nat} {H : Heap} {locs : List Loc} {ls : Array Slot} {ρ : Bool × MSt} {a1 : Int32} {a2 : Int32} {a3 : Int32} {a4 : Int32} {σ : MSt} (G : CX p s m args meth c D (gTy cB cI cJ) aK aV A RX5 cX5_head 10 (some .boolean)) (hl : lv_has ls 10 [(0, .ref (q 0)), (1, .int a1), (2, .int a2), (3, .int a3), (4, .int a4)]) (hP : va_P D vwCl (mW cB cI cJ q σ) H) (hD : va_D A (mW cB cI cJ q σ)) (hS : va_S A s.heap H locs) (hf : mm_head_b94 a1 a2 a3 a4 σ = some ρ) : W p l e (rm_mm_head) s m args below meth c H locs 0 0 (MQ below (cQ D (gTy cB cI cJ) A (mW cB cI cJ q ρ.2) (some (.int (bI ρ.1)))) args s 0 0 A) (F0 m 94 ls []) := by
  unfold mm_head_b94 at hf
  obtain ⟨hx, hb, hml, hown, hT, hrt, hlk, hK, hA, hG, hE⟩ := id G
  refine lv_iload_n hx hb dX5_head_94 rfl (lv_at hl 1 rfl) ?_
  refine lv_if_eq (tgt := 110) hx hb dX5_head_95 (by decide) (fun c17 => ?_) (fun c17 => ?_)
  · have hf := (if_pos c17).symm.trans hf
    exact W.eq (g2 := F0 m 110 ls []) rfl (mm_head_t110 G (lv_sub hl [0, 2, 3, 4] rfl) hP hD hS hf)
  · have hf := (if_neg c17).symm.trans hf
    refine lv_iload_n hx hb dX5_head_98 rfl (lv_at hl 3 rfl) ?_
    refine lv_iconst (v := (3 : Int32)) hx hb dX5_head_99 (by decide) ?_
    refine lv_icmp_eq (tgt := 110) hx hb dX5_head_100 (by decide) (fun c18 => ?_) (fun c18 => ?_)
    · have hf := (if_pos c18).symm.trans hf
      exact W.eq (g2 := F0 m 110 ls []) rfl (mm_head_t110 G (lv_sub hl [0, 2, 3, 4] rfl) hP hD hS hf)
    · have hf := (if_neg c18).symm.trans hf
      exact W.eq (g2 := F0 m 103 ls []) rfl (mm_head_t103 G (lv_sub hl [0, 2] rfl) hP hD hS hf)
set_option maxHeartbeats 4000000 in
set_option maxRecDepth 100000 in
theorem mm_head_t63 {p : Program} {l : Launch} {e : Env} {s : State} {m : MethodId} {args : Array Value} {below : List Frame} {meth : Method} {c : Code} {D : va_G} {aK aV : Nat → Nat} {A : Nat → Prop} {cB cI cJ : ClassId} {q : Nat → Nat} {H : Heap} {locs : List Loc} {ls : Array Slot} {ρ : Bool × MSt} {a1 : Int32} {a2 : Int32} {a3 : Int32} {a4 : Int32} {σ : MSt} (G : CX p s m args meth c D (gTy cB cI cJ) aK aV A RX5 cX5_head 10 (some .boolean)) (hl : lv_has ls 10 [(0, .ref (q 0)), (1, .int a1), (2, .int a2), (3, .int a3), (4, .int a4)]) (hP : va_P D vwCl (mW cB cI cJ q σ) H) (hD : va_D A (mW cB cI cJ q σ)) (hS : va_S A s.heap H locs) (hf : mm_head_b63 a1 a2 a3 a4 σ = some ρ) : W p l e (rm_mm_head) s m args below meth c H locs 0 0 (MQ below (cQ D (gTy cB cI cJ) A (mW cB cI cJ q ρ.2) (some (.int (bI ρ.1)))) args s 0 0 A) (F0 m 63 ls []) := by
  unfold mm_head_b63 at hf
  obtain ⟨hx, hb, hml, hown, hT, hrt, hlk, hK, hA, hG, hE⟩ := id G
  refine lv_iload_n hx hb dX5_head_63 rfl (lv_at hl 3 rfl) ?_
  refine lv_iconst (v := (2 : Int32)) hx hb dX5_head_64 (by decide) ?_
  refine lv_icmp_eq (tgt := 103) hx hb dX5_head_65 (by decide) (fun c10 => ?_) (fun c10 => ?_)
  · have hf := (if_pos c10).symm.trans hf
    exact W.eq (g2 := F0 m 103 ls []) rfl (mm_head_t103 G (lv_sub hl [0, 2] rfl) hP hD hS hf)
  · have hf := (if_neg c10).symm.trans hf
    refine lv_iload_n hx hb dX5_head_68 rfl (lv_at hl 3 rfl) ?_
    refine lv_bipush (v := (6 : Int32)) hx hb dX5_head_69 (by decide) ?_
    refine lv_icmp_eq (tgt := 103) hx hb dX5_head_71 (by decide) (fun c11 => ?_) (fun c11 => ?_)
    · have hf := (if_pos c11).symm.trans hf
      exact W.eq (g2 := F0 m 103 ls []) rfl (mm_head_t103 G (lv_sub hl [0, 2] rfl) hP hD hS hf)
    · have hf := (if_neg c11).symm.trans hf
      refine lv_iload_n hx hb dX5_head_74 rfl (lv_at hl 3 rfl) ?_
      refine lv_bipush (v := (7 : Int32)) hx hb dX5_head_75 (by decide) ?_
      refine lv_icmp_ne (tgt := 94) hx hb dX5_head_77 (by decide) (fun c12 => ?_) (fun c12 => ?_)
      · have hf := (if_neg c12).symm.trans hf
        exact W.eq (g2 := F0 m 94 ls []) rfl (mm_head_t94 G (lv_sub hl [0, 1, 2, 3, 4] rfl) hP hD hS hf)
      · have hf := (if_pos c12).symm.trans hf
        refine lv_iload hx hb dX5_head_80 (lv_at hl 4 rfl) ?_
        refine lv_bipush (v := (20 : Int32)) hx hb dX5_head_82 (by decide) ?_
        refine lv_icmp_lt (tgt := 103) hx hb dX5_head_84 (by decide) (fun c13 => ?_) (fun c13 => ?_)
        · have hf := (if_pos c13).symm.trans hf
          exact W.eq (g2 := F0 m 103 ls []) rfl (mm_head_t103 G (lv_sub hl [0, 2] rfl) hP hD hS hf)
        · have hf := (if_neg c13).symm.trans hf
          refine lv_iload hx hb dX5_head_87 (lv_at hl 4 rfl) ?_
          refine lv_bipush (v := (22 : Int32)) hx hb dX5_head_89 (by decide) ?_
          refine lv_icmp_gt (tgt := 103) hx hb dX5_head_91 (by decide) (fun c14 => ?_) (fun c14 => ?_)
          · have hf := (if_pos c14).symm.trans hf
            exact W.eq (g2 := F0 m 103 ls []) rfl (mm_head_t103 G (lv_sub hl [0, 2] rfl) hP hD hS hf)
          · have hf := (if_neg c14).symm.trans hf
            exact W.eq (g2 := F0 m 94 ls []) rfl (mm_head_t94 G (lv_sub hl [0, 1, 2, 3, 4] rfl) hP hD hS hf)
set_option maxHeartbeats 4000000 in
set_option maxRecDepth 100000 in
theorem mm_head_t56 {p : Program} {l : Launch} {e : Env} {s : State} {m : MethodId} {args : Array Value} {below : List Frame} {meth : Method} {c : Code} {D : va_G} {aK aV : Nat → Nat} {A : Nat → Prop} {cB cI cJ : ClassId} {q : Nat → Nat} {H : Heap} {locs : List Loc} {ls : Array Slot} {ρ : Bool × MSt} {a2 : Int32} {σ : MSt} (G : CX p s m args meth c D (gTy cB cI cJ) aK aV A RX5 cX5_head 10 (some .boolean)) (hl : lv_has ls 10 [(0, .ref (q 0)), (2, .int a2)]) (hP : va_P D vwCl (mW cB cI cJ q σ) H) (hD : va_D A (mW cB cI cJ q σ)) (hS : va_S A s.heap H locs) (hf : mm_head_b56 a2 σ = some ρ) : W p l e (rm_mm_head) s m args below meth c H locs 0 0 (MQ below (cQ D (gTy cB cI cJ) A (mW cB cI cJ q ρ.2) (some (.int (bI ρ.1)))) args s 0 0 A) (F0 m 56 ls []) := by
  unfold mm_head_b56 at hf
  obtain ⟨hx, hb, hml, hown, hT, hrt, hlk, hK, hA, hG, hE⟩ := id G
  refine lv_aload_n hx hb dX5_head_56 rfl (lv_at hl 0 rfl) ?_
  refine lv_iconst (v := (1 : Int32)) hx hb dX5_head_57 (by decide) ?_
  refine lv_iload_n hx hb dX5_head_58 rfl (lv_at hl 1 rfl) ?_
  obtain ⟨x15, hx15, hf⟩ := bd_some hf
  refine vM (As := [.int (1 : Int32), .int a2]) (rest := []) G kX5_90 (c_mm_wrong hx15) hP hD hS ⟨rfl, rfl, Nat.le_of_ble_eq_true rfl, Nat.le_of_ble_eq_true rfl⟩ ⟨Nat.zero_le _, Nat.zero_le _⟩ rfl hl.1 (Nat.le_of_ble_eq_true rfl) dX5_head_59 (fun H locs hP hD hS => ?_)
  refine W.eq (g2 := F0 m 62 ls [.int (bI x15.1)]) rfl ?_
  cases hf
  exact ct_iret G (bI_nar x15.1) hP hD hS dX5_head_62
set_option maxHeartbeats 4000000 in
set_option maxRecDepth 100000 in
theorem mm_head_t0e {p : Program} {l : Launch} {e : Env} {s : State} {m : MethodId} {args : Array Value} {below : List Frame} {meth : Method} {c : Code} {D : va_G} {aK aV : Nat → Nat} {A : Nat → Prop} {cB cI cJ : ClassId} {q : Nat → Nat} {H : Heap} {locs : List Loc} {ls : Array Slot} {ρ : Bool × MSt} {p0 : Int32} {σ : MSt} (G : CX p s m args meth c D (gTy cB cI cJ) aK aV A RX5 cX5_head 10 (some .boolean)) (hl : lv_has ls 10 [(0, .ref (q 0)), (1, .int p0)]) (hP : va_P D vwCl (mW cB cI cJ q σ) H) (hD : va_D A (mW cB cI cJ q σ)) (hS : va_S A s.heap H locs) (hf : mm_head p0 σ = some ρ) : W p l e (rm_mm_head) s m args below meth c H locs 0 0 (MQ below (cQ D (gTy cB cI cJ) A (mW cB cI cJ q ρ.2) (some (.int (bI ρ.1)))) args s 0 0 A) (F0 m 0 ls []) := by
  unfold mm_head at hf
  obtain ⟨hx, hb, hml, hown, hT, hrt, hlk, hK, hA, hG, hE⟩ := id G
  refine lv_aload_n hx hb dX5_head_0 rfl (lv_at hl 0 rfl) ?_
  refine gm_X5_at (v := (mf_at σ)) G hP dX5_head_1 rfl ?_
  refine lv_topi (fun v1 ev1 => ?_)
  have hf := lt_eq hf ev1
  refine lv_istore_n (lv' := [(2, .int v1), (0, .ref (q 0)), (1, .int p0)]) hx hb dX5_head_4 rfl hl (by decide) rfl (fun ls hl => ?_)
  refine lv_aload_n hx hb dX5_head_5 rfl (lv_at hl 1 rfl) ?_
  refine gm_X5_tape G hP dX5_head_6 ?_
  refine lv_aload_n hx hb dX5_head_9 rfl (lv_at hl 1 rfl) ?_
  refine gm_X5_at (v := (mf_at σ)) G hP dX5_head_10 rfl ?_
  obtain ⟨hi2, hf⟩ := ck_some hf
  refine lm_tape (f := (mf_tape σ)) G hP hi2 dX5_head_13 rfl ?_
  refine lv_iconst (v := (5 : Int32)) hx hb dX5_head_14 (by decide) ?_
  refine lv_ishr hx hb dX5_head_15 ?_
  refine lv_topi (fun v3 ev3 => ?_)
  have hf := lt_eq hf ev3
  refine lv_istore_n (lv' := [(3, .int v3), (2, .int v1), (0, .ref (q 0)), (1, .int p0)]) hx hb dX5_head_16 rfl hl (by decide) rfl (fun ls hl => ?_)
  refine lv_aload_n hx hb dX5_head_17 rfl (lv_at hl 2 rfl) ?_
  refine gm_X5_tape G hP dX5_head_18 ?_
  refine lv_aload_n hx hb dX5_head_21 rfl (lv_at hl 2 rfl) ?_
  refine gm_X5_at (v := (mf_at σ)) G hP dX5_head_22 rfl ?_
  obtain ⟨hi4, hf⟩ := ck_some hf
  refine lm_tape (f := (mf_tape σ)) G hP hi4 dX5_head_25 rfl ?_
  refine lv_bipush (v := (31 : Int32)) hx hb dX5_head_26 (by decide) ?_
  refine lv_iand hx hb dX5_head_28 ?_
  refine lv_topi (fun v5 ev5 => ?_)
  have hf := lt_eq hf ev5
  refine lv_istore (lv' := [(4, .int v5), (3, .int v3), (2, .int v1), (0, .ref (q 0)), (1, .int p0)]) hx hb dX5_head_29 hl (by decide) rfl (fun ls hl => ?_)
  refine lv_iload hx hb dX5_head_31 (lv_at hl 0 rfl) ?_
  refine lv_bipush (v := (27 : Int32)) hx hb dX5_head_33 (by decide) ?_
  refine lv_icmp_le (tgt := 63) hx hb dX5_head_35 (by decide) (fun c6 => ?_) (fun c6 => ?_)
  · have hf := (if_pos c6).symm.trans hf
    exact W.eq (g2 := F0 m 63 ls []) rfl (mm_head_t63 G (lv_sub hl [3, 4, 2, 1, 0] rfl) hP hD hS hf)
  · have hf := (if_neg c6).symm.trans hf
    refine lv_iload hx hb dX5_head_38 (lv_at hl 0 rfl) ?_
    refine lv_bipush (v := (31 : Int32)) hx hb dX5_head_40 (by decide) ?_
    refine lv_icmp_lt (tgt := 56) hx hb dX5_head_42 (by decide) (fun c7 => ?_) (fun c7 => ?_)
    · have hf := (if_pos c7).symm.trans hf
      exact W.eq (g2 := F0 m 56 ls []) rfl (mm_head_t56 G (lv_sub hl [3, 2] rfl) hP hD hS hf)
    · have hf := (if_neg c7).symm.trans hf
      refine lv_iload_n hx hb dX5_head_45 rfl (lv_at hl 1 rfl) ?_
      refine lv_iconst (v := (2 : Int32)) hx hb dX5_head_46 (by decide) ?_
      refine lv_icmp_lt (tgt := 56) hx hb dX5_head_47 (by decide) (fun c8 => ?_) (fun c8 => ?_)
      · have hf := (if_pos c8).symm.trans hf
        exact W.eq (g2 := F0 m 56 ls []) rfl (mm_head_t56 G (lv_sub hl [3, 2] rfl) hP hD hS hf)
      · have hf := (if_neg c8).symm.trans hf
        refine lv_iload_n hx hb dX5_head_50 rfl (lv_at hl 1 rfl) ?_
        refine lv_bipush (v := (7 : Int32)) hx hb dX5_head_51 (by decide) ?_
        refine lv_icmp_ne (tgt := 63) hx hb dX5_head_53 (by decide) (fun c9 => ?_) (fun c9 => ?_)
        · have hf := (if_neg c9).symm.trans hf
          exact W.eq (g2 := F0 m 63 ls []) rfl (mm_head_t63 G (lv_sub hl [3, 4, 2, 1, 0] rfl) hP hD hS hf)
        · have hf := (if_pos c9).symm.trans hf
          exact W.eq (g2 := F0 m 56 ls []) rfl (mm_head_t56 G (lv_sub hl [3, 2] rfl) hP hD hS hf)
set_option maxHeartbeats 4000000 in
set_option maxRecDepth 100000 in
theorem c_mm_head {l : Launch} {D : va_G} {aK aV : Nat → Nat} {cB cI cJ : ClassId} {q : Nat → Nat} {ρ : Bool × MSt} {p0 : Int32} {σ : MSt} (hf : mm_head p0 σ = some ρ) : CT l D (gTy cB cI cJ) aK aV yX5_head (wM yX5_head cX5_head 10 (some .boolean)) (rm_mm_head) 0 0 [.ref (q 0), .int p0] (mW cB cI cJ q σ) (some (.int (bI ρ.1))) (mW cB cI cJ q ρ.2) := by
  refine CT.of (by decide) rfl ?_
  intro p e s m below meth c A G hnm hP hD hS
  have hl := lv_entry [.ref (q 0), .int p0] (n := 10) (Nat.le_of_ble_eq_true rfl)
  rw [lg_entry_eq]
  generalize (lg_sl [.ref (q 0), .int p0] ++ List.replicate (10 - (lg_sl [.ref (q 0), .int p0]).length) Slot.unset).toArray = ls at hl ⊢
  exact mm_head_t0e G hl hP hD hS hf
def mm_isKey (σ : MSt) : Option (Bool × MSt) := bd (mm_isMap  σ) (fun (x1 : Bool × MSt) => (if x1.1 = true then ck ((mf_open x1.2) - (1 : Int32)) 64 ((if (((mf_openLeft x1.2) (((mf_open x1.2) - (1 : Int32))).toNatClampNeg) &&& (1 : Int64)) = (0 : Int64) then some (true, x1.2) else some (false, x1.2))) else some (false, x1.2)))
abbrev rm_mm_isKey : Room := { frames := 1, cells := 0, slots := 0, locals := 20 }
set_option maxHeartbeats 4000000 in
set_option maxRecDepth 100000 in
theorem mm_isKey_t0e {p : Program} {l : Launch} {e : Env} {s : State} {m : MethodId} {args : Array Value} {below : List Frame} {meth : Method} {c : Code} {D : va_G} {aK aV : Nat → Nat} {A : Nat → Prop} {cB cI cJ : ClassId} {q : Nat → Nat} {H : Heap} {locs : List Loc} {ls : Array Slot} {ρ : Bool × MSt} {σ : MSt} (G : CX p s m args meth c D (gTy cB cI cJ) aK aV A RX5 cX5_isKey 1 (some .boolean)) (hl : lv_has ls 1 [(0, .ref (q 0))]) (hP : va_P D vwCl (mW cB cI cJ q σ) H) (hD : va_D A (mW cB cI cJ q σ)) (hS : va_S A s.heap H locs) (hf : mm_isKey σ = some ρ) : W p l e (rm_mm_isKey) s m args below meth c H locs 0 0 (MQ below (cQ D (gTy cB cI cJ) A (mW cB cI cJ q ρ.2) (some (.int (bI ρ.1)))) args s 0 0 A) (F0 m 0 ls []) := by
  unfold mm_isKey at hf
  obtain ⟨hx, hb, hml, hown, hT, hrt, hlk, hK, hA, hG, hE⟩ := id G
  refine lv_aload_n hx hb dX5_isKey_0 rfl (lv_at hl 0 rfl) ?_
  obtain ⟨x1, hx1, hf⟩ := bd_some hf
  refine vM (As := []) (rest := []) G kX5_177 (c_mm_isMap hx1) hP hD hS ⟨rfl, rfl, Nat.le_of_ble_eq_true rfl, Nat.le_of_ble_eq_true rfl⟩ ⟨Nat.zero_le _, Nat.zero_le _⟩ rfl hl.1 (Nat.le_of_ble_eq_true rfl) dX5_isKey_1 (fun H locs hP hD hS => ?_)
  refine W.eq (g2 := F0 m 4 ls [.int (bI x1.1)]) rfl ?_
  refine lv_if_eq (tgt := 29) hx hb dX5_isKey_4 (by decide) (fun c2 => ?_) (fun c2 => ?_)
  · have hf := (if_neg (bI_0 c2)).symm.trans hf
    refine lv_iconst (v := (0 : Int32)) hx hb dX5_isKey_29 (by decide) ?_
    cases hf
    exact ct_iret G (bI_nar false) hP hD hS dX5_isKey_30
  · have hf := (if_pos (bI_n c2)).symm.trans hf
    refine lv_aload_n hx hb dX5_isKey_7 rfl (lv_at hl 0 rfl) ?_
    refine gm_X5_openLeft G hP dX5_isKey_8 ?_
    refine lv_aload_n hx hb dX5_isKey_11 rfl (lv_at hl 0 rfl) ?_
    refine gm_X5_open (v := (mf_open x1.2)) G hP dX5_isKey_12 rfl ?_
    refine lv_iconst (v := (1 : Int32)) hx hb dX5_isKey_15 (by decide) ?_
    refine lv_isub hx hb dX5_isKey_16 ?_
    obtain ⟨hi3, hf⟩ := ck_some hf
    refine lm_openLeft (f := (mf_openLeft x1.2)) G hP hi3 dX5_isKey_17 rfl ?_
    refine lv_lconst (v := (1 : Int64)) hx hb dX5_isKey_18 (by decide) ?_
    refine lv_land hx hb dX5_isKey_19 ?_
    refine lv_lconst (v := (0 : Int64)) hx hb dX5_isKey_20 (by decide) ?_
    refine W.lcmp hx hb dX5_isKey_21 ?_
    refine lv_if_ne (tgt := 29) hx hb dX5_isKey_22 (by decide) (fun c4 => ?_) (fun c4 => ?_)
    · have hf := (if_neg (fun z => c4 ((lg_cmp_eq _ _).mpr z))).symm.trans hf
      refine lv_iconst (v := (0 : Int32)) hx hb dX5_isKey_29 (by decide) ?_
      cases hf
      exact ct_iret G (bI_nar false) hP hD hS dX5_isKey_30
    · have hf := (if_pos ((lg_cmp_eq _ _).mp c4)).symm.trans hf
      refine lv_iconst (v := (1 : Int32)) hx hb dX5_isKey_25 (by decide) ?_
      refine lv_goto (tgt := 30) hx hb dX5_isKey_26 (by decide) ?_
      cases hf
      exact ct_iret G (bI_nar true) hP hD hS dX5_isKey_30
set_option maxHeartbeats 4000000 in
set_option maxRecDepth 100000 in
theorem c_mm_isKey {l : Launch} {D : va_G} {aK aV : Nat → Nat} {cB cI cJ : ClassId} {q : Nat → Nat} {ρ : Bool × MSt} {σ : MSt} (hf : mm_isKey σ = some ρ) : CT l D (gTy cB cI cJ) aK aV yX5_isKey (wM yX5_isKey cX5_isKey 1 (some .boolean)) (rm_mm_isKey) 0 0 [.ref (q 0)] (mW cB cI cJ q σ) (some (.int (bI ρ.1))) (mW cB cI cJ q ρ.2) := by
  refine CT.of (by decide) rfl ?_
  intro p e s m below meth c A G hnm hP hD hS
  have hl := lv_entry [.ref (q 0)] (n := 1) (Nat.le_of_ble_eq_true rfl)
  rw [lg_entry_eq]
  generalize (lg_sl [.ref (q 0)] ++ List.replicate (1 - (lg_sl [.ref (q 0)]).length) Slot.unset).toArray = ls at hl ⊢
  exact mm_isKey_t0e G hl hP hD hS hf
def mm_readsCbor_b221 (k2 : Int32 → MSt → Option (MSt)) (σ : MSt) : Option (MSt) := (if (mf_open σ) ≤ 0 then k2 (0 : Int32) σ else k2 (1 : Int32) σ)
def mm_readsCbor_b185 (k2 : Int32 → MSt → Option (MSt)) (k185 : MSt → Option (MSt)) (σ : MSt) : Option (MSt) := (if (mf_open σ) ≤ 0 then mm_readsCbor_b221 k2  σ else ck ((mf_open σ) - (1 : Int32)) 64 ((if ((mf_openLeft σ) (((mf_open σ) - (1 : Int32))).toNatClampNeg) = (0 : Int64) then k185  (ms_open σ ((mf_open σ) - (1 : Int32))) else mm_readsCbor_b221 k2  σ)))
def mm_readsCbor_L185 (k2 : Int32 → MSt → Option (MSt)) : Nat → MSt → Option (MSt)
  | 0, _ => none
  | n + 1, σ => mm_readsCbor_b185 k2 (mm_readsCbor_L185 k2 n) σ
def mm_readsCbor_b174 (k2 : Int32 → MSt → Option (MSt)) (s0 : Int64) (s1 : Int32) (σ : MSt) : Option (MSt) := ck s1 64 (mm_readsCbor_L185 k2 FU  (ms_open (ms_openLeft σ (vp_updL (mf_openLeft σ) (s1).toNatClampNeg s0)) ((mf_open σ) + (1 : Int32))))
def mm_readsCbor_b146 (k2 : Int32 → MSt → Option (MSt)) (a2 : Int32) (s0 : Int64) (σ : MSt) : Option (MSt) := ck a2 4200 ((if ((mf_sorts σ) (a2).toNatClampNeg) = (5 : Int32) then mm_readsCbor_b174 k2 ((2 : Int64) * s0) (mf_open σ) σ else mm_readsCbor_b174 k2 s0 (mf_open σ) σ))
def mm_readsCbor_b89 (k2 : Int32 → MSt → Option (MSt)) (a2 : Int32) (σ : MSt) : Option (MSt) := ck a2 4200 ((if ((mf_numbers σ) (a2).toNatClampNeg) = (0 : Int64) then mm_readsCbor_L185 k2 FU  σ else ck (mf_open σ) 64 (ck a2 4200 ((if ((mf_numbers σ) (a2).toNatClampNeg) < (0 : Int64) then mm_readsCbor_b146 k2 a2 (100000 : Int64) (ms_openThing σ (upd (mf_openThing σ) ((mf_open σ)).toNatClampNeg a2)) else ck a2 4200 ((if ((mf_numbers σ) (a2).toNatClampNeg) ≤ (100000 : Int64) then ck a2 4200 (mm_readsCbor_b146 k2 a2 ((mf_numbers σ) (a2).toNatClampNeg) (ms_openThing σ (upd (mf_openThing σ) ((mf_open σ)).toNatClampNeg a2))) else mm_readsCbor_b146 k2 a2 (100000 : Int64) (ms_openThing σ (upd (mf_openThing σ) ((mf_open σ)).toNatClampNeg a2)))))))))
def mm_readsCbor_b69 (k2 : Int32 → MSt → Option (MSt)) (a2 : Int32) (σ : MSt) : Option (MSt) := ck a2 4200 ((if ((mf_sorts σ) (a2).toNatClampNeg) = (4 : Int32) then mm_readsCbor_b89 k2 a2 σ else ck a2 4200 ((if ((mf_sorts σ) (a2).toNatClampNeg) = (5 : Int32) then mm_readsCbor_b89 k2 a2 σ else mm_readsCbor_L185 k2 FU  σ))))
def mm_readsCbor_b2 (k2 : Int32 → MSt → Option (MSt)) (a1 : Int32) (σ : MSt) : Option (MSt) := (if a1 = 0 then (if (mf_taped σ) ≤ (mf_at σ) then some σ else bd (mm_wrong (1 : Int32) (mf_at σ) σ) (fun (x3 : Bool × MSt) => some x3.2)) else (if (mf_at σ) < (mf_taped σ) then bd (mm_isKey  σ) (fun (x5 : Bool × MSt) => bd (mm_head (bI x5.1) x5.2) (fun (x6 : Bool × MSt) => (if x6.1 = true then lt ((mf_things x6.2) - (1 : Int32)) (fun (v8 : Int32) => (if (mf_open x6.2) ≤ 0 then mm_readsCbor_b69 k2 v8 x6.2 else ck ((mf_open x6.2) - (1 : Int32)) 64 (ck ((mf_open x6.2) - (1 : Int32)) 64 (mm_readsCbor_b69 k2 v8 (ms_openLeft x6.2 (vp_updL (mf_openLeft x6.2) (((mf_open x6.2) - (1 : Int32))).toNatClampNeg (((mf_openLeft x6.2) (((mf_open x6.2) - (1 : Int32))).toNatClampNeg) - (1 : Int64)))))))) else some x6.2))) else bd (mm_wrong (1 : Int32) (mf_taped σ) σ) (fun (x12 : Bool × MSt) => some x12.2)))
def mm_readsCbor_L2 : Nat → Int32 → MSt → Option (MSt)
  | 0, _, _ => none
  | n + 1, a1, σ => mm_readsCbor_b2 (mm_readsCbor_L2 n) a1 σ
def mm_readsCbor (σ : MSt) : Option (MSt) := mm_readsCbor_L2 FU (1 : Int32) σ
abbrev rm_mm_readsCbor : Room := { frames := 4, cells := 0, slots := 0, locals := 105 }
set_option maxHeartbeats 4000000 in
set_option maxRecDepth 100000 in
theorem mm_readsCbor_t221 {p : Program} {l : Launch} {e : Env} {s : State} {m : MethodId} {args : Array Value} {below : List Frame} {meth : Method} {c : Code} {D : va_G} {aK aV : Nat → Nat} {A : Nat → Prop} {cB cI cJ : ClassId} {q : Nat → Nat} {H : Heap} {locs : List Loc} {ls : Array Slot} {ρ : MSt} {k2 : Int32 → MSt → Option (MSt)} {σ : MSt} (G : CX p s m args meth c D (gTy cB cI cJ) aK aV A RX5 cX5_readsCbor 5 none) (hk2 : ∀ (a1 : Int32) (σ : MSt) (H : Heap) (locs : List Loc) (ls : Array Slot), lv_has ls 5 [(0, .ref (q 0)), (1, .int a1)] → va_P D vwCl (mW cB cI cJ q σ) H → va_D A (mW cB cI cJ q σ) → va_S A s.heap H locs → k2 a1 σ = some ρ → W p l e (rm_mm_readsCbor) s m args below meth c H locs 0 0 (MQ below (cQ D (gTy cB cI cJ) A (mW cB cI cJ q ρ) none) args s 0 0 A) (F0 m 2 ls [])) (hl : lv_has ls 5 [(0, .ref (q 0))]) (hP : va_P D vwCl (mW cB cI cJ q σ) H) (hD : va_D A (mW cB cI cJ q σ)) (hS : va_S A s.heap H locs) (hf : mm_readsCbor_b221 k2 σ = some ρ) : W p l e (rm_mm_readsCbor) s m args below meth c H locs 0 0 (MQ below (cQ D (gTy cB cI cJ) A (mW cB cI cJ q ρ) none) args s 0 0 A) (F0 m 221 ls []) := by
  unfold mm_readsCbor_b221 at hf
  obtain ⟨hx, hb, hml, hown, hT, hrt, hlk, hK, hA, hG, hE⟩ := id G
  refine lv_aload_n hx hb dX5_readsCbor_221 rfl (lv_at hl 0 rfl) ?_
  refine gm_X5_open (v := (mf_open σ)) G hP dX5_readsCbor_222 rfl ?_
  refine lv_if_le (tgt := 232) hx hb dX5_readsCbor_225 (by decide) (fun c30 => ?_) (fun c30 => ?_)
  · have hf := (if_pos c30).symm.trans hf
    refine lv_iconst (v := (0 : Int32)) hx hb dX5_readsCbor_232 (by decide) ?_
    refine lv_istore_n (lv' := [(1, .int (0 : Int32)), (0, .ref (q 0))]) hx hb dX5_readsCbor_233 rfl hl (by decide) rfl (fun ls hl => ?_)
    refine lv_goto (tgt := 2) hx hb dX5_readsCbor_234 (by decide) ?_
    exact W.eq (g2 := F0 m 2 ls []) rfl (hk2 _ _ _ _ _ (lv_sub hl [1, 0] rfl) hP hD hS hf)
  · have hf := (if_neg c30).symm.trans hf
    refine lv_iconst (v := (1 : Int32)) hx hb dX5_readsCbor_228 (by decide) ?_
    refine lv_goto (tgt := 233) hx hb dX5_readsCbor_229 (by decide) ?_
    refine lv_istore_n (lv' := [(1, .int (1 : Int32)), (0, .ref (q 0))]) hx hb dX5_readsCbor_233 rfl hl (by decide) rfl (fun ls hl => ?_)
    refine lv_goto (tgt := 2) hx hb dX5_readsCbor_234 (by decide) ?_
    exact W.eq (g2 := F0 m 2 ls []) rfl (hk2 _ _ _ _ _ (lv_sub hl [1, 0] rfl) hP hD hS hf)
set_option maxHeartbeats 4000000 in
set_option maxRecDepth 100000 in
theorem mm_readsCbor_t185 {p : Program} {l : Launch} {e : Env} {s : State} {m : MethodId} {args : Array Value} {below : List Frame} {meth : Method} {c : Code} {D : va_G} {aK aV : Nat → Nat} {A : Nat → Prop} {cB cI cJ : ClassId} {q : Nat → Nat} {H : Heap} {locs : List Loc} {ls : Array Slot} {ρ : MSt} {k2 : Int32 → MSt → Option (MSt)} {k185 : MSt → Option (MSt)} {σ : MSt} (G : CX p s m args meth c D (gTy cB cI cJ) aK aV A RX5 cX5_readsCbor 5 none) (hk2 : ∀ (a1 : Int32) (σ : MSt) (H : Heap) (locs : List Loc) (ls : Array Slot), lv_has ls 5 [(0, .ref (q 0)), (1, .int a1)] → va_P D vwCl (mW cB cI cJ q σ) H → va_D A (mW cB cI cJ q σ) → va_S A s.heap H locs → k2 a1 σ = some ρ → W p l e (rm_mm_readsCbor) s m args below meth c H locs 0 0 (MQ below (cQ D (gTy cB cI cJ) A (mW cB cI cJ q ρ) none) args s 0 0 A) (F0 m 2 ls [])) (hk185 : ∀  (σ : MSt) (H : Heap) (locs : List Loc) (ls : Array Slot), lv_has ls 5 [(0, .ref (q 0))] → va_P D vwCl (mW cB cI cJ q σ) H → va_D A (mW cB cI cJ q σ) → va_S A s.heap H locs → k185  σ = some ρ → W p l e (rm_mm_readsCbor) s m args below meth c H locs 0 0 (MQ below (cQ D (gTy cB cI cJ) A (mW cB cI cJ q ρ) none) args s 0 0 A) (F0 m 185 ls [])) (hl : lv_has ls 5 [(0, .ref (q 0))]) (hP : va_P D vwCl (mW cB cI cJ q σ) H) (hD : va_D A (mW cB cI cJ q σ)) (hS : va_S A s.heap H locs) (hf : mm_readsCbor_b185 k2 k185 σ = some ρ) : W p l e (rm_mm_readsCbor) s m args below meth c H locs 0 0 (MQ below (cQ D (gTy cB cI cJ) A (mW cB cI cJ q ρ) none) args s 0 0 A) (F0 m 185 ls []) := by
  unfold mm_readsCbor_b185 at hf
  obtain ⟨hx, hb, hml, hown, hT, hrt, hlk, hK, hA, hG, hE⟩ := id G
  refine lv_aload_n hx hb dX5_readsCbor_185 rfl (lv_at hl 0 rfl) ?_
  refine gm_X5_open (v := (mf_open σ)) G hP dX5_readsCbor_186 rfl ?_
  refine lv_if_le (tgt := 221) hx hb dX5_readsCbor_189 (by decide) (fun c25 => ?_) (fun c25 => ?_)
  · have hf := (if_pos c25).symm.trans hf
    exact W.eq (g2 := F0 m 221 ls []) rfl (mm_readsCbor_t221 G hk2 (lv_sub hl [0] rfl) hP hD hS hf)
  · have hf := (if_neg c25).symm.trans hf
    refine lv_aload_n hx hb dX5_readsCbor_192 rfl (lv_at hl 0 rfl) ?_
    refine gm_X5_openLeft G hP dX5_readsCbor_193 ?_
    refine lv_aload_n hx hb dX5_readsCbor_196 rfl (lv_at hl 0 rfl) ?_
    refine gm_X5_open (v := (mf_open σ)) G hP dX5_readsCbor_197 rfl ?_
    refine lv_iconst (v := (1 : Int32)) hx hb dX5_readsCbor_200 (by decide) ?_
    refine lv_isub hx hb dX5_readsCbor_201 ?_
    obtain ⟨hi26, hf⟩ := ck_some hf
    refine lm_openLeft (f := (mf_openLeft σ)) G hP hi26 dX5_readsCbor_202 rfl ?_
    refine lv_lconst (v := (0 : Int64)) hx hb dX5_readsCbor_203 (by decide) ?_
    refine W.lcmp hx hb dX5_readsCbor_204 ?_
    refine lv_if_ne (tgt := 221) hx hb dX5_readsCbor_205 (by decide) (fun c27 => ?_) (fun c27 => ?_)
    · have hf := (if_neg (fun z => c27 ((lg_cmp_eq _ _).mpr z))).symm.trans hf
      exact W.eq (g2 := F0 m 221 ls []) rfl (mm_readsCbor_t221 G hk2 (lv_sub hl [0] rfl) hP hD hS hf)
    · have hf := (if_pos ((lg_cmp_eq _ _).mp c27)).symm.trans hf
      refine lv_aload_n hx hb dX5_readsCbor_208 rfl (lv_at hl 0 rfl) ?_
      refine lv_dup hx hb dX5_readsCbor_209 rfl ?_
      refine gm_X5_open (v := (mf_open σ)) G hP dX5_readsCbor_210 rfl ?_
      refine lv_iconst (v := (1 : Int32)) hx hb dX5_readsCbor_213 (by decide) ?_
      refine lv_isub hx hb dX5_readsCbor_214 ?_
      refine pm_X5_open (v := ((mf_open σ) - (1 : Int32))) G hP hD hS dX5_readsCbor_215 (fun H locs hP hD hS => ?_)
      refine lv_goto (tgt := 185) hx hb dX5_readsCbor_218 (by decide) ?_
      exact W.eq (g2 := F0 m 185 ls []) rfl (hk185  _ _ _ _ (lv_sub hl [0] rfl) hP hD hS hf)
set_option maxHeartbeats 4000000 in
set_option maxRecDepth 100000 in
theorem mm_readsCbor_u185 {p : Program} {l : Launch} {e : Env} {s : State} {m : MethodId} {args : Array Value} {below : List Frame} {meth : Method} {c : Code} {D : va_G} {aK aV : Nat → Nat} {A : Nat → Prop} {cB cI cJ : ClassId} {q : Nat → Nat} {ρ : MSt} {k2 : Int32 → MSt → Option (MSt)} (G : CX p s m args meth c D (gTy cB cI cJ) aK aV A RX5 cX5_readsCbor 5 none) (hk2 : ∀ (a1 : Int32) (σ : MSt) (H : Heap) (locs : List Loc) (ls : Array Slot), lv_has ls 5 [(0, .ref (q 0)), (1, .int a1)] → va_P D vwCl (mW cB cI cJ q σ) H → va_D A (mW cB cI cJ q σ) → va_S A s.heap H locs → k2 a1 σ = some ρ → W p l e (rm_mm_readsCbor) s m args below meth c H locs 0 0 (MQ below (cQ D (gTy cB cI cJ) A (mW cB cI cJ q ρ) none) args s 0 0 A) (F0 m 2 ls [])) : ∀ (n : Nat) {σ : MSt} {H : Heap} {locs : List Loc} {ls : Array Slot} (hl : lv_has ls 5 [(0, .ref (q 0))]) (hP : va_P D vwCl (mW cB cI cJ q σ) H) (hD : va_D A (mW cB cI cJ q σ)) (hS : va_S A s.heap H locs) (hf : mm_readsCbor_L185 k2 n σ = some ρ), W p l e (rm_mm_readsCbor) s m args below meth c H locs 0 0 (MQ below (cQ D (gTy cB cI cJ) A (mW cB cI cJ q ρ) none) args s 0 0 A) (F0 m 185 ls []) := by
  intro n
  induction n with
  | zero =>
    intros
    rename_i hf
    cases hf
  | succ n ih =>
    intro σ H locs ls hl hP hD hS hf
    exact mm_readsCbor_t185 G hk2 (fun _ H locs ls hl hP hD hS hf => ih hl hP hD hS hf) hl hP hD hS hf
set_option maxHeartbeats 4000000 in
set_option maxRecDepth 100000 in
theorem mm_readsCbor_t174 {p : Program} {l : Launch} {e : Env} {s : State} {m : MethodId} {args : Array Value} {below : List Frame} {meth : Method} {c : Code} {D : va_G} {aK aV : Nat → Nat} {A : Nat → Prop} {cB cI cJ : ClassId} {q : Nat → Nat} {H : Heap} {locs : List Loc} {ls : Array Slot} {ρ : MSt} {k2 : Int32 → MSt → Option (MSt)} {s0 : Int64} {s1 : Int32} {σ : MSt} (G : CX p s m args meth c D (gTy cB cI cJ) aK aV A RX5 cX5_readsCbor 5 none) (hk2 : ∀ (a1 : Int32) (σ : MSt) (H : Heap) (locs : List Loc) (ls : Array Slot), lv_has ls 5 [(0, .ref (q 0)), (1, .int a1)] → va_P D vwCl (mW cB cI cJ q σ) H → va_D A (mW cB cI cJ q σ) → va_S A s.heap H locs → k2 a1 σ = some ρ → W p l e (rm_mm_readsCbor) s m args below meth c H locs 0 0 (MQ below (cQ D (gTy cB cI cJ) A (mW cB cI cJ q ρ) none) args s 0 0 A) (F0 m 2 ls [])) (hl : lv_has ls 5 [(0, .ref (q 0))]) (hP : va_P D vwCl (mW cB cI cJ q σ) H) (hD : va_D A (mW cB cI cJ q σ)) (hS : va_S A s.heap H locs) (hf : mm_readsCbor_b174 k2 s0 s1 σ = some ρ) : W p l e (rm_mm_readsCbor) s m args below meth c H locs 0 0 (MQ below (cQ D (gTy cB cI cJ) A (mW cB cI cJ q ρ) none) args s 0 0 A) (F0 m 174 ls [.long s0, .int s1, .ref (q 8)]) := by
  unfold mm_readsCbor_b174 at hf
  obtain ⟨hx, hb, hml, hown, hT, hrt, hlk, hK, hA, hG, hE⟩ := id G
  obtain ⟨hi31, hf⟩ := ck_some hf
  refine sm_openLeft (f := (mf_openLeft σ)) G hP hD hS hi31 dX5_readsCbor_174 rfl (fun H locs hP hD hS => ?_)
  refine lv_aload_n hx hb dX5_readsCbor_175 rfl (lv_at hl 0 rfl) ?_
  refine lv_dup hx hb dX5_readsCbor_176 rfl ?_
  refine gm_X5_open (v := (mf_open σ)) G hP dX5_readsCbor_177 (mG_open_openLeft _ _) ?_
  refine lv_iconst (v := (1 : Int32)) hx hb dX5_readsCbor_180 (by decide) ?_
  refine lv_iadd hx hb dX5_readsCbor_181 ?_
  refine pm_X5_open (v := ((mf_open σ) + (1 : Int32))) G hP hD hS dX5_readsCbor_182 (fun H locs hP hD hS => ?_)
  exact W.eq (g2 := F0 m 185 ls []) rfl (mm_readsCbor_u185 G hk2 FU (lv_sub hl [0] rfl) hP hD hS hf)
set_option maxHeartbeats 4000000 in
set_option maxRecDepth 100000 in
theorem mm_readsCbor_t146 {p : Program} {l : Launch} {e : Env} {s : State} {m : MethodId} {args : Array Value} {below : List Frame} {meth : Method} {c : Code} {D : va_G} {aK aV : Nat → Nat} {A : Nat → Prop} {cB cI cJ : ClassId} {q : Nat → Nat} {H : Heap} {locs : List Loc} {ls : Array Slot} {ρ : MSt} {k2 : Int32 → MSt → Option (MSt)} {a2 : Int32} {s0 : Int64} {σ : MSt} (G : CX p s m args meth c D (gTy cB cI cJ) aK aV A RX5 cX5_readsCbor 5 none) (hk2 : ∀ (a1 : Int32) (σ : MSt) (H : Heap) (locs : List Loc) (ls : Array Slot), lv_has ls 5 [(0, .ref (q 0)), (1, .int a1)] → va_P D vwCl (mW cB cI cJ q σ) H → va_D A (mW cB cI cJ q σ) → va_S A s.heap H locs → k2 a1 σ = some ρ → W p l e (rm_mm_readsCbor) s m args below meth c H locs 0 0 (MQ below (cQ D (gTy cB cI cJ) A (mW cB cI cJ q ρ) none) args s 0 0 A) (F0 m 2 ls [])) (hl : lv_has ls 5 [(0, .ref (q 0)), (2, .int a2)]) (hP : va_P D vwCl (mW cB cI cJ q σ) H) (hD : va_D A (mW cB cI cJ q σ)) (hS : va_S A s.heap H locs) (hf : mm_readsCbor_b146 k2 a2 s0 σ = some ρ) : W p l e (rm_mm_readsCbor) s m args below meth c H locs 0 0 (MQ below (cQ D (gTy cB cI cJ) A (mW cB cI cJ q ρ) none) args s 0 0 A) (F0 m 146 ls [.long s0]) := by
  unfold mm_readsCbor_b146 at hf
  obtain ⟨hx, hb, hml, hown, hT, hrt, hlk, hK, hA, hG, hE⟩ := id G
  refine lv_lstore_n (lv' := [(3, .long s0), (0, .ref (q 0)), (2, .int a2)]) hx hb dX5_readsCbor_146 rfl hl (by decide) rfl (fun ls hl => ?_)
  refine lv_aload_n hx hb dX5_readsCbor_147 rfl (lv_at hl 1 rfl) ?_
  refine gm_X5_openLeft G hP dX5_readsCbor_148 ?_
  refine lv_aload_n hx hb dX5_readsCbor_151 rfl (lv_at hl 1 rfl) ?_
  refine gm_X5_open (v := (mf_open σ)) G hP dX5_readsCbor_152 rfl ?_
  refine lv_aload_n hx hb dX5_readsCbor_155 rfl (lv_at hl 1 rfl) ?_
  refine gm_X5_sorts G hP dX5_readsCbor_156 ?_
  refine lv_iload_n hx hb dX5_readsCbor_159 rfl (lv_at hl 2 rfl) ?_
  obtain ⟨hi28, hf⟩ := ck_some hf
  refine lm_sorts (f := (mf_sorts σ)) G hP hi28 dX5_readsCbor_160 rfl ?_
  refine lv_iconst (v := (5 : Int32)) hx hb dX5_readsCbor_161 (by decide) ?_
  refine lv_icmp_ne (tgt := 173) hx hb dX5_readsCbor_162 (by decide) (fun c29 => ?_) (fun c29 => ?_)
  · have hf := (if_neg c29).symm.trans hf
    refine lv_lload_n hx hb dX5_readsCbor_173 rfl (lv_at hl 0 rfl) ?_
    exact W.eq (g2 := F0 m 174 ls [.long s0, .int (mf_open σ), .ref (q 8)]) rfl (mm_readsCbor_t174 G hk2 (lv_sub hl [1] rfl) hP hD hS hf)
  · have hf := (if_pos c29).symm.trans hf
    refine lv_ldc2 (v := (2 : Int64)) hx hb hown (hT _ wc_X5_210) dX5_readsCbor_165 ?_
    refine lv_lload_n hx hb dX5_readsCbor_168 rfl (lv_at hl 0 rfl) ?_
    refine lv_lmul hx hb dX5_readsCbor_169 ?_
    refine lv_goto (tgt := 174) hx hb dX5_readsCbor_170 (by decide) ?_
    exact W.eq (g2 := F0 m 174 ls [.long ((2 : Int64) * s0), .int (mf_open σ), .ref (q 8)]) rfl (mm_readsCbor_t174 G hk2 (lv_sub hl [1] rfl) hP hD hS hf)
set_option maxHeartbeats 4000000 in
set_option maxRecDepth 100000 in
theorem mm_readsCbor_t89 {p : Program} {l : Launch} {e : Env} {s : State} {m : MethodId} {args : Array Value} {below : List Frame} {meth : Method} {c : Code} {D : va_G} {aK aV : Nat → Nat} {A : Nat → Prop} {cB cI cJ : ClassId} {q : Nat → Nat} {H : Heap} {locs : List Loc} {ls : Array Slot} {ρ : MSt} {k2 : Int32 → MSt → Option (MSt)} {a2 : Int32} {σ : MSt} (G : CX p s m args meth c D (gTy cB cI cJ) aK aV A RX5 cX5_readsCbor 5 none) (hk2 : ∀ (a1 : Int32) (σ : MSt) (H : Heap) (locs : List Loc) (ls : Array Slot), lv_has ls 5 [(0, .ref (q 0)), (1, .int a1)] → va_P D vwCl (mW cB cI cJ q σ) H → va_D A (mW cB cI cJ q σ) → va_S A s.heap H locs → k2 a1 σ = some ρ → W p l e (rm_mm_readsCbor) s m args below meth c H locs 0 0 (MQ below (cQ D (gTy cB cI cJ) A (mW cB cI cJ q ρ) none) args s 0 0 A) (F0 m 2 ls [])) (hl : lv_has ls 5 [(0, .ref (q 0)), (2, .int a2)]) (hP : va_P D vwCl (mW cB cI cJ q σ) H) (hD : va_D A (mW cB cI cJ q σ)) (hS : va_S A s.heap H locs) (hf : mm_readsCbor_b89 k2 a2 σ = some ρ) : W p l e (rm_mm_readsCbor) s m args below meth c H locs 0 0 (MQ below (cQ D (gTy cB cI cJ) A (mW cB cI cJ q ρ) none) args s 0 0 A) (F0 m 89 ls []) := by
  unfold mm_readsCbor_b89 at hf
  obtain ⟨hx, hb, hml, hown, hT, hrt, hlk, hK, hA, hG, hE⟩ := id G
  refine lv_aload_n hx hb dX5_readsCbor_89 rfl (lv_at hl 0 rfl) ?_
  refine gm_X5_numbers G hP dX5_readsCbor_90 ?_
  refine lv_iload_n hx hb dX5_readsCbor_93 rfl (lv_at hl 1 rfl) ?_
  obtain ⟨hi17, hf⟩ := ck_some hf
  refine lm_numbers (f := (mf_numbers σ)) G hP hi17 dX5_readsCbor_94 rfl ?_
  refine lv_lconst (v := (0 : Int64)) hx hb dX5_readsCbor_95 (by decide) ?_
  refine W.lcmp hx hb dX5_readsCbor_96 ?_
  refine lv_if_eq (tgt := 185) hx hb dX5_readsCbor_97 (by decide) (fun c18 => ?_) (fun c18 => ?_)
  · have hf := (if_pos ((lg_cmp_eq _ _).mp c18)).symm.trans hf
    exact W.eq (g2 := F0 m 185 ls []) rfl (mm_readsCbor_u185 G hk2 FU (lv_sub hl [0] rfl) hP hD hS hf)
  · have hf := (if_neg (fun z => c18 ((lg_cmp_eq _ _).mpr z))).symm.trans hf
    refine lv_aload_n hx hb dX5_readsCbor_100 rfl (lv_at hl 0 rfl) ?_
    refine gm_X5_openThing G hP dX5_readsCbor_101 ?_
    refine lv_aload_n hx hb dX5_readsCbor_104 rfl (lv_at hl 0 rfl) ?_
    refine gm_X5_open (v := (mf_open σ)) G hP dX5_readsCbor_105 rfl ?_
    refine lv_iload_n hx hb dX5_readsCbor_108 rfl (lv_at hl 1 rfl) ?_
    obtain ⟨hi19, hf⟩ := ck_some hf
    refine sm_openThing (f := (mf_openThing σ)) G hP hD hS hi19 dX5_readsCbor_109 rfl (fun H locs hP hD hS => ?_)
    refine lv_aload_n hx hb dX5_readsCbor_110 rfl (lv_at hl 0 rfl) ?_
    refine gm_X5_numbers G hP dX5_readsCbor_111 ?_
    refine lv_iload_n hx hb dX5_readsCbor_114 rfl (lv_at hl 1 rfl) ?_
    obtain ⟨hi20, hf⟩ := ck_some hf
    refine lm_numbers (f := (mf_numbers σ)) G hP hi20 dX5_readsCbor_115 (mG_numbers_openThing _ _) ?_
    refine lv_lconst (v := (0 : Int64)) hx hb dX5_readsCbor_116 (by decide) ?_
    refine W.lcmp hx hb dX5_readsCbor_117 ?_
    refine lv_if_lt (tgt := 134) hx hb dX5_readsCbor_118 (by decide) (fun c21 => ?_) (fun c21 => ?_)
    · have hf := (if_pos ((lg_cmp_lt _ _).mp c21)).symm.trans hf
      refine lv_ldc2 (v := (100000 : Int64)) hx hb hown (hT _ wc_X5_208) dX5_readsCbor_134 ?_
      refine lv_goto (tgt := 146) hx hb dX5_readsCbor_137 (by decide) ?_
      exact W.eq (g2 := F0 m 146 ls [.long (100000 : Int64)]) rfl (mm_readsCbor_t146 G hk2 (lv_sub hl [0, 1] rfl) hP hD hS hf)
    · have hf := (if_neg (fun z => c21 ((lg_cmp_lt _ _).mpr z))).symm.trans hf
      refine lv_aload_n hx hb dX5_readsCbor_121 rfl (lv_at hl 0 rfl) ?_
      refine gm_X5_numbers G hP dX5_readsCbor_122 ?_
      refine lv_iload_n hx hb dX5_readsCbor_125 rfl (lv_at hl 1 rfl) ?_
      obtain ⟨hi22, hf⟩ := ck_some hf
      refine lm_numbers (f := (mf_numbers σ)) G hP hi22 dX5_readsCbor_126 (mG_numbers_openThing _ _) ?_
      refine lv_ldc2 (v := (100000 : Int64)) hx hb hown (hT _ wc_X5_208) dX5_readsCbor_127 ?_
      refine W.lcmp hx hb dX5_readsCbor_130 ?_
      refine lv_if_le (tgt := 140) hx hb dX5_readsCbor_131 (by decide) (fun c23 => ?_) (fun c23 => ?_)
      · have hf := (if_pos ((lg_cmp_le _ _).mp c23)).symm.trans hf
        refine lv_aload_n hx hb dX5_readsCbor_140 rfl (lv_at hl 0 rfl) ?_
        refine gm_X5_numbers G hP dX5_readsCbor_141 ?_
        refine lv_iload_n hx hb dX5_readsCbor_144 rfl (lv_at hl 1 rfl) ?_
        obtain ⟨hi24, hf⟩ := ck_some hf
        refine lm_numbers (f := (mf_numbers σ)) G hP hi24 dX5_readsCbor_145 (mG_numbers_openThing _ _) ?_
        exact W.eq (g2 := F0 m 146 ls [.long ((mf_numbers σ) (a2).toNatClampNeg)]) rfl (mm_readsCbor_t146 G hk2 (lv_sub hl [0, 1] rfl) hP hD hS hf)
      · have hf := (if_neg (fun z => c23 ((lg_cmp_le _ _).mpr z))).symm.trans hf
        refine lv_ldc2 (v := (100000 : Int64)) hx hb hown (hT _ wc_X5_208) dX5_readsCbor_134 ?_
        refine lv_goto (tgt := 146) hx hb dX5_readsCbor_137 (by decide) ?_
        exact W.eq (g2 := F0 m 146 ls [.long (100000 : Int64)]) rfl (mm_readsCbor_t146 G hk2 (lv_sub hl [0, 1] rfl) hP hD hS hf)
set_option maxHeartbeats 4000000 in
set_option maxRecDepth 100000 in
theorem mm_readsCbor_t69 {p : Program} {l : Launch} {e : Env} {s : State} {m : MethodId} {args : Array Value} {below : List Frame} {meth : Method} {c : Code} {D : va_G} {aK aV : Nat → Nat} {A : Nat → Prop} {cB cI cJ : ClassId} {q : Nat → Nat} {H : Heap} {locs : List Loc} {ls : Array Slot} {ρ : MSt} {k2 : Int32 → MSt → Option (MSt)} {a2 : Int32} {σ : MSt} (G : CX p s m args meth c D (gTy cB cI cJ) aK aV A RX5 cX5_readsCbor 5 none) (hk2 : ∀ (a1 : Int32) (σ : MSt) (H : Heap) (locs : List Loc) (ls : Array Slot), lv_has ls 5 [(0, .ref (q 0)), (1, .int a1)] → va_P D vwCl (mW cB cI cJ q σ) H → va_D A (mW cB cI cJ q σ) → va_S A s.heap H locs → k2 a1 σ = some ρ → W p l e (rm_mm_readsCbor) s m args below meth c H locs 0 0 (MQ below (cQ D (gTy cB cI cJ) A (mW cB cI cJ q ρ) none) args s 0 0 A) (F0 m 2 ls [])) (hl : lv_has ls 5 [(0, .ref (q 0)), (2, .int a2)]) (hP : va_P D vwCl (mW cB cI cJ q σ) H) (hD : va_D A (mW cB cI cJ q σ)) (hS : va_S A s.heap H locs) (hf : mm_readsCbor_b69 k2 a2 σ = some ρ) : W p l e (rm_mm_readsCbor) s m args below meth c H locs 0 0 (MQ below (cQ D (gTy cB cI cJ) A (mW cB cI cJ q ρ) none) args s 0 0 A) (F0 m 69 ls []) := by
  unfold mm_readsCbor_b69 at hf
  obtain ⟨hx, hb, hml, hown, hT, hrt, hlk, hK, hA, hG, hE⟩ := id G
  refine lv_aload_n hx hb dX5_readsCbor_69 rfl (lv_at hl 0 rfl) ?_
  refine gm_X5_sorts G hP dX5_readsCbor_70 ?_
  refine lv_iload_n hx hb dX5_readsCbor_73 rfl (lv_at hl 1 rfl) ?_
  obtain ⟨hi13, hf⟩ := ck_some hf
  refine lm_sorts (f := (mf_sorts σ)) G hP hi13 dX5_readsCbor_74 rfl ?_
  refine lv_iconst (v := (4 : Int32)) hx hb dX5_readsCbor_75 (by decide) ?_
  refine lv_icmp_eq (tgt := 89) hx hb dX5_readsCbor_76 (by decide) (fun c14 => ?_) (fun c14 => ?_)
  · have hf := (if_pos c14).symm.trans hf
    exact W.eq (g2 := F0 m 89 ls []) rfl (mm_readsCbor_t89 G hk2 (lv_sub hl [0, 1] rfl) hP hD hS hf)
  · have hf := (if_neg c14).symm.trans hf
    refine lv_aload_n hx hb dX5_readsCbor_79 rfl (lv_at hl 0 rfl) ?_
    refine gm_X5_sorts G hP dX5_readsCbor_80 ?_
    refine lv_iload_n hx hb dX5_readsCbor_83 rfl (lv_at hl 1 rfl) ?_
    obtain ⟨hi15, hf⟩ := ck_some hf
    refine lm_sorts (f := (mf_sorts σ)) G hP hi15 dX5_readsCbor_84 rfl ?_
    refine lv_iconst (v := (5 : Int32)) hx hb dX5_readsCbor_85 (by decide) ?_
    refine lv_icmp_ne (tgt := 185) hx hb dX5_readsCbor_86 (by decide) (fun c16 => ?_) (fun c16 => ?_)
    · have hf := (if_neg c16).symm.trans hf
      exact W.eq (g2 := F0 m 185 ls []) rfl (mm_readsCbor_u185 G hk2 FU (lv_sub hl [0] rfl) hP hD hS hf)
    · have hf := (if_pos c16).symm.trans hf
      exact W.eq (g2 := F0 m 89 ls []) rfl (mm_readsCbor_t89 G hk2 (lv_sub hl [0, 1] rfl) hP hD hS hf)
set_option maxHeartbeats 4000000 in
set_option maxRecDepth 100000 in
theorem mm_readsCbor_t2 {p : Program} {l : Launch} {e : Env} {s : State} {m : MethodId} {args : Array Value} {below : List Frame} {meth : Method} {c : Code} {D : va_G} {aK aV : Nat → Nat} {A : Nat → Prop} {cB cI cJ : ClassId} {q : Nat → Nat} {H : Heap} {locs : List Loc} {ls : Array Slot} {ρ : MSt} {k2 : Int32 → MSt → Option (MSt)} {a1 : Int32} {σ : MSt} (G : CX p s m args meth c D (gTy cB cI cJ) aK aV A RX5 cX5_readsCbor 5 none) (hk2 : ∀ (a1 : Int32) (σ : MSt) (H : Heap) (locs : List Loc) (ls : Array Slot), lv_has ls 5 [(0, .ref (q 0)), (1, .int a1)] → va_P D vwCl (mW cB cI cJ q σ) H → va_D A (mW cB cI cJ q σ) → va_S A s.heap H locs → k2 a1 σ = some ρ → W p l e (rm_mm_readsCbor) s m args below meth c H locs 0 0 (MQ below (cQ D (gTy cB cI cJ) A (mW cB cI cJ q ρ) none) args s 0 0 A) (F0 m 2 ls [])) (hl : lv_has ls 5 [(0, .ref (q 0)), (1, .int a1)]) (hP : va_P D vwCl (mW cB cI cJ q σ) H) (hD : va_D A (mW cB cI cJ q σ)) (hS : va_S A s.heap H locs) (hf : mm_readsCbor_b2 k2 a1 σ = some ρ) : W p l e (rm_mm_readsCbor) s m args below meth c H locs 0 0 (MQ below (cQ D (gTy cB cI cJ) A (mW cB cI cJ q ρ) none) args s 0 0 A) (F0 m 2 ls []) := by
  unfold mm_readsCbor_b2 at hf
  obtain ⟨hx, hb, hml, hown, hT, hrt, hlk, hK, hA, hG, hE⟩ := id G
  refine lv_iload_n hx hb dX5_readsCbor_2 rfl (lv_at hl 1 rfl) ?_
  refine lv_if_eq (tgt := 237) hx hb dX5_readsCbor_3 (by decide) (fun c1 => ?_) (fun c1 => ?_)
  · have hf := (if_pos c1).symm.trans hf
    refine lv_aload_n hx hb dX5_readsCbor_237 rfl (lv_at hl 0 rfl) ?_
    refine gm_X5_at (v := (mf_at σ)) G hP dX5_readsCbor_238 rfl ?_
    refine lv_aload_n hx hb dX5_readsCbor_241 rfl (lv_at hl 0 rfl) ?_
    refine gm_X5_taped (v := (mf_taped σ)) G hP dX5_readsCbor_242 rfl ?_
    refine lv_icmp_ge (tgt := 258) hx hb dX5_readsCbor_245 (by decide) (fun c2 => ?_) (fun c2 => ?_)
    · have hf := (if_pos c2).symm.trans hf
      cases hf
      exact ct_vret G hP hD hS dX5_readsCbor_258
    · have hf := (if_neg c2).symm.trans hf
      refine lv_aload_n hx hb dX5_readsCbor_248 rfl (lv_at hl 0 rfl) ?_
      refine lv_iconst (v := (1 : Int32)) hx hb dX5_readsCbor_249 (by decide) ?_
      refine lv_aload_n hx hb dX5_readsCbor_250 rfl (lv_at hl 0 rfl) ?_
      refine gm_X5_at (v := (mf_at σ)) G hP dX5_readsCbor_251 rfl ?_
      obtain ⟨x3, hx3, hf⟩ := bd_some hf
      refine vM (As := [.int (1 : Int32), .int (mf_at σ)]) (rest := []) G kX5_90 (c_mm_wrong hx3) hP hD hS ⟨rfl, rfl, Nat.le_of_ble_eq_true rfl, Nat.le_of_ble_eq_true rfl⟩ ⟨Nat.zero_le _, Nat.zero_le _⟩ rfl hl.1 (Nat.le_of_ble_eq_true rfl) dX5_readsCbor_254 (fun H locs hP hD hS => ?_)
      refine W.eq (g2 := F0 m 257 ls [.int (bI x3.1)]) rfl ?_
      refine lv_pop hx hb dX5_readsCbor_257 rfl ?_
      cases hf
      exact ct_vret G hP hD hS dX5_readsCbor_258
  · have hf := (if_neg c1).symm.trans hf
    refine lv_aload_n hx hb dX5_readsCbor_6 rfl (lv_at hl 0 rfl) ?_
    refine gm_X5_at (v := (mf_at σ)) G hP dX5_readsCbor_7 rfl ?_
    refine lv_aload_n hx hb dX5_readsCbor_10 rfl (lv_at hl 0 rfl) ?_
    refine gm_X5_taped (v := (mf_taped σ)) G hP dX5_readsCbor_11 rfl ?_
    refine lv_icmp_lt (tgt := 28) hx hb dX5_readsCbor_14 (by decide) (fun c4 => ?_) (fun c4 => ?_)
    · have hf := (if_pos c4).symm.trans hf
      refine lv_aload_n hx hb dX5_readsCbor_28 rfl (lv_at hl 0 rfl) ?_
      refine lv_aload_n hx hb dX5_readsCbor_29 rfl (lv_at hl 0 rfl) ?_
      obtain ⟨x5, hx5, hf⟩ := bd_some hf
      refine vM (As := []) (rest := [.ref (q 0)]) G kX5_201 (c_mm_isKey hx5) hP hD hS ⟨rfl, rfl, Nat.le_of_ble_eq_true rfl, Nat.le_of_ble_eq_true rfl⟩ ⟨Nat.zero_le _, Nat.zero_le _⟩ rfl hl.1 (Nat.le_of_ble_eq_true rfl) dX5_readsCbor_30 (fun H locs hP hD hS => ?_)
      refine W.eq (g2 := F0 m 33 ls [.int (bI x5.1), .ref (q 0)]) rfl ?_
      obtain ⟨x6, hx6, hf⟩ := bd_some hf
      refine vM (As := [.int (bI x5.1)]) (rest := []) G kX5_204 (c_mm_head hx6) hP hD hS ⟨rfl, rfl, Nat.le_of_ble_eq_true rfl, Nat.le_of_ble_eq_true rfl⟩ ⟨Nat.zero_le _, Nat.zero_le _⟩ rfl hl.1 (Nat.le_of_ble_eq_true rfl) dX5_readsCbor_33 (fun H locs hP hD hS => ?_)
      refine W.eq (g2 := F0 m 36 ls [.int (bI x6.1)]) rfl ?_
      refine lv_if_ne (tgt := 40) hx hb dX5_readsCbor_36 (by decide) (fun c7 => ?_) (fun c7 => ?_)
      · have hf := (if_pos (bI_n c7)).symm.trans hf
        refine lv_aload_n hx hb dX5_readsCbor_40 rfl (lv_at hl 0 rfl) ?_
        refine gm_X5_things (v := (mf_things x6.2)) G hP dX5_readsCbor_41 rfl ?_
        refine lv_iconst (v := (1 : Int32)) hx hb dX5_readsCbor_44 (by decide) ?_
        refine lv_isub hx hb dX5_readsCbor_45 ?_
        refine lv_topi (fun v8 ev8 => ?_)
        have hf := lt_eq hf ev8
        refine lv_istore_n (lv' := [(2, .int v8), (0, .ref (q 0)), (1, .int a1)]) hx hb dX5_readsCbor_46 rfl hl (by decide) rfl (fun ls hl => ?_)
        refine lv_aload_n hx hb dX5_readsCbor_47 rfl (lv_at hl 1 rfl) ?_
        refine gm_X5_open (v := (mf_open x6.2)) G hP dX5_readsCbor_48 rfl ?_
        refine lv_if_le (tgt := 69) hx hb dX5_readsCbor_51 (by decide) (fun c9 => ?_) (fun c9 => ?_)
        · have hf := (if_pos c9).symm.trans hf
          exact W.eq (g2 := F0 m 69 ls []) rfl (mm_readsCbor_t69 G hk2 (lv_sub hl [1, 0] rfl) hP hD hS hf)
        · have hf := (if_neg c9).symm.trans hf
          refine lv_aload_n hx hb dX5_readsCbor_54 rfl (lv_at hl 1 rfl) ?_
          refine gm_X5_openLeft G hP dX5_readsCbor_55 ?_
          refine lv_aload_n hx hb dX5_readsCbor_58 rfl (lv_at hl 1 rfl) ?_
          refine gm_X5_open (v := (mf_open x6.2)) G hP dX5_readsCbor_59 rfl ?_
          refine lv_iconst (v := (1 : Int32)) hx hb dX5_readsCbor_62 (by decide) ?_
          refine lv_isub hx hb dX5_readsCbor_63 ?_
          refine lv_dup2_11 hx hb dX5_readsCbor_64 rfl rfl ?_
          obtain ⟨hi10, hf⟩ := ck_some hf
          refine lm_openLeft (f := (mf_openLeft x6.2)) G hP hi10 dX5_readsCbor_65 rfl ?_
          refine lv_lconst (v := (1 : Int64)) hx hb dX5_readsCbor_66 (by decide) ?_
          refine lv_lsub hx hb dX5_readsCbor_67 ?_
          obtain ⟨hi11, hf⟩ := ck_some hf
          refine sm_openLeft (f := (mf_openLeft x6.2)) G hP hD hS hi11 dX5_readsCbor_68 rfl (fun H locs hP hD hS => ?_)
          exact W.eq (g2 := F0 m 69 ls []) rfl (mm_readsCbor_t69 G hk2 (lv_sub hl [1, 0] rfl) hP hD hS hf)
      · have hf := (if_neg (bI_0 c7)).symm.trans hf
        cases hf
        exact ct_vret G hP hD hS dX5_readsCbor_39
    · have hf := (if_neg c4).symm.trans hf
      refine lv_aload_n hx hb dX5_readsCbor_17 rfl (lv_at hl 0 rfl) ?_
      refine lv_iconst (v := (1 : Int32)) hx hb dX5_readsCbor_18 (by decide) ?_
      refine lv_aload_n hx hb dX5_readsCbor_19 rfl (lv_at hl 0 rfl) ?_
      refine gm_X5_taped (v := (mf_taped σ)) G hP dX5_readsCbor_20 rfl ?_
      obtain ⟨x12, hx12, hf⟩ := bd_some hf
      refine vM (As := [.int (1 : Int32), .int (mf_taped σ)]) (rest := []) G kX5_90 (c_mm_wrong hx12) hP hD hS ⟨rfl, rfl, Nat.le_of_ble_eq_true rfl, Nat.le_of_ble_eq_true rfl⟩ ⟨Nat.zero_le _, Nat.zero_le _⟩ rfl hl.1 (Nat.le_of_ble_eq_true rfl) dX5_readsCbor_23 (fun H locs hP hD hS => ?_)
      refine W.eq (g2 := F0 m 26 ls [.int (bI x12.1)]) rfl ?_
      refine lv_pop hx hb dX5_readsCbor_26 rfl ?_
      cases hf
      exact ct_vret G hP hD hS dX5_readsCbor_27
set_option maxHeartbeats 4000000 in
set_option maxRecDepth 100000 in
theorem mm_readsCbor_u2 {p : Program} {l : Launch} {e : Env} {s : State} {m : MethodId} {args : Array Value} {below : List Frame} {meth : Method} {c : Code} {D : va_G} {aK aV : Nat → Nat} {A : Nat → Prop} {cB cI cJ : ClassId} {q : Nat → Nat} {ρ : MSt} (G : CX p s m args meth c D (gTy cB cI cJ) aK aV A RX5 cX5_readsCbor 5 none) : ∀ (n : Nat) {a1 : Int32} {σ : MSt} {H : Heap} {locs : List Loc} {ls : Array Slot} (hl : lv_has ls 5 [(0, .ref (q 0)), (1, .int a1)]) (hP : va_P D vwCl (mW cB cI cJ q σ) H) (hD : va_D A (mW cB cI cJ q σ)) (hS : va_S A s.heap H locs) (hf : mm_readsCbor_L2 n a1 σ = some ρ), W p l e (rm_mm_readsCbor) s m args below meth c H locs 0 0 (MQ below (cQ D (gTy cB cI cJ) A (mW cB cI cJ q ρ) none) args s 0 0 A) (F0 m 2 ls []) := by
  intro n
  induction n with
  | zero =>
    intros
    rename_i hf
    cases hf
  | succ n ih =>
    intro a1 σ H locs ls hl hP hD hS hf
    exact mm_readsCbor_t2 G (fun _ _ H locs ls hl hP hD hS hf => ih hl hP hD hS hf) hl hP hD hS hf
set_option maxHeartbeats 4000000 in
set_option maxRecDepth 100000 in
theorem mm_readsCbor_t0e {p : Program} {l : Launch} {e : Env} {s : State} {m : MethodId} {args : Array Value} {below : List Frame} {meth : Method} {c : Code} {D : va_G} {aK aV : Nat → Nat} {A : Nat → Prop} {cB cI cJ : ClassId} {q : Nat → Nat} {H : Heap} {locs : List Loc} {ls : Array Slot} {ρ : MSt} {σ : MSt} (G : CX p s m args meth c D (gTy cB cI cJ) aK aV A RX5 cX5_readsCbor 5 none) (hl : lv_has ls 5 [(0, .ref (q 0))]) (hP : va_P D vwCl (mW cB cI cJ q σ) H) (hD : va_D A (mW cB cI cJ q σ)) (hS : va_S A s.heap H locs) (hf : mm_readsCbor σ = some ρ) : W p l e (rm_mm_readsCbor) s m args below meth c H locs 0 0 (MQ below (cQ D (gTy cB cI cJ) A (mW cB cI cJ q ρ) none) args s 0 0 A) (F0 m 0 ls []) := by
  unfold mm_readsCbor at hf
  obtain ⟨hx, hb, hml, hown, hT, hrt, hlk, hK, hA, hG, hE⟩ := id G
  refine lv_iconst (v := (1 : Int32)) hx hb dX5_readsCbor_0 (by decide) ?_
  refine lv_istore_n (lv' := [(1, .int (1 : Int32)), (0, .ref (q 0))]) hx hb dX5_readsCbor_1 rfl hl (by decide) rfl (fun ls hl => ?_)
  exact W.eq (g2 := F0 m 2 ls []) rfl (mm_readsCbor_u2 G FU (lv_sub hl [1, 0] rfl) hP hD hS hf)
set_option maxHeartbeats 4000000 in
set_option maxRecDepth 100000 in
theorem c_mm_readsCbor {l : Launch} {D : va_G} {aK aV : Nat → Nat} {cB cI cJ : ClassId} {q : Nat → Nat} {ρ : MSt} {σ : MSt} (hf : mm_readsCbor σ = some ρ) : CT l D (gTy cB cI cJ) aK aV yX5_readsCbor (wM yX5_readsCbor cX5_readsCbor 5 none) (rm_mm_readsCbor) 0 0 [.ref (q 0)] (mW cB cI cJ q σ) none (mW cB cI cJ q ρ) := by
  refine CT.of (by decide) rfl ?_
  intro p e s m below meth c A G hnm hP hD hS
  have hl := lv_entry [.ref (q 0)] (n := 5) (Nat.le_of_ble_eq_true rfl)
  rw [lg_entry_eq]
  generalize (lg_sl [.ref (q 0)] ++ List.replicate (5 - (lg_sl [.ref (q 0)]).length) Slot.unset).toArray = ls at hl ⊢
  exact mm_readsCbor_t0e G hl hP hD hS hf
