/-! THE REFERENCE: writing (printed by program wip/gen) -/
def mm_putsThing_b207 (s0 : Int64) (s1 : Int32) (σ : MSt) : Option (MSt) := ck s1 64 (some (ms_open (ms_openLeft σ (vp_updL (mf_openLeft σ) (s1).toNatClampNeg s0)) ((mf_open σ) + (1 : Int32))))
def mm_putsThing_b157 (a1 : Int32) (s0 : Int32) (σ : MSt) : Option (MSt) := bd (mm_put s0 σ) (fun (x25 : MSt) => ck (mf_open x25) 64 (ck a1 4200 ((if ((mf_sorts x25) (a1).toNatClampNeg) = (5 : Int32) then ck a1 4200 (mm_putsThing_b207 ((2 : Int64) * ((mf_numbers x25) (a1).toNatClampNeg)) (mf_open x25) (ms_openThing x25 (upd (mf_openThing x25) ((mf_open x25)).toNatClampNeg a1))) else ck a1 4200 (mm_putsThing_b207 ((mf_numbers x25) (a1).toNatClampNeg) (mf_open x25) (ms_openThing x25 (upd (mf_openThing x25) ((mf_open x25)).toNatClampNeg a1)))))))
def mm_putsThing_b139 (a1 : Int32) (σ : MSt) : Option (MSt) := ck a1 4200 ((if ((mf_sorts σ) (a1).toNatClampNeg) = (5 : Int32) then mm_putsThing_b157 a1 (123 : Int32) σ else mm_putsThing_b157 a1 (91 : Int32) σ))
def mm_putsThing (p0 : Int32) (σ : MSt) : Option (MSt) := ck p0 4200 ((if ((mf_sorts σ) (p0).toNatClampNeg) = (0 : Int32) then ck p0 4200 (bd (mm_putsNumber ((mf_numbers σ) (p0).toNatClampNeg) (0 : Int32) σ) (fun (x4 : MSt) => some x4)) else (if ((mf_sorts σ) (p0).toNatClampNeg) = (1 : Int32) then bd (mm_put (45 : Int32) σ) (fun (x6 : MSt) => ck p0 4200 (bd (mm_putsNumber ((mf_numbers x6) (p0).toNatClampNeg) (1 : Int32) x6) (fun (x8 : MSt) => some x8))) else (if ((mf_sorts σ) (p0).toNatClampNeg) = (2 : Int32) then mm_putsThing_b139 p0 σ else (if ((mf_sorts σ) (p0).toNatClampNeg) = (3 : Int32) then bd (mm_putsString p0 σ) (fun (x11 : MSt) => some x11) else (if ((mf_sorts σ) (p0).toNatClampNeg) = (4 : Int32) then mm_putsThing_b139 p0 σ else (if ((mf_sorts σ) (p0).toNatClampNeg) = (5 : Int32) then mm_putsThing_b139 p0 σ else (if ((mf_sorts σ) (p0).toNatClampNeg) = (6 : Int32) then mm_putsThing_b139 p0 σ else (if ((mf_sorts σ) (p0).toNatClampNeg) = (7 : Int32) then ck p0 4200 ((if ((mf_numbers σ) (p0).toNatClampNeg) = (20 : Int64) then bd (mm_putsWord 0  σ) (fun (x22 : MSt) => some x22) else ck p0 4200 ((if ((mf_numbers σ) (p0).toNatClampNeg) = (21 : Int64) then bd (mm_putsWord 1  σ) (fun (x21 : MSt) => some x21) else bd (mm_putsWord 2  σ) (fun (x20 : MSt) => some x20))))) else mm_putsThing_b139 p0 σ)))))))))
abbrev rm_mm_putsThing : Room := { frames := 6, cells := 0, slots := 0, locals := 135 }
set_option maxHeartbeats 4000000 in
set_option maxRecDepth 100000 in
theorem mm_putsThing_t207 {p : Program} {l : Launch} {e : Env} {s : State} {m : MethodId} {args : Array Value} {below : List Frame} {meth : Method} {c : Code} {D : va_G} {aK aV : Nat → Nat} {A : Nat → Prop} {cB cI cJ : ClassId} {q : Nat → Nat} {H : Heap} {locs : List Loc} {ls : Array Slot} {ρ : MSt} {s0 : Int64} {s1 : Int32} {σ : MSt} (G : CX p s m args meth c D (gTy cB cI cJ) aK aV A RX5 cX5_putsThing 2 none) (hl : lv_has ls 2 [(0, .ref (q 0))]) (hP : va_P D vwCl (mW cB cI cJ q σ) H) (hD : va_D A (mW cB cI cJ q σ)) (hS : va_S A s.heap H locs) (hf : mm_putsThing_b207 s0 s1 σ = some ρ) : W p l e (rm_mm_putsThing) s m args below meth c H locs 0 0 (MQ below (cQ D (gTy cB cI cJ) A (mW cB cI cJ q ρ) none) args s 0 0 A) (F0 m 207 ls [.long s0, .int s1, .ref (q 8)]) := by
  unfold mm_putsThing_b207 at hf
  obtain ⟨hx, hb, hml, hown, hT, hrt, hlk, hK, hA, hG, hE⟩ := id G
  obtain ⟨hi31, hf⟩ := ck_some hf
  refine sm_openLeft (f := (mf_openLeft σ)) G hP hD hS hi31 dX5_putsThing_207 rfl (fun H locs hP hD hS => ?_)
  refine lv_aload_n hx hb dX5_putsThing_208 rfl (lv_at hl 0 rfl) ?_
  refine lv_dup hx hb dX5_putsThing_209 rfl ?_
  refine gm_X5_open (v := (mf_open σ)) G hP dX5_putsThing_210 (mG_open_openLeft _ _) ?_
  refine lv_iconst (v := (1 : Int32)) hx hb dX5_putsThing_213 (by decide) ?_
  refine lv_iadd hx hb dX5_putsThing_214 ?_
  refine pm_X5_open (v := ((mf_open σ) + (1 : Int32))) G hP hD hS dX5_putsThing_215 (fun H locs hP hD hS => ?_)
  cases hf
  exact ct_vret G hP hD hS dX5_putsThing_218
set_option maxHeartbeats 4000000 in
set_option maxRecDepth 100000 in
theorem mm_putsThing_t157 {p : Program} {l : Launch} {e : Env} {s : State} {m : MethodId} {args : Array Value} {below : List Frame} {meth : Method} {c : Code} {D : va_G} {aK aV : Nat → Nat} {A : Nat → Prop} {cB cI cJ : ClassId} {q : Nat → Nat} {H : Heap} {locs : List Loc} {ls : Array Slot} {ρ : MSt} {a1 : Int32} {s0 : Int32} {σ : MSt} (G : CX p s m args meth c D (gTy cB cI cJ) aK aV A RX5 cX5_putsThing 2 none) (hl : lv_has ls 2 [(0, .ref (q 0)), (1, .int a1)]) (hP : va_P D vwCl (mW cB cI cJ q σ) H) (hD : va_D A (mW cB cI cJ q σ)) (hS : va_S A s.heap H locs) (hf : mm_putsThing_b157 a1 s0 σ = some ρ) : W p l e (rm_mm_putsThing) s m args below meth c H locs 0 0 (MQ below (cQ D (gTy cB cI cJ) A (mW cB cI cJ q ρ) none) args s 0 0 A) (F0 m 157 ls [.int s0, .ref (q 0)]) := by
  unfold mm_putsThing_b157 at hf
  obtain ⟨hx, hb, hml, hown, hT, hrt, hlk, hK, hA, hG, hE⟩ := id G
  obtain ⟨x25, hx25, hf⟩ := bd_some hf
  refine vM (As := [.int s0]) (rest := []) G kX5_219 (c_mm_put hx25) hP hD hS ⟨rfl, rfl, Nat.le_of_ble_eq_true rfl, Nat.le_of_ble_eq_true rfl⟩ ⟨Nat.zero_le _, Nat.zero_le _⟩ rfl hl.1 (Nat.le_of_ble_eq_true rfl) dX5_putsThing_157 (fun H locs hP hD hS => ?_)
  refine W.eq (g2 := F0 m 160 ls []) rfl ?_
  refine lv_aload_n hx hb dX5_putsThing_160 rfl (lv_at hl 0 rfl) ?_
  refine gm_X5_openThing G hP dX5_putsThing_161 ?_
  refine lv_aload_n hx hb dX5_putsThing_164 rfl (lv_at hl 0 rfl) ?_
  refine gm_X5_open (v := (mf_open x25)) G hP dX5_putsThing_165 rfl ?_
  refine lv_iload_n hx hb dX5_putsThing_168 rfl (lv_at hl 1 rfl) ?_
  obtain ⟨hi26, hf⟩ := ck_some hf
  refine sm_openThing (f := (mf_openThing x25)) G hP hD hS hi26 dX5_putsThing_169 rfl (fun H locs hP hD hS => ?_)
  refine lv_aload_n hx hb dX5_putsThing_170 rfl (lv_at hl 0 rfl) ?_
  refine gm_X5_openLeft G hP dX5_putsThing_171 ?_
  refine lv_aload_n hx hb dX5_putsThing_174 rfl (lv_at hl 0 rfl) ?_
  refine gm_X5_open (v := (mf_open x25)) G hP dX5_putsThing_175 (mG_open_openThing _ _) ?_
  refine lv_aload_n hx hb dX5_putsThing_178 rfl (lv_at hl 0 rfl) ?_
  refine gm_X5_sorts G hP dX5_putsThing_179 ?_
  refine lv_iload_n hx hb dX5_putsThing_182 rfl (lv_at hl 1 rfl) ?_
  obtain ⟨hi27, hf⟩ := ck_some hf
  refine lm_sorts (f := (mf_sorts x25)) G hP hi27 dX5_putsThing_183 (mG_sorts_openThing _ _) ?_
  refine lv_iconst (v := (5 : Int32)) hx hb dX5_putsThing_184 (by decide) ?_
  refine lv_icmp_ne (tgt := 201) hx hb dX5_putsThing_185 (by decide) (fun c28 => ?_) (fun c28 => ?_)
  · have hf := (if_neg c28).symm.trans hf
    refine lv_aload_n hx hb dX5_putsThing_201 rfl (lv_at hl 0 rfl) ?_
    refine gm_X5_numbers G hP dX5_putsThing_202 ?_
    refine lv_iload_n hx hb dX5_putsThing_205 rfl (lv_at hl 1 rfl) ?_
    obtain ⟨hi29, hf⟩ := ck_some hf
    refine lm_numbers (f := (mf_numbers x25)) G hP hi29 dX5_putsThing_206 (mG_numbers_openThing _ _) ?_
    exact W.eq (g2 := F0 m 207 ls [.long ((mf_numbers x25) (a1).toNatClampNeg), .int (mf_open x25), .ref (q 8)]) rfl (mm_putsThing_t207 G (lv_sub hl [0] rfl) hP hD hS hf)
  · have hf := (if_pos c28).symm.trans hf
    refine lv_ldc2 (v := (2 : Int64)) hx hb hown (hT _ wc_X5_210) dX5_putsThing_188 ?_
    refine lv_aload_n hx hb dX5_putsThing_191 rfl (lv_at hl 0 rfl) ?_
    refine gm_X5_numbers G hP dX5_putsThing_192 ?_
    refine lv_iload_n hx hb dX5_putsThing_195 rfl (lv_at hl 1 rfl) ?_
    obtain ⟨hi30, hf⟩ := ck_some hf
    refine lm_numbers (f := (mf_numbers x25)) G hP hi30 dX5_putsThing_196 (mG_numbers_openThing _ _) ?_
    refine lv_lmul hx hb dX5_putsThing_197 ?_
    refine lv_goto (tgt := 207) hx hb dX5_putsThing_198 (by decide) ?_
    exact W.eq (g2 := F0 m 207 ls [.long ((2 : Int64) * ((mf_numbers x25) (a1).toNatClampNeg)), .int (mf_open x25), .ref (q 8)]) rfl (mm_putsThing_t207 G (lv_sub hl [0] rfl) hP hD hS hf)
set_option maxHeartbeats 4000000 in
set_option maxRecDepth 100000 in
theorem mm_putsThing_t139 {p : Program} {l : Launch} {e : Env} {s : State} {m : MethodId} {args : Array Value} {below : List Frame} {meth : Method} {c : Code} {D : va_G} {aK aV : Nat → Nat} {A : Nat → Prop} {cB cI cJ : ClassId} {q : Nat → Nat} {H : Heap} {locs : List Loc} {ls : Array Slot} {ρ : MSt} {a1 : Int32} {σ : MSt} (G : CX p s m args meth c D (gTy cB cI cJ) aK aV A RX5 cX5_putsThing 2 none) (hl : lv_has ls 2 [(0, .ref (q 0)), (1, .int a1)]) (hP : va_P D vwCl (mW cB cI cJ q σ) H) (hD : va_D A (mW cB cI cJ q σ)) (hS : va_S A s.heap H locs) (hf : mm_putsThing_b139 a1 σ = some ρ) : W p l e (rm_mm_putsThing) s m args below meth c H locs 0 0 (MQ below (cQ D (gTy cB cI cJ) A (mW cB cI cJ q ρ) none) args s 0 0 A) (F0 m 139 ls []) := by
  unfold mm_putsThing_b139 at hf
  obtain ⟨hx, hb, hml, hown, hT, hrt, hlk, hK, hA, hG, hE⟩ := id G
  refine lv_aload_n hx hb dX5_putsThing_139 rfl (lv_at hl 0 rfl) ?_
  refine lv_aload_n hx hb dX5_putsThing_140 rfl (lv_at hl 0 rfl) ?_
  refine gm_X5_sorts G hP dX5_putsThing_141 ?_
  refine lv_iload_n hx hb dX5_putsThing_144 rfl (lv_at hl 1 rfl) ?_
  obtain ⟨hi23, hf⟩ := ck_some hf
  refine lm_sorts (f := (mf_sorts σ)) G hP hi23 dX5_putsThing_145 rfl ?_
  refine lv_iconst (v := (5 : Int32)) hx hb dX5_putsThing_146 (by decide) ?_
  refine lv_icmp_ne (tgt := 155) hx hb dX5_putsThing_147 (by decide) (fun c24 => ?_) (fun c24 => ?_)
  · have hf := (if_neg c24).symm.trans hf
    refine lv_bipush (v := (91 : Int32)) hx hb dX5_putsThing_155 (by decide) ?_
    exact W.eq (g2 := F0 m 157 ls [.int (91 : Int32), .ref (q 0)]) rfl (mm_putsThing_t157 G (lv_sub hl [0, 1] rfl) hP hD hS hf)
  · have hf := (if_pos c24).symm.trans hf
    refine lv_bipush (v := (123 : Int32)) hx hb dX5_putsThing_150 (by decide) ?_
    refine lv_goto (tgt := 157) hx hb dX5_putsThing_152 (by decide) ?_
    exact W.eq (g2 := F0 m 157 ls [.int (123 : Int32), .ref (q 0)]) rfl (mm_putsThing_t157 G (lv_sub hl [0, 1] rfl) hP hD hS hf)
set_option maxHeartbeats 4000000 in
set_option maxRecDepth 100000 in
theorem mm_putsThing_t0e {p : Program} {l : Launch} {e : Env} {s : State} {m : MethodId} {args : Array Value} {below : List Frame} {meth : Method} {c : Code} {D : va_G} {aK aV : Nat → Nat} {A : Nat → Prop} {cB cI cJ : ClassId} {q : Nat → Nat} {H : Heap} {locs : List Loc} {ls : Array Slot} {ρ : MSt} {p0 : Int32} {σ : MSt} (G : CX p s m args meth c D (gTy cB cI cJ) aK aV A RX5 cX5_putsThing 2 none) (hl : lv_has ls 2 [(0, .ref (q 0)), (1, .int p0)]) (hP : va_P D vwCl (mW cB cI cJ q σ) H) (hD : va_D A (mW cB cI cJ q σ)) (hS : va_S A s.heap H locs) (hf : mm_putsThing p0 σ = some ρ) : W p l e (rm_mm_putsThing) s m args below meth c H locs 0 0 (MQ below (cQ D (gTy cB cI cJ) A (mW cB cI cJ q ρ) none) args s 0 0 A) (F0 m 0 ls []) := by
  unfold mm_putsThing at hf
  obtain ⟨hx, hb, hml, hown, hT, hrt, hlk, hK, hA, hG, hE⟩ := id G
  refine lv_aload_n hx hb dX5_putsThing_0 rfl (lv_at hl 0 rfl) ?_
  refine gm_X5_sorts G hP dX5_putsThing_1 ?_
  refine lv_iload_n hx hb dX5_putsThing_4 rfl (lv_at hl 1 rfl) ?_
  obtain ⟨hi1, hf⟩ := ck_some hf
  refine lm_sorts (f := (mf_sorts σ)) G hP hi1 dX5_putsThing_5 rfl ?_
  by_cases c2 : ((mf_sorts σ) (p0).toNatClampNeg) = (0 : Int32)
  · have hf := (if_pos c2).symm.trans hf
    refine lv_tableIn (off := 46) (tgt := 52) hx hb dX5_putsThing_6 (by rw [c2]; decide +kernel) (by rw [c2]; decide +kernel) (by rw [c2]; decide +kernel) (by decide) ?_
    refine lv_aload_n hx hb dX5_putsThing_52 rfl (lv_at hl 0 rfl) ?_
    refine lv_aload_n hx hb dX5_putsThing_53 rfl (lv_at hl 0 rfl) ?_
    refine gm_X5_numbers G hP dX5_putsThing_54 ?_
    refine lv_iload_n hx hb dX5_putsThing_57 rfl (lv_at hl 1 rfl) ?_
    obtain ⟨hi3, hf⟩ := ck_some hf
    refine lm_numbers (f := (mf_numbers σ)) G hP hi3 dX5_putsThing_58 rfl ?_
    refine lv_iconst (v := (0 : Int32)) hx hb dX5_putsThing_59 (by decide) ?_
    obtain ⟨x4, hx4, hf⟩ := bd_some hf
    refine vM (As := [.long ((mf_numbers σ) (p0).toNatClampNeg), .int (0 : Int32)]) (rest := []) G kX5_245 (c_mm_putsNumber hx4) hP hD hS ⟨rfl, rfl, Nat.le_of_ble_eq_true rfl, Nat.le_of_ble_eq_true rfl⟩ ⟨Nat.zero_le _, Nat.zero_le _⟩ rfl hl.1 (Nat.le_of_ble_eq_true rfl) dX5_putsThing_60 (fun H locs hP hD hS => ?_)
    refine W.eq (g2 := F0 m 63 ls []) rfl ?_
    refine lv_goto (tgt := 218) hx hb dX5_putsThing_63 (by decide) ?_
    cases hf
    exact ct_vret G hP hD hS dX5_putsThing_218
  · have hf := (if_neg c2).symm.trans hf
    by_cases c5 : ((mf_sorts σ) (p0).toNatClampNeg) = (1 : Int32)
    · have hf := (if_pos c5).symm.trans hf
      refine lv_tableIn (off := 60) (tgt := 66) hx hb dX5_putsThing_6 (by rw [c5]; decide +kernel) (by rw [c5]; decide +kernel) (by rw [c5]; decide +kernel) (by decide) ?_
      refine lv_aload_n hx hb dX5_putsThing_66 rfl (lv_at hl 0 rfl) ?_
      refine lv_bipush (v := (45 : Int32)) hx hb dX5_putsThing_67 (by decide) ?_
      obtain ⟨x6, hx6, hf⟩ := bd_some hf
      refine vM (As := [.int (45 : Int32)]) (rest := []) G kX5_219 (c_mm_put hx6) hP hD hS ⟨rfl, rfl, Nat.le_of_ble_eq_true rfl, Nat.le_of_ble_eq_true rfl⟩ ⟨Nat.zero_le _, Nat.zero_le _⟩ rfl hl.1 (Nat.le_of_ble_eq_true rfl) dX5_putsThing_69 (fun H locs hP hD hS => ?_)
      refine W.eq (g2 := F0 m 72 ls []) rfl ?_
      refine lv_aload_n hx hb dX5_putsThing_72 rfl (lv_at hl 0 rfl) ?_
      refine lv_aload_n hx hb dX5_putsThing_73 rfl (lv_at hl 0 rfl) ?_
      refine gm_X5_numbers G hP dX5_putsThing_74 ?_
      refine lv_iload_n hx hb dX5_putsThing_77 rfl (lv_at hl 1 rfl) ?_
      obtain ⟨hi7, hf⟩ := ck_some hf
      refine lm_numbers (f := (mf_numbers x6)) G hP hi7 dX5_putsThing_78 rfl ?_
      refine lv_iconst (v := (1 : Int32)) hx hb dX5_putsThing_79 (by decide) ?_
      obtain ⟨x8, hx8, hf⟩ := bd_some hf
      refine vM (As := [.long ((mf_numbers x6) (p0).toNatClampNeg), .int (1 : Int32)]) (rest := []) G kX5_245 (c_mm_putsNumber hx8) hP hD hS ⟨rfl, rfl, Nat.le_of_ble_eq_true rfl, Nat.le_of_ble_eq_true rfl⟩ ⟨Nat.zero_le _, Nat.zero_le _⟩ rfl hl.1 (Nat.le_of_ble_eq_true rfl) dX5_putsThing_80 (fun H locs hP hD hS => ?_)
      refine W.eq (g2 := F0 m 83 ls []) rfl ?_
      refine lv_goto (tgt := 218) hx hb dX5_putsThing_83 (by decide) ?_
      cases hf
      exact ct_vret G hP hD hS dX5_putsThing_218
    · have hf := (if_neg c5).symm.trans hf
      by_cases c9 : ((mf_sorts σ) (p0).toNatClampNeg) = (2 : Int32)
      · have hf := (if_pos c9).symm.trans hf
        refine lv_tableIn (off := 133) (tgt := 139) hx hb dX5_putsThing_6 (by rw [c9]; decide +kernel) (by rw [c9]; decide +kernel) (by rw [c9]; decide +kernel) (by decide) ?_
        exact W.eq (g2 := F0 m 139 ls []) rfl (mm_putsThing_t139 G (lv_sub hl [0, 1] rfl) hP hD hS hf)
      · have hf := (if_neg c9).symm.trans hf
        by_cases c10 : ((mf_sorts σ) (p0).toNatClampNeg) = (3 : Int32)
        · have hf := (if_pos c10).symm.trans hf
          refine lv_tableIn (off := 80) (tgt := 86) hx hb dX5_putsThing_6 (by rw [c10]; decide +kernel) (by rw [c10]; decide +kernel) (by rw [c10]; decide +kernel) (by decide) ?_
          refine lv_aload_n hx hb dX5_putsThing_86 rfl (lv_at hl 0 rfl) ?_
          refine lv_iload_n hx hb dX5_putsThing_87 rfl (lv_at hl 1 rfl) ?_
          obtain ⟨x11, hx11, hf⟩ := bd_some hf
          refine vM (As := [.int p0]) (rest := []) G kX5_249 (c_mm_putsString hx11) hP hD hS ⟨rfl, rfl, Nat.le_of_ble_eq_true rfl, Nat.le_of_ble_eq_true rfl⟩ ⟨Nat.zero_le _, Nat.zero_le _⟩ rfl hl.1 (Nat.le_of_ble_eq_true rfl) dX5_putsThing_88 (fun H locs hP hD hS => ?_)
          refine W.eq (g2 := F0 m 91 ls []) rfl ?_
          refine lv_goto (tgt := 218) hx hb dX5_putsThing_91 (by decide) ?_
          cases hf
          exact ct_vret G hP hD hS dX5_putsThing_218
        · have hf := (if_neg c10).symm.trans hf
          by_cases c12 : ((mf_sorts σ) (p0).toNatClampNeg) = (4 : Int32)
          · have hf := (if_pos c12).symm.trans hf
            refine lv_tableIn (off := 133) (tgt := 139) hx hb dX5_putsThing_6 (by rw [c12]; decide +kernel) (by rw [c12]; decide +kernel) (by rw [c12]; decide +kernel) (by decide) ?_
            exact W.eq (g2 := F0 m 139 ls []) rfl (mm_putsThing_t139 G (lv_sub hl [0, 1] rfl) hP hD hS hf)
          · have hf := (if_neg c12).symm.trans hf
            by_cases c13 : ((mf_sorts σ) (p0).toNatClampNeg) = (5 : Int32)
            · have hf := (if_pos c13).symm.trans hf
              refine lv_tableIn (off := 133) (tgt := 139) hx hb dX5_putsThing_6 (by rw [c13]; decide +kernel) (by rw [c13]; decide +kernel) (by rw [c13]; decide +kernel) (by decide) ?_
              exact W.eq (g2 := F0 m 139 ls []) rfl (mm_putsThing_t139 G (lv_sub hl [0, 1] rfl) hP hD hS hf)
            · have hf := (if_neg c13).symm.trans hf
              by_cases c14 : ((mf_sorts σ) (p0).toNatClampNeg) = (6 : Int32)
              · have hf := (if_pos c14).symm.trans hf
                refine lv_tableIn (off := 133) (tgt := 139) hx hb dX5_putsThing_6 (by rw [c14]; decide +kernel) (by rw [c14]; decide +kernel) (by rw [c14]; decide +kernel) (by decide) ?_
                exact W.eq (g2 := F0 m 139 ls []) rfl (mm_putsThing_t139 G (lv_sub hl [0, 1] rfl) hP hD hS hf)
              · have hf := (if_neg c14).symm.trans hf
                by_cases c15 : ((mf_sorts σ) (p0).toNatClampNeg) = (7 : Int32)
                · have hf := (if_pos c15).symm.trans hf
                  refine lv_tableIn (off := 88) (tgt := 94) hx hb dX5_putsThing_6 (by rw [c15]; decide +kernel) (by rw [c15]; decide +kernel) (by rw [c15]; decide +kernel) (by decide) ?_
                  refine lv_aload_n hx hb dX5_putsThing_94 rfl (lv_at hl 0 rfl) ?_
                  refine lv_aload_n hx hb dX5_putsThing_95 rfl (lv_at hl 0 rfl) ?_
                  refine gm_X5_numbers G hP dX5_putsThing_96 ?_
                  refine lv_iload_n hx hb dX5_putsThing_99 rfl (lv_at hl 1 rfl) ?_
                  obtain ⟨hi16, hf⟩ := ck_some hf
                  refine lm_numbers (f := (mf_numbers σ)) G hP hi16 dX5_putsThing_100 rfl ?_
                  refine lv_ldc2 (v := (20 : Int64)) hx hb hown (hT _ wc_X5_252) dX5_putsThing_101 ?_
                  refine W.lcmp hx hb dX5_putsThing_104 ?_
                  refine lv_if_ne (tgt := 113) hx hb dX5_putsThing_105 (by decide) (fun c17 => ?_) (fun c17 => ?_)
                  · have hf := (if_neg (fun z => c17 ((lg_cmp_eq _ _).mpr z))).symm.trans hf
                    refine lv_aload_n hx hb dX5_putsThing_113 rfl (lv_at hl 0 rfl) ?_
                    refine gm_X5_numbers G hP dX5_putsThing_114 ?_
                    refine lv_iload_n hx hb dX5_putsThing_117 rfl (lv_at hl 1 rfl) ?_
                    obtain ⟨hi18, hf⟩ := ck_some hf
                    refine lm_numbers (f := (mf_numbers σ)) G hP hi18 dX5_putsThing_118 rfl ?_
                    refine lv_ldc2 (v := (21 : Int64)) hx hb hown (hT _ wc_X5_254) dX5_putsThing_119 ?_
                    refine W.lcmp hx hb dX5_putsThing_122 ?_
                    refine lv_if_ne (tgt := 131) hx hb dX5_putsThing_123 (by decide) (fun c19 => ?_) (fun c19 => ?_)
                    · have hf := (if_neg (fun z => c19 ((lg_cmp_eq _ _).mpr z))).symm.trans hf
                      refine va_ldcS hx hb hown (hG.1 _ (List.mem_of_getElem? (i := 9) rfl)) dX5_putsThing_131 ?_
                      obtain ⟨x20, hx20, hf⟩ := bd_some hf
                      refine vM (As := [.ref (aK 2)]) (rest := []) G kX5_234 (c_mm_putsWord (by decide) hx20) hP hD hS ⟨rfl, rfl, Nat.le_of_ble_eq_true rfl, Nat.le_of_ble_eq_true rfl⟩ ⟨Nat.zero_le _, Nat.zero_le _⟩ rfl hl.1 (Nat.le_of_ble_eq_true rfl) dX5_putsThing_133 (fun H locs hP hD hS => ?_)
                      refine W.eq (g2 := F0 m 136 ls []) rfl ?_
                      refine lv_goto (tgt := 218) hx hb dX5_putsThing_136 (by decide) ?_
                      cases hf
                      exact ct_vret G hP hD hS dX5_putsThing_218
                    · have hf := (if_pos ((lg_cmp_eq _ _).mp c19)).symm.trans hf
                      refine va_ldcS hx hb hown (hG.1 _ (List.mem_of_getElem? (i := 8) rfl)) dX5_putsThing_126 ?_
                      refine lv_goto (tgt := 133) hx hb dX5_putsThing_128 (by decide) ?_
                      obtain ⟨x21, hx21, hf⟩ := bd_some hf
                      refine vM (As := [.ref (aK 1)]) (rest := []) G kX5_234 (c_mm_putsWord (by decide) hx21) hP hD hS ⟨rfl, rfl, Nat.le_of_ble_eq_true rfl, Nat.le_of_ble_eq_true rfl⟩ ⟨Nat.zero_le _, Nat.zero_le _⟩ rfl hl.1 (Nat.le_of_ble_eq_true rfl) dX5_putsThing_133 (fun H locs hP hD hS => ?_)
                      refine W.eq (g2 := F0 m 136 ls []) rfl ?_
                      refine lv_goto (tgt := 218) hx hb dX5_putsThing_136 (by decide) ?_
                      cases hf
                      exact ct_vret G hP hD hS dX5_putsThing_218
                  · have hf := (if_pos ((lg_cmp_eq _ _).mp c17)).symm.trans hf
                    refine va_ldcS hx hb hown (hG.1 _ (List.mem_of_getElem? (i := 7) rfl)) dX5_putsThing_108 ?_
                    refine lv_goto (tgt := 133) hx hb dX5_putsThing_110 (by decide) ?_
                    obtain ⟨x22, hx22, hf⟩ := bd_some hf
                    refine vM (As := [.ref (aK 0)]) (rest := []) G kX5_234 (c_mm_putsWord (by decide) hx22) hP hD hS ⟨rfl, rfl, Nat.le_of_ble_eq_true rfl, Nat.le_of_ble_eq_true rfl⟩ ⟨Nat.zero_le _, Nat.zero_le _⟩ rfl hl.1 (Nat.le_of_ble_eq_true rfl) dX5_putsThing_133 (fun H locs hP hD hS => ?_)
                    refine W.eq (g2 := F0 m 136 ls []) rfl ?_
                    refine lv_goto (tgt := 218) hx hb dX5_putsThing_136 (by decide) ?_
                    cases hf
                    exact ct_vret G hP hD hS dX5_putsThing_218
                · have hf := (if_neg c15).symm.trans hf
                  have nc2 := sw_n c2 (by decide : ((0 : Int32)).toInt = 0)
                  have nc5 := sw_n c5 (by decide : ((1 : Int32)).toInt = 1)
                  have nc9 := sw_n c9 (by decide : ((2 : Int32)).toInt = 2)
                  have nc10 := sw_n c10 (by decide : ((3 : Int32)).toInt = 3)
                  have nc12 := sw_n c12 (by decide : ((4 : Int32)).toInt = 4)
                  have nc13 := sw_n c13 (by decide : ((5 : Int32)).toInt = 5)
                  have nc14 := sw_n c14 (by decide : ((6 : Int32)).toInt = 6)
                  have nc15 := sw_n c15 (by decide : ((7 : Int32)).toInt = 7)
                  refine lv_tableOut (tgt := 139) hx hb dX5_putsThing_6 (by omega) (by decide) ?_
                  exact W.eq (g2 := F0 m 139 ls []) rfl (mm_putsThing_t139 G (lv_sub hl [0, 1] rfl) hP hD hS hf)
set_option maxHeartbeats 4000000 in
set_option maxRecDepth 100000 in
theorem c_mm_putsThing {l : Launch} {D : va_G} {aK aV : Nat → Nat} {cB cI cJ : ClassId} {q : Nat → Nat} {ρ : MSt} {p0 : Int32} {σ : MSt} (hf : mm_putsThing p0 σ = some ρ) : CT l D (gTy cB cI cJ) aK aV yX5_putsThing (wM yX5_putsThing cX5_putsThing 2 none) (rm_mm_putsThing) 0 0 [.ref (q 0), .int p0] (mW cB cI cJ q σ) none (mW cB cI cJ q ρ) := by
  refine CT.of (by decide) rfl ?_
  intro p e s m below meth c A G hnm hP hD hS
  have hl := lv_entry [.ref (q 0), .int p0] (n := 2) (Nat.le_of_ble_eq_true rfl)
  rw [lg_entry_eq]
  generalize (lg_sl [.ref (q 0), .int p0] ++ List.replicate (2 - (lg_sl [.ref (q 0), .int p0]).length) Slot.unset).toArray = ls at hl ⊢
  exact mm_putsThing_t0e G hl hP hD hS hf
