/-! THE REFERENCE: writing (printed by program wip/gen) -/
def mm_writesJson_b233 (k12 : Int32 → MSt → Option (Int32 × MSt)) (k174 : Int32 → MSt → Option (Int32 × MSt)) (a1 : Int32) (s0 : Int32) (σ : MSt) : Option (Int32 × MSt) := bd (mm_put s0 σ) (fun (x24 : MSt) => k174 a1 x24)
def mm_writesJson_b174 (k12 : Int32 → MSt → Option (Int32 × MSt)) (k174 : Int32 → MSt → Option (Int32 × MSt)) (a1 : Int32) (σ : MSt) : Option (Int32 × MSt) := (if (mf_open σ) ≤ 0 then lt (a1 + (1 : Int32)) (fun (v13 : Int32) => k12 v13 σ) else ck ((mf_open σ) - (1 : Int32)) 64 ((if ((mf_openLeft σ) (((mf_open σ) - (1 : Int32))).toNatClampNeg) = (0 : Int64) then ck ((mf_open σ) - (1 : Int32)) 64 (ck ((mf_openThing σ) (((mf_open σ) - (1 : Int32))).toNatClampNeg) 4200 ((if ((mf_sorts σ) (((mf_openThing σ) (((mf_open σ) - (1 : Int32))).toNatClampNeg)).toNatClampNeg) = (5 : Int32) then mm_writesJson_b233 k12 k174 a1 (125 : Int32) (ms_open σ ((mf_open σ) - (1 : Int32))) else mm_writesJson_b233 k12 k174 a1 (93 : Int32) (ms_open σ ((mf_open σ) - (1 : Int32)))))) else lt (a1 + (1 : Int32)) (fun (v16 : Int32) => k12 v16 σ))))
def mm_writesJson_L174 (k12 : Int32 → MSt → Option (Int32 × MSt)) : Nat → Int32 → MSt → Option (Int32 × MSt)
  | 0, _, _ => none
  | n + 1, a1, σ => mm_writesJson_b174 k12 (mm_writesJson_L174 k12 n) a1 σ
def mm_writesJson_b169 (k12 : Int32 → MSt → Option (Int32 × MSt)) (a1 : Int32) (σ : MSt) : Option (Int32 × MSt) := bd (mm_putsThing a1 σ) (fun (x8 : MSt) => mm_writesJson_L174 k12 FU a1 x8)
def mm_writesJson_b154 (k12 : Int32 → MSt → Option (Int32 × MSt)) (a1 : Int32) (σ : MSt) : Option (Int32 × MSt) := ck ((mf_open σ) - (1 : Int32)) 64 (ck ((mf_open σ) - (1 : Int32)) 64 (mm_writesJson_b169 k12 a1 (ms_openLeft σ (vp_updL (mf_openLeft σ) (((mf_open σ) - (1 : Int32))).toNatClampNeg (((mf_openLeft σ) (((mf_open σ) - (1 : Int32))).toNatClampNeg) - (1 : Int64))))))
def mm_writesJson_b127 (k12 : Int32 → MSt → Option (Int32 × MSt)) (a1 : Int32) (a4 : Int32) (s0 : Int32) (σ : MSt) : Option (Int32 × MSt) := (if a4 = 0 then (if s0 = 0 then bd (mm_put (44 : Int32) σ) (fun (x28 : MSt) => mm_writesJson_b154 k12 a1 x28) else mm_writesJson_b154 k12 a1 σ) else bd (mm_put (58 : Int32) σ) (fun (x29 : MSt) => mm_writesJson_b154 k12 a1 x29))
def mm_writesJson_b118 (k12 : Int32 → MSt → Option (Int32 × MSt)) (a1 : Int32) (a4 : Int32) (s0 : Int64) (s1 : Int64) (σ : MSt) : Option (Int32 × MSt) := (if s1 = s0 then mm_writesJson_b127 k12 a1 a4 (1 : Int32) σ else mm_writesJson_b127 k12 a1 a4 (0 : Int32) σ)
def mm_writesJson_b82 (k12 : Int32 → MSt → Option (Int32 × MSt)) (a1 : Int32) (a2 : Int32) (a3 : Int32) (s0 : Int32) (σ : MSt) : Option (Int32 × MSt) := ck ((mf_open σ) - (1 : Int32)) 64 ((if a3 = 0 then ck a2 4200 (mm_writesJson_b118 k12 a1 s0 ((mf_numbers σ) (a2).toNatClampNeg) ((mf_openLeft σ) (((mf_open σ) - (1 : Int32))).toNatClampNeg) σ) else ck a2 4200 (mm_writesJson_b118 k12 a1 s0 ((2 : Int64) * ((mf_numbers σ) (a2).toNatClampNeg)) ((mf_openLeft σ) (((mf_open σ) - (1 : Int32))).toNatClampNeg) σ)))
def mm_writesJson_b54 (k12 : Int32 → MSt → Option (Int32 × MSt)) (a1 : Int32) (a2 : Int32) (s0 : Int32) (σ : MSt) : Option (Int32 × MSt) := (if s0 = 0 then mm_writesJson_b82 k12 a1 a2 s0 (0 : Int32) σ else ck ((mf_open σ) - (1 : Int32)) 64 ((if (((mf_openLeft σ) (((mf_open σ) - (1 : Int32))).toNatClampNeg) &&& (1 : Int64)) = (1 : Int64) then mm_writesJson_b82 k12 a1 a2 s0 (1 : Int32) σ else mm_writesJson_b82 k12 a1 a2 s0 (0 : Int32) σ)))
def mm_writesJson_b12 (k12 : Int32 → MSt → Option (Int32 × MSt)) (a1 : Int32) (σ : MSt) : Option (Int32 × MSt) := (if (mf_things σ) ≤ a1 then bd (mm_ends  σ) (fun (x2 : Int32 × MSt) => some (x2.1, x2.2)) else (if (mf_open σ) ≤ 0 then mm_writesJson_b169 k12 a1 σ else ck ((mf_open σ) - (1 : Int32)) 64 (lt ((mf_openThing σ) (((mf_open σ) - (1 : Int32))).toNatClampNeg) (fun (v5 : Int32) => ck v5 4200 ((if ((mf_sorts σ) (v5).toNatClampNeg) = (5 : Int32) then mm_writesJson_b54 k12 a1 v5 (1 : Int32) σ else mm_writesJson_b54 k12 a1 v5 (0 : Int32) σ))))))
def mm_writesJson_L12 : Nat → Int32 → MSt → Option (Int32 × MSt)
  | 0, _, _ => none
  | n + 1, a1, σ => mm_writesJson_b12 (mm_writesJson_L12 n) a1 σ
def mm_writesJson (σ : MSt) : Option (Int32 × MSt) := mm_writesJson_L12 FU (0 : Int32) (ms_open (ms_freshMany σ (0 : Int32)) (0 : Int32))
abbrev rm_mm_writesJson : Room := { frames := 7, cells := 0, slots := 0, locals := 156 }
set_option maxHeartbeats 4000000 in
set_option maxRecDepth 100000 in
theorem mm_writesJson_t233 {p : Program} {l : Launch} {e : Env} {s : State} {m : MethodId} {args : Array Value} {below : List Frame} {meth : Method} {c : Code} {D : va_G} {aK aV : Nat → Nat} {A : Nat → Prop} {cB cI cJ : ClassId} {q : Nat → Nat} {H : Heap} {locs : List Loc} {ls : Array Slot} {ρ : Int32 × MSt} {k12 : Int32 → MSt → Option (Int32 × MSt)} {k174 : Int32 → MSt → Option (Int32 × MSt)} {a1 : Int32} {s0 : Int32} {σ : MSt} (G : CX p s m args meth c D (gTy cB cI cJ) aK aV A RX5 cX5_writesJson 6 (some .int)) (hk12 : ∀ (a1 : Int32) (σ : MSt) (H : Heap) (locs : List Loc) (ls : Array Slot), lv_has ls 6 [(0, .ref (q 0)), (1, .int a1)] → va_P D vwCl (mW cB cI cJ q σ) H → va_D A (mW cB cI cJ q σ) → va_S A s.heap H locs → k12 a1 σ = some ρ → W p l e (rm_mm_writesJson) s m args below meth c H locs 0 0 (MQ below (cQ D (gTy cB cI cJ) A (mW cB cI cJ q ρ.2) (some (.int ρ.1))) args s 0 0 A) (F0 m 12 ls [])) (hk174 : ∀ (a1 : Int32) (σ : MSt) (H : Heap) (locs : List Loc) (ls : Array Slot), lv_has ls 6 [(0, .ref (q 0)), (1, .int a1)] → va_P D vwCl (mW cB cI cJ q σ) H → va_D A (mW cB cI cJ q σ) → va_S A s.heap H locs → k174 a1 σ = some ρ → W p l e (rm_mm_writesJson) s m args below meth c H locs 0 0 (MQ below (cQ D (gTy cB cI cJ) A (mW cB cI cJ q ρ.2) (some (.int ρ.1))) args s 0 0 A) (F0 m 174 ls [])) (hl : lv_has ls 6 [(0, .ref (q 0)), (1, .int a1)]) (hP : va_P D vwCl (mW cB cI cJ q σ) H) (hD : va_D A (mW cB cI cJ q σ)) (hS : va_S A s.heap H locs) (hf : mm_writesJson_b233 k12 k174 a1 s0 σ = some ρ) : W p l e (rm_mm_writesJson) s m args below meth c H locs 0 0 (MQ below (cQ D (gTy cB cI cJ) A (mW cB cI cJ q ρ.2) (some (.int ρ.1))) args s 0 0 A) (F0 m 233 ls [.int s0, .ref (q 0)]) := by
  unfold mm_writesJson_b233 at hf
  obtain ⟨hx, hb, hml, hown, hT, hrt, hlk, hK, hA, hG, hE⟩ := id G
  obtain ⟨x24, hx24, hf⟩ := bd_some hf
  refine vM (As := [.int s0]) (rest := []) G kX5_219 (c_mm_put hx24) hP hD hS ⟨rfl, rfl, Nat.le_of_ble_eq_true rfl, Nat.le_of_ble_eq_true rfl⟩ ⟨Nat.zero_le _, Nat.zero_le _⟩ rfl hl.1 (Nat.le_of_ble_eq_true rfl) dX5_writesJson_233 (fun H locs hP hD hS => ?_)
  refine W.eq (g2 := F0 m 236 ls []) rfl ?_
  refine lv_goto (tgt := 174) hx hb dX5_writesJson_236 (by decide) ?_
  exact W.eq (g2 := F0 m 174 ls []) rfl (hk174 _ _ _ _ _ (lv_sub hl [0, 1] rfl) hP hD hS hf)
set_option maxHeartbeats 4000000 in
set_option maxRecDepth 100000 in
theorem mm_writesJson_t174 {p : Program} {l : Launch} {e : Env} {s : State} {m : MethodId} {args : Array Value} {below : List Frame} {meth : Method} {c : Code} {D : va_G} {aK aV : Nat → Nat} {A : Nat → Prop} {cB cI cJ : ClassId} {q : Nat → Nat} {H : Heap} {locs : List Loc} {ls : Array Slot} {ρ : Int32 × MSt} {k12 : Int32 → MSt → Option (Int32 × MSt)} {k174 : Int32 → MSt → Option (Int32 × MSt)} {a1 : Int32} {σ : MSt} (G : CX p s m args meth c D (gTy cB cI cJ) aK aV A RX5 cX5_writesJson 6 (some .int)) (hk12 : ∀ (a1 : Int32) (σ : MSt) (H : Heap) (locs : List Loc) (ls : Array Slot), lv_has ls 6 [(0, .ref (q 0)), (1, .int a1)] → va_P D vwCl (mW cB cI cJ q σ) H → va_D A (mW cB cI cJ q σ) → va_S A s.heap H locs → k12 a1 σ = some ρ → W p l e (rm_mm_writesJson) s m args below meth c H locs 0 0 (MQ below (cQ D (gTy cB cI cJ) A (mW cB cI cJ q ρ.2) (some (.int ρ.1))) args s 0 0 A) (F0 m 12 ls [])) (hk174 : ∀ (a1 : Int32) (σ : MSt) (H : Heap) (locs : List Loc) (ls : Array Slot), lv_has ls 6 [(0, .ref (q 0)), (1, .int a1)] → va_P D vwCl (mW cB cI cJ q σ) H → va_D A (mW cB cI cJ q σ) → va_S A s.heap H locs → k174 a1 σ = some ρ → W p l e (rm_mm_writesJson) s m args below meth c H locs 0 0 (MQ below (cQ D (gTy cB cI cJ) A (mW cB cI cJ q ρ.2) (some (.int ρ.1))) args s 0 0 A) (F0 m 174 ls [])) (hl : lv_has ls 6 [(0, .ref (q 0)), (1, .int a1)]) (hP : va_P D vwCl (mW cB cI cJ q σ) H) (hD : va_D A (mW cB cI cJ q σ)) (hS : va_S A s.heap H locs) (hf : mm_writesJson_b174 k12 k174 a1 σ = some ρ) : W p l e (rm_mm_writesJson) s m args below meth c H locs 0 0 (MQ below (cQ D (gTy cB cI cJ) A (mW cB cI cJ q ρ.2) (some (.int ρ.1))) args s 0 0 A) (F0 m 174 ls []) := by
  unfold mm_writesJson_b174 at hf
  obtain ⟨hx, hb, hml, hown, hT, hrt, hlk, hK, hA, hG, hE⟩ := id G
  refine lv_aload_n hx hb dX5_writesJson_174 rfl (lv_at hl 0 rfl) ?_
  refine gm_X5_open (v := (mf_open σ)) G hP dX5_writesJson_175 rfl ?_
  refine lv_if_le (tgt := 239) hx hb dX5_writesJson_178 (by decide) (fun c12 => ?_) (fun c12 => ?_)
  · have hf := (if_pos c12).symm.trans hf
    obtain ⟨v13, ev13⟩ : ∃ y : Int32, y = (a1 + (1 : Int32)) := ⟨_, rfl⟩
    have hf := lt_eq hf ev13
    refine lv_iinc (v := v13) (lv' := [(1, .int v13), (0, .ref (q 0))]) hx hb dX5_writesJson_239 hl (k := 1) rfl (by rw [ev13]; rfl) (by decide) rfl (fun ls hl => ?_)
    refine lv_goto (tgt := 12) hx hb dX5_writesJson_242 (by decide) ?_
    exact W.eq (g2 := F0 m 12 ls []) rfl (hk12 _ _ _ _ _ (lv_sub hl [1, 0] rfl) hP hD hS hf)
  · have hf := (if_neg c12).symm.trans hf
    refine lv_aload_n hx hb dX5_writesJson_181 rfl (lv_at hl 0 rfl) ?_
    refine gm_X5_openLeft G hP dX5_writesJson_182 ?_
    refine lv_aload_n hx hb dX5_writesJson_185 rfl (lv_at hl 0 rfl) ?_
    refine gm_X5_open (v := (mf_open σ)) G hP dX5_writesJson_186 rfl ?_
    refine lv_iconst (v := (1 : Int32)) hx hb dX5_writesJson_189 (by decide) ?_
    refine lv_isub hx hb dX5_writesJson_190 ?_
    obtain ⟨hi14, hf⟩ := ck_some hf
    refine lm_openLeft (f := (mf_openLeft σ)) G hP hi14 dX5_writesJson_191 rfl ?_
    refine lv_lconst (v := (0 : Int64)) hx hb dX5_writesJson_192 (by decide) ?_
    refine W.lcmp hx hb dX5_writesJson_193 ?_
    refine lv_if_ne (tgt := 239) hx hb dX5_writesJson_194 (by decide) (fun c15 => ?_) (fun c15 => ?_)
    · have hf := (if_neg (fun z => c15 ((lg_cmp_eq _ _).mpr z))).symm.trans hf
      obtain ⟨v16, ev16⟩ : ∃ y : Int32, y = (a1 + (1 : Int32)) := ⟨_, rfl⟩
      have hf := lt_eq hf ev16
      refine lv_iinc (v := v16) (lv' := [(1, .int v16), (0, .ref (q 0))]) hx hb dX5_writesJson_239 hl (k := 1) rfl (by rw [ev16]; rfl) (by decide) rfl (fun ls hl => ?_)
      refine lv_goto (tgt := 12) hx hb dX5_writesJson_242 (by decide) ?_
      exact W.eq (g2 := F0 m 12 ls []) rfl (hk12 _ _ _ _ _ (lv_sub hl [1, 0] rfl) hP hD hS hf)
    · have hf := (if_pos ((lg_cmp_eq _ _).mp c15)).symm.trans hf
      refine lv_aload_n hx hb dX5_writesJson_197 rfl (lv_at hl 0 rfl) ?_
      refine lv_dup hx hb dX5_writesJson_198 rfl ?_
      refine gm_X5_open (v := (mf_open σ)) G hP dX5_writesJson_199 rfl ?_
      refine lv_iconst (v := (1 : Int32)) hx hb dX5_writesJson_202 (by decide) ?_
      refine lv_isub hx hb dX5_writesJson_203 ?_
      refine pm_X5_open (v := ((mf_open σ) - (1 : Int32))) G hP hD hS dX5_writesJson_204 (fun H locs hP hD hS => ?_)
      refine lv_aload_n hx hb dX5_writesJson_207 rfl (lv_at hl 0 rfl) ?_
      refine lv_aload_n hx hb dX5_writesJson_208 rfl (lv_at hl 0 rfl) ?_
      refine gm_X5_sorts G hP dX5_writesJson_209 ?_
      refine lv_aload_n hx hb dX5_writesJson_212 rfl (lv_at hl 0 rfl) ?_
      refine gm_X5_openThing G hP dX5_writesJson_213 ?_
      refine lv_aload_n hx hb dX5_writesJson_216 rfl (lv_at hl 0 rfl) ?_
      refine gm_X5_open (v := ((mf_open σ) - (1 : Int32))) G hP dX5_writesJson_217 (mG_open_open _ _) ?_
      obtain ⟨hi17, hf⟩ := ck_some hf
      refine lm_openThing (f := (mf_openThing σ)) G hP hi17 dX5_writesJson_220 (mG_openThing_open _ _) ?_
      obtain ⟨hi18, hf⟩ := ck_some hf
      refine lm_sorts (f := (mf_sorts σ)) G hP hi18 dX5_writesJson_221 (mG_sorts_open _ _) ?_
      refine lv_iconst (v := (5 : Int32)) hx hb dX5_writesJson_222 (by decide) ?_
      refine lv_icmp_ne (tgt := 231) hx hb dX5_writesJson_223 (by decide) (fun c19 => ?_) (fun c19 => ?_)
      · have hf := (if_neg c19).symm.trans hf
        refine lv_bipush (v := (93 : Int32)) hx hb dX5_writesJson_231 (by decide) ?_
        exact W.eq (g2 := F0 m 233 ls [.int (93 : Int32), .ref (q 0)]) rfl (mm_writesJson_t233 G hk12 hk174 (lv_sub hl [0, 1] rfl) hP hD hS hf)
      · have hf := (if_pos c19).symm.trans hf
        refine lv_bipush (v := (125 : Int32)) hx hb dX5_writesJson_226 (by decide) ?_
        refine lv_goto (tgt := 233) hx hb dX5_writesJson_228 (by decide) ?_
        exact W.eq (g2 := F0 m 233 ls [.int (125 : Int32), .ref (q 0)]) rfl (mm_writesJson_t233 G hk12 hk174 (lv_sub hl [0, 1] rfl) hP hD hS hf)
set_option maxHeartbeats 4000000 in
set_option maxRecDepth 100000 in
theorem mm_writesJson_u174 {p : Program} {l : Launch} {e : Env} {s : State} {m : MethodId} {args : Array Value} {below : List Frame} {meth : Method} {c : Code} {D : va_G} {aK aV : Nat → Nat} {A : Nat → Prop} {cB cI cJ : ClassId} {q : Nat → Nat} {ρ : Int32 × MSt} {k12 : Int32 → MSt → Option (Int32 × MSt)} (G : CX p s m args meth c D (gTy cB cI cJ) aK aV A RX5 cX5_writesJson 6 (some .int)) (hk12 : ∀ (a1 : Int32) (σ : MSt) (H : Heap) (locs : List Loc) (ls : Array Slot), lv_has ls 6 [(0, .ref (q 0)), (1, .int a1)] → va_P D vwCl (mW cB cI cJ q σ) H → va_D A (mW cB cI cJ q σ) → va_S A s.heap H locs → k12 a1 σ = some ρ → W p l e (rm_mm_writesJson) s m args below meth c H locs 0 0 (MQ below (cQ D (gTy cB cI cJ) A (mW cB cI cJ q ρ.2) (some (.int ρ.1))) args s 0 0 A) (F0 m 12 ls [])) : ∀ (n : Nat) {a1 : Int32} {σ : MSt} {H : Heap} {locs : List Loc} {ls : Array Slot} (hl : lv_has ls 6 [(0, .ref (q 0)), (1, .int a1)]) (hP : va_P D vwCl (mW cB cI cJ q σ) H) (hD : va_D A (mW cB cI cJ q σ)) (hS : va_S A s.heap H locs) (hf : mm_writesJson_L174 k12 n a1 σ = some ρ), W p l e (rm_mm_writesJson) s m args below meth c H locs 0 0 (MQ below (cQ D (gTy cB cI cJ) A (mW cB cI cJ q ρ.2) (some (.int ρ.1))) args s 0 0 A) (F0 m 174 ls []) := by
  intro n
  induction n with
  | zero =>
    intros
    rename_i hf
    cases hf
  | succ n ih =>
    intro a1 σ H locs ls hl hP hD hS hf
    exact mm_writesJson_t174 G hk12 (fun _ _ H locs ls hl hP hD hS hf => ih hl hP hD hS hf) hl hP hD hS hf
set_option maxHeartbeats 4000000 in
set_option maxRecDepth 100000 in
theorem mm_writesJson_t169 {p : Program} {l : Launch} {e : Env} {s : State} {m : MethodId} {args : Array Value} {below : List Frame} {meth : Method} {c : Code} {D : va_G} {aK aV : Nat → Nat} {A : Nat → Prop} {cB cI cJ : ClassId} {q : Nat → Nat} {H : Heap} {locs : List Loc} {ls : Array Slot} {ρ : Int32 × MSt} {k12 : Int32 → MSt → Option (Int32 × MSt)} {a1 : Int32} {σ : MSt} (G : CX p s m args meth c D (gTy cB cI cJ) aK aV A RX5 cX5_writesJson 6 (some .int)) (hk12 : ∀ (a1 : Int32) (σ : MSt) (H : Heap) (locs : List Loc) (ls : Array Slot), lv_has ls 6 [(0, .ref (q 0)), (1, .int a1)] → va_P D vwCl (mW cB cI cJ q σ) H → va_D A (mW cB cI cJ q σ) → va_S A s.heap H locs → k12 a1 σ = some ρ → W p l e (rm_mm_writesJson) s m args below meth c H locs 0 0 (MQ below (cQ D (gTy cB cI cJ) A (mW cB cI cJ q ρ.2) (some (.int ρ.1))) args s 0 0 A) (F0 m 12 ls [])) (hl : lv_has ls 6 [(0, .ref (q 0)), (1, .int a1)]) (hP : va_P D vwCl (mW cB cI cJ q σ) H) (hD : va_D A (mW cB cI cJ q σ)) (hS : va_S A s.heap H locs) (hf : mm_writesJson_b169 k12 a1 σ = some ρ) : W p l e (rm_mm_writesJson) s m args below meth c H locs 0 0 (MQ below (cQ D (gTy cB cI cJ) A (mW cB cI cJ q ρ.2) (some (.int ρ.1))) args s 0 0 A) (F0 m 169 ls []) := by
  unfold mm_writesJson_b169 at hf
  obtain ⟨hx, hb, hml, hown, hT, hrt, hlk, hK, hA, hG, hE⟩ := id G
  refine lv_aload_n hx hb dX5_writesJson_169 rfl (lv_at hl 0 rfl) ?_
  refine lv_iload_n hx hb dX5_writesJson_170 rfl (lv_at hl 1 rfl) ?_
  obtain ⟨x8, hx8, hf⟩ := bd_some hf
  refine vM (As := [.int a1]) (rest := []) G kX5_256 (c_mm_putsThing hx8) hP hD hS ⟨rfl, rfl, Nat.le_of_ble_eq_true rfl, Nat.le_of_ble_eq_true rfl⟩ ⟨Nat.zero_le _, Nat.zero_le _⟩ rfl hl.1 (Nat.le_of_ble_eq_true rfl) dX5_writesJson_171 (fun H locs hP hD hS => ?_)
  refine W.eq (g2 := F0 m 174 ls []) rfl ?_
  exact W.eq (g2 := F0 m 174 ls []) rfl (mm_writesJson_u174 G hk12 FU (lv_sub hl [0, 1] rfl) hP hD hS hf)
set_option maxHeartbeats 4000000 in
set_option maxRecDepth 100000 in
theorem mm_writesJson_t154 {p : Program} {l : Launch} {e : Env} {s : State} {m : MethodId} {args : Array Value} {below : List Frame} {meth : Method} {c : Code} {D : va_G} {aK aV : Nat → Nat} {A : Nat → Prop} {cB cI cJ : ClassId} {q : Nat → Nat} {H : Heap} {locs : List Loc} {ls : Array Slot} {ρ : Int32 × MSt} {k12 : Int32 → MSt → Option (Int32 × MSt)} {a1 : Int32} {σ : MSt} (G : CX p s m args meth c D (gTy cB cI cJ) aK aV A RX5 cX5_writesJson 6 (some .int)) (hk12 : ∀ (a1 : Int32) (σ : MSt) (H : Heap) (locs : List Loc) (ls : Array Slot), lv_has ls 6 [(0, .ref (q 0)), (1, .int a1)] → va_P D vwCl (mW cB cI cJ q σ) H → va_D A (mW cB cI cJ q σ) → va_S A s.heap H locs → k12 a1 σ = some ρ → W p l e (rm_mm_writesJson) s m args below meth c H locs 0 0 (MQ below (cQ D (gTy cB cI cJ) A (mW cB cI cJ q ρ.2) (some (.int ρ.1))) args s 0 0 A) (F0 m 12 ls [])) (hl : lv_has ls 6 [(0, .ref (q 0)), (1, .int a1)]) (hP : va_P D vwCl (mW cB cI cJ q σ) H) (hD : va_D A (mW cB cI cJ q σ)) (hS : va_S A s.heap H locs) (hf : mm_writesJson_b154 k12 a1 σ = some ρ) : W p l e (rm_mm_writesJson) s m args below meth c H locs 0 0 (MQ below (cQ D (gTy cB cI cJ) A (mW cB cI cJ q ρ.2) (some (.int ρ.1))) args s 0 0 A) (F0 m 154 ls []) := by
  unfold mm_writesJson_b154 at hf
  obtain ⟨hx, hb, hml, hown, hT, hrt, hlk, hK, hA, hG, hE⟩ := id G
  refine lv_aload_n hx hb dX5_writesJson_154 rfl (lv_at hl 0 rfl) ?_
  refine gm_X5_openLeft G hP dX5_writesJson_155 ?_
  refine lv_aload_n hx hb dX5_writesJson_158 rfl (lv_at hl 0 rfl) ?_
  refine gm_X5_open (v := (mf_open σ)) G hP dX5_writesJson_159 rfl ?_
  refine lv_iconst (v := (1 : Int32)) hx hb dX5_writesJson_162 (by decide) ?_
  refine lv_isub hx hb dX5_writesJson_163 ?_
  refine lv_dup2_11 hx hb dX5_writesJson_164 rfl rfl ?_
  obtain ⟨hi30, hf⟩ := ck_some hf
  refine lm_openLeft (f := (mf_openLeft σ)) G hP hi30 dX5_writesJson_165 rfl ?_
  refine lv_lconst (v := (1 : Int64)) hx hb dX5_writesJson_166 (by decide) ?_
  refine lv_lsub hx hb dX5_writesJson_167 ?_
  obtain ⟨hi31, hf⟩ := ck_some hf
  refine sm_openLeft (f := (mf_openLeft σ)) G hP hD hS hi31 dX5_writesJson_168 rfl (fun H locs hP hD hS => ?_)
  exact W.eq (g2 := F0 m 169 ls []) rfl (mm_writesJson_t169 G hk12 (lv_sub hl [0, 1] rfl) hP hD hS hf)
set_option maxHeartbeats 4000000 in
set_option maxRecDepth 100000 in
theorem mm_writesJson_t127 {p : Program} {l : Launch} {e : Env} {s : State} {m : MethodId} {args : Array Value} {below : List Frame} {meth : Method} {c : Code} {D : va_G} {aK aV : Nat → Nat} {A : Nat → Prop} {cB cI cJ : ClassId} {q : Nat → Nat} {H : Heap} {locs : List Loc} {ls : Array Slot} {ρ : Int32 × MSt} {k12 : Int32 → MSt → Option (Int32 × MSt)} {a1 : Int32} {a4 : Int32} {s0 : Int32} {σ : MSt} (G : CX p s m args meth c D (gTy cB cI cJ) aK aV A RX5 cX5_writesJson 6 (some .int)) (hk12 : ∀ (a1 : Int32) (σ : MSt) (H : Heap) (locs : List Loc) (ls : Array Slot), lv_has ls 6 [(0, .ref (q 0)), (1, .int a1)] → va_P D vwCl (mW cB cI cJ q σ) H → va_D A (mW cB cI cJ q σ) → va_S A s.heap H locs → k12 a1 σ = some ρ → W p l e (rm_mm_writesJson) s m args below meth c H locs 0 0 (MQ below (cQ D (gTy cB cI cJ) A (mW cB cI cJ q ρ.2) (some (.int ρ.1))) args s 0 0 A) (F0 m 12 ls [])) (hl : lv_has ls 6 [(0, .ref (q 0)), (1, .int a1), (4, .int a4)]) (hP : va_P D vwCl (mW cB cI cJ q σ) H) (hD : va_D A (mW cB cI cJ q σ)) (hS : va_S A s.heap H locs) (hf : mm_writesJson_b127 k12 a1 a4 s0 σ = some ρ) : W p l e (rm_mm_writesJson) s m args below meth c H locs 0 0 (MQ below (cQ D (gTy cB cI cJ) A (mW cB cI cJ q ρ.2) (some (.int ρ.1))) args s 0 0 A) (F0 m 127 ls [.int s0]) := by
  unfold mm_writesJson_b127 at hf
  obtain ⟨hx, hb, hml, hown, hT, hrt, hlk, hK, hA, hG, hE⟩ := id G
  refine lv_istore (lv' := [(5, .int s0), (0, .ref (q 0)), (1, .int a1), (4, .int a4)]) hx hb dX5_writesJson_127 hl (by decide) rfl (fun ls hl => ?_)
  refine lv_iload hx hb dX5_writesJson_129 (lv_at hl 3 rfl) ?_
  refine lv_if_eq (tgt := 143) hx hb dX5_writesJson_131 (by decide) (fun c26 => ?_) (fun c26 => ?_)
  · have hf := (if_pos c26).symm.trans hf
    refine lv_iload hx hb dX5_writesJson_143 (lv_at hl 0 rfl) ?_
    refine lv_if_ne (tgt := 154) hx hb dX5_writesJson_145 (by decide) (fun c27 => ?_) (fun c27 => ?_)
    · have hf := (if_neg c27).symm.trans hf
      exact W.eq (g2 := F0 m 154 ls []) rfl (mm_writesJson_t154 G hk12 (lv_sub hl [1, 2] rfl) hP hD hS hf)
    · have hf := (if_pos c27).symm.trans hf
      refine lv_aload_n hx hb dX5_writesJson_148 rfl (lv_at hl 1 rfl) ?_
      refine lv_bipush (v := (44 : Int32)) hx hb dX5_writesJson_149 (by decide) ?_
      obtain ⟨x28, hx28, hf⟩ := bd_some hf
      refine vM (As := [.int (44 : Int32)]) (rest := []) G kX5_219 (c_mm_put hx28) hP hD hS ⟨rfl, rfl, Nat.le_of_ble_eq_true rfl, Nat.le_of_ble_eq_true rfl⟩ ⟨Nat.zero_le _, Nat.zero_le _⟩ rfl hl.1 (Nat.le_of_ble_eq_true rfl) dX5_writesJson_151 (fun H locs hP hD hS => ?_)
      refine W.eq (g2 := F0 m 154 ls []) rfl ?_
      exact W.eq (g2 := F0 m 154 ls []) rfl (mm_writesJson_t154 G hk12 (lv_sub hl [1, 2] rfl) hP hD hS hf)
  · have hf := (if_neg c26).symm.trans hf
    refine lv_aload_n hx hb dX5_writesJson_134 rfl (lv_at hl 1 rfl) ?_
    refine lv_bipush (v := (58 : Int32)) hx hb dX5_writesJson_135 (by decide) ?_
    obtain ⟨x29, hx29, hf⟩ := bd_some hf
    refine vM (As := [.int (58 : Int32)]) (rest := []) G kX5_219 (c_mm_put hx29) hP hD hS ⟨rfl, rfl, Nat.le_of_ble_eq_true rfl, Nat.le_of_ble_eq_true rfl⟩ ⟨Nat.zero_le _, Nat.zero_le _⟩ rfl hl.1 (Nat.le_of_ble_eq_true rfl) dX5_writesJson_137 (fun H locs hP hD hS => ?_)
    refine W.eq (g2 := F0 m 140 ls []) rfl ?_
    refine lv_goto (tgt := 154) hx hb dX5_writesJson_140 (by decide) ?_
    exact W.eq (g2 := F0 m 154 ls []) rfl (mm_writesJson_t154 G hk12 (lv_sub hl [1, 2] rfl) hP hD hS hf)
set_option maxHeartbeats 4000000 in
set_option maxRecDepth 100000 in
theorem mm_writesJson_t118 {p : Program} {l : Launch} {e : Env} {s : State} {m : MethodId} {args : Array Value} {below : List Frame} {meth : Method} {c : Code} {D : va_G} {aK aV : Nat → Nat} {A : Nat → Prop} {cB cI cJ : ClassId} {q : Nat → Nat} {H : Heap} {locs : List Loc} {ls : Array Slot} {ρ : Int32 × MSt} {k12 : Int32 → MSt → Option (Int32 × MSt)} {a1 : Int32} {a4 : Int32} {s0 : Int64} {s1 : Int64} {σ : MSt} (G : CX p s m args meth c D (gTy cB cI cJ) aK aV A RX5 cX5_writesJson 6 (some .int)) (hk12 : ∀ (a1 : Int32) (σ : MSt) (H : Heap) (locs : List Loc) (ls : Array Slot), lv_has ls 6 [(0, .ref (q 0)), (1, .int a1)] → va_P D vwCl (mW cB cI cJ q σ) H → va_D A (mW cB cI cJ q σ) → va_S A s.heap H locs → k12 a1 σ = some ρ → W p l e (rm_mm_writesJson) s m args below meth c H locs 0 0 (MQ below (cQ D (gTy cB cI cJ) A (mW cB cI cJ q ρ.2) (some (.int ρ.1))) args s 0 0 A) (F0 m 12 ls [])) (hl : lv_has ls 6 [(0, .ref (q 0)), (1, .int a1), (4, .int a4)]) (hP : va_P D vwCl (mW cB cI cJ q σ) H) (hD : va_D A (mW cB cI cJ q σ)) (hS : va_S A s.heap H locs) (hf : mm_writesJson_b118 k12 a1 a4 s0 s1 σ = some ρ) : W p l e (rm_mm_writesJson) s m args below meth c H locs 0 0 (MQ below (cQ D (gTy cB cI cJ) A (mW cB cI cJ q ρ.2) (some (.int ρ.1))) args s 0 0 A) (F0 m 118 ls [.long s0, .long s1]) := by
  unfold mm_writesJson_b118 at hf
  obtain ⟨hx, hb, hml, hown, hT, hrt, hlk, hK, hA, hG, hE⟩ := id G
  refine W.lcmp hx hb dX5_writesJson_118 ?_
  refine lv_if_ne (tgt := 126) hx hb dX5_writesJson_119 (by decide) (fun c25 => ?_) (fun c25 => ?_)
  · have hf := (if_neg (fun z => c25 ((lg_cmp_eq _ _).mpr z))).symm.trans hf
    refine lv_iconst (v := (0 : Int32)) hx hb dX5_writesJson_126 (by decide) ?_
    exact W.eq (g2 := F0 m 127 ls [.int (0 : Int32)]) rfl (mm_writesJson_t127 G hk12 (lv_sub hl [0, 1, 2] rfl) hP hD hS hf)
  · have hf := (if_pos ((lg_cmp_eq _ _).mp c25)).symm.trans hf
    refine lv_iconst (v := (1 : Int32)) hx hb dX5_writesJson_122 (by decide) ?_
    refine lv_goto (tgt := 127) hx hb dX5_writesJson_123 (by decide) ?_
    exact W.eq (g2 := F0 m 127 ls [.int (1 : Int32)]) rfl (mm_writesJson_t127 G hk12 (lv_sub hl [0, 1, 2] rfl) hP hD hS hf)
set_option maxHeartbeats 4000000 in
set_option maxRecDepth 100000 in
theorem mm_writesJson_t82 {p : Program} {l : Launch} {e : Env} {s : State} {m : MethodId} {args : Array Value} {below : List Frame} {meth : Method} {c : Code} {D : va_G} {aK aV : Nat → Nat} {A : Nat → Prop} {cB cI cJ : ClassId} {q : Nat → Nat} {H : Heap} {locs : List Loc} {ls : Array Slot} {ρ : Int32 × MSt} {k12 : Int32 → MSt → Option (Int32 × MSt)} {a1 : Int32} {a2 : Int32} {a3 : Int32} {s0 : Int32} {σ : MSt} (G : CX p s m args meth c D (gTy cB cI cJ) aK aV A RX5 cX5_writesJson 6 (some .int)) (hk12 : ∀ (a1 : Int32) (σ : MSt) (H : Heap) (locs : List Loc) (ls : Array Slot), lv_has ls 6 [(0, .ref (q 0)), (1, .int a1)] → va_P D vwCl (mW cB cI cJ q σ) H → va_D A (mW cB cI cJ q σ) → va_S A s.heap H locs → k12 a1 σ = some ρ → W p l e (rm_mm_writesJson) s m args below meth c H locs 0 0 (MQ below (cQ D (gTy cB cI cJ) A (mW cB cI cJ q ρ.2) (some (.int ρ.1))) args s 0 0 A) (F0 m 12 ls [])) (hl : lv_has ls 6 [(0, .ref (q 0)), (1, .int a1), (2, .int a2), (3, .int a3)]) (hP : va_P D vwCl (mW cB cI cJ q σ) H) (hD : va_D A (mW cB cI cJ q σ)) (hS : va_S A s.heap H locs) (hf : mm_writesJson_b82 k12 a1 a2 a3 s0 σ = some ρ) : W p l e (rm_mm_writesJson) s m args below meth c H locs 0 0 (MQ below (cQ D (gTy cB cI cJ) A (mW cB cI cJ q ρ.2) (some (.int ρ.1))) args s 0 0 A) (F0 m 82 ls [.int s0]) := by
  unfold mm_writesJson_b82 at hf
  obtain ⟨hx, hb, hml, hown, hT, hrt, hlk, hK, hA, hG, hE⟩ := id G
  refine lv_istore (lv' := [(4, .int s0), (0, .ref (q 0)), (1, .int a1), (2, .int a2), (3, .int a3)]) hx hb dX5_writesJson_82 hl (by decide) rfl (fun ls hl => ?_)
  refine lv_aload_n hx hb dX5_writesJson_84 rfl (lv_at hl 1 rfl) ?_
  refine gm_X5_openLeft G hP dX5_writesJson_85 ?_
  refine lv_aload_n hx hb dX5_writesJson_88 rfl (lv_at hl 1 rfl) ?_
  refine gm_X5_open (v := (mf_open σ)) G hP dX5_writesJson_89 rfl ?_
  refine lv_iconst (v := (1 : Int32)) hx hb dX5_writesJson_92 (by decide) ?_
  refine lv_isub hx hb dX5_writesJson_93 ?_
  obtain ⟨hi20, hf⟩ := ck_some hf
  refine lm_openLeft (f := (mf_openLeft σ)) G hP hi20 dX5_writesJson_94 rfl ?_
  refine lv_iload_n hx hb dX5_writesJson_95 rfl (lv_at hl 4 rfl) ?_
  refine lv_if_eq (tgt := 112) hx hb dX5_writesJson_96 (by decide) (fun c21 => ?_) (fun c21 => ?_)
  · have hf := (if_pos c21).symm.trans hf
    refine lv_aload_n hx hb dX5_writesJson_112 rfl (lv_at hl 1 rfl) ?_
    refine gm_X5_numbers G hP dX5_writesJson_113 ?_
    refine lv_iload_n hx hb dX5_writesJson_116 rfl (lv_at hl 3 rfl) ?_
    obtain ⟨hi22, hf⟩ := ck_some hf
    refine lm_numbers (f := (mf_numbers σ)) G hP hi22 dX5_writesJson_117 rfl ?_
    exact W.eq (g2 := F0 m 118 ls [.long ((mf_numbers σ) (a2).toNatClampNeg), .long ((mf_openLeft σ) (((mf_open σ) - (1 : Int32))).toNatClampNeg)]) rfl (mm_writesJson_t118 G hk12 (lv_sub hl [1, 2, 0] rfl) hP hD hS hf)
  · have hf := (if_neg c21).symm.trans hf
    refine lv_ldc2 (v := (2 : Int64)) hx hb hown (hT _ wc_X5_210) dX5_writesJson_99 ?_
    refine lv_aload_n hx hb dX5_writesJson_102 rfl (lv_at hl 1 rfl) ?_
    refine gm_X5_numbers G hP dX5_writesJson_103 ?_
    refine lv_iload_n hx hb dX5_writesJson_106 rfl (lv_at hl 3 rfl) ?_
    obtain ⟨hi23, hf⟩ := ck_some hf
    refine lm_numbers (f := (mf_numbers σ)) G hP hi23 dX5_writesJson_107 rfl ?_
    refine lv_lmul hx hb dX5_writesJson_108 ?_
    refine lv_goto (tgt := 118) hx hb dX5_writesJson_109 (by decide) ?_
    exact W.eq (g2 := F0 m 118 ls [.long ((2 : Int64) * ((mf_numbers σ) (a2).toNatClampNeg)), .long ((mf_openLeft σ) (((mf_open σ) - (1 : Int32))).toNatClampNeg)]) rfl (mm_writesJson_t118 G hk12 (lv_sub hl [1, 2, 0] rfl) hP hD hS hf)
set_option maxHeartbeats 4000000 in
set_option maxRecDepth 100000 in
theorem mm_writesJson_t54 {p : Program} {l : Launch} {e : Env} {s : State} {m : MethodId} {args : Array Value} {below : List Frame} {meth : Method} {c : Code} {D : va_G} {aK aV : Nat → Nat} {A : Nat → Prop} {cB cI cJ : ClassId} {q : Nat → Nat} {H : Heap} {locs : List Loc} {ls : Array Slot} {ρ : Int32 × MSt} {k12 : Int32 → MSt → Option (Int32 × MSt)} {a1 : Int32} {a2 : Int32} {s0 : Int32} {σ : MSt} (G : CX p s m args meth c D (gTy cB cI cJ) aK aV A RX5 cX5_writesJson 6 (some .int)) (hk12 : ∀ (a1 : Int32) (σ : MSt) (H : Heap) (locs : List Loc) (ls : Array Slot), lv_has ls 6 [(0, .ref (q 0)), (1, .int a1)] → va_P D vwCl (mW cB cI cJ q σ) H → va_D A (mW cB cI cJ q σ) → va_S A s.heap H locs → k12 a1 σ = some ρ → W p l e (rm_mm_writesJson) s m args below meth c H locs 0 0 (MQ below (cQ D (gTy cB cI cJ) A (mW cB cI cJ q ρ.2) (some (.int ρ.1))) args s 0 0 A) (F0 m 12 ls [])) (hl : lv_has ls 6 [(0, .ref (q 0)), (1, .int a1), (2, .int a2)]) (hP : va_P D vwCl (mW cB cI cJ q σ) H) (hD : va_D A (mW cB cI cJ q σ)) (hS : va_S A s.heap H locs) (hf : mm_writesJson_b54 k12 a1 a2 s0 σ = some ρ) : W p l e (rm_mm_writesJson) s m args below meth c H locs 0 0 (MQ below (cQ D (gTy cB cI cJ) A (mW cB cI cJ q ρ.2) (some (.int ρ.1))) args s 0 0 A) (F0 m 54 ls [.int s0]) := by
  unfold mm_writesJson_b54 at hf
  obtain ⟨hx, hb, hml, hown, hT, hrt, hlk, hK, hA, hG, hE⟩ := id G
  refine lv_istore_n (lv' := [(3, .int s0), (0, .ref (q 0)), (1, .int a1), (2, .int a2)]) hx hb dX5_writesJson_54 rfl hl (by decide) rfl (fun ls hl => ?_)
  refine lv_iload_n hx hb dX5_writesJson_55 rfl (lv_at hl 0 rfl) ?_
  refine lv_if_eq (tgt := 81) hx hb dX5_writesJson_56 (by decide) (fun c9 => ?_) (fun c9 => ?_)
  · have hf := (if_pos c9).symm.trans hf
    refine lv_iconst (v := (0 : Int32)) hx hb dX5_writesJson_81 (by decide) ?_
    exact W.eq (g2 := F0 m 82 ls [.int (0 : Int32)]) rfl (mm_writesJson_t82 G hk12 (lv_sub hl [1, 2, 3, 0] rfl) hP hD hS hf)
  · have hf := (if_neg c9).symm.trans hf
    refine lv_aload_n hx hb dX5_writesJson_59 rfl (lv_at hl 1 rfl) ?_
    refine gm_X5_openLeft G hP dX5_writesJson_60 ?_
    refine lv_aload_n hx hb dX5_writesJson_63 rfl (lv_at hl 1 rfl) ?_
    refine gm_X5_open (v := (mf_open σ)) G hP dX5_writesJson_64 rfl ?_
    refine lv_iconst (v := (1 : Int32)) hx hb dX5_writesJson_67 (by decide) ?_
    refine lv_isub hx hb dX5_writesJson_68 ?_
    obtain ⟨hi10, hf⟩ := ck_some hf
    refine lm_openLeft (f := (mf_openLeft σ)) G hP hi10 dX5_writesJson_69 rfl ?_
    refine lv_lconst (v := (1 : Int64)) hx hb dX5_writesJson_70 (by decide) ?_
    refine lv_land hx hb dX5_writesJson_71 ?_
    refine lv_lconst (v := (1 : Int64)) hx hb dX5_writesJson_72 (by decide) ?_
    refine W.lcmp hx hb dX5_writesJson_73 ?_
    refine lv_if_ne (tgt := 81) hx hb dX5_writesJson_74 (by decide) (fun c11 => ?_) (fun c11 => ?_)
    · have hf := (if_neg (fun z => c11 ((lg_cmp_eq _ _).mpr z))).symm.trans hf
      refine lv_iconst (v := (0 : Int32)) hx hb dX5_writesJson_81 (by decide) ?_
      exact W.eq (g2 := F0 m 82 ls [.int (0 : Int32)]) rfl (mm_writesJson_t82 G hk12 (lv_sub hl [1, 2, 3, 0] rfl) hP hD hS hf)
    · have hf := (if_pos ((lg_cmp_eq _ _).mp c11)).symm.trans hf
      refine lv_iconst (v := (1 : Int32)) hx hb dX5_writesJson_77 (by decide) ?_
      refine lv_goto (tgt := 82) hx hb dX5_writesJson_78 (by decide) ?_
      exact W.eq (g2 := F0 m 82 ls [.int (1 : Int32)]) rfl (mm_writesJson_t82 G hk12 (lv_sub hl [1, 2, 3, 0] rfl) hP hD hS hf)
set_option maxHeartbeats 4000000 in
set_option maxRecDepth 100000 in
theorem mm_writesJson_t12 {p : Program} {l : Launch} {e : Env} {s : State} {m : MethodId} {args : Array Value} {below : List Frame} {meth : Method} {c : Code} {D : va_G} {aK aV : Nat → Nat} {A : Nat → Prop} {cB cI cJ : ClassId} {q : Nat → Nat} {H : Heap} {locs : List Loc} {ls : Array Slot} {ρ : Int32 × MSt} {k12 : Int32 → MSt → Option (Int32 × MSt)} {a1 : Int32} {σ : MSt} (G : CX p s m args meth c D (gTy cB cI cJ) aK aV A RX5 cX5_writesJson 6 (some .int)) (hk12 : ∀ (a1 : Int32) (σ : MSt) (H : Heap) (locs : List Loc) (ls : Array Slot), lv_has ls 6 [(0, .ref (q 0)), (1, .int a1)] → va_P D vwCl (mW cB cI cJ q σ) H → va_D A (mW cB cI cJ q σ) → va_S A s.heap H locs → k12 a1 σ = some ρ → W p l e (rm_mm_writesJson) s m args below meth c H locs 0 0 (MQ below (cQ D (gTy cB cI cJ) A (mW cB cI cJ q ρ.2) (some (.int ρ.1))) args s 0 0 A) (F0 m 12 ls [])) (hl : lv_has ls 6 [(0, .ref (q 0)), (1, .int a1)]) (hP : va_P D vwCl (mW cB cI cJ q σ) H) (hD : va_D A (mW cB cI cJ q σ)) (hS : va_S A s.heap H locs) (hf : mm_writesJson_b12 k12 a1 σ = some ρ) : W p l e (rm_mm_writesJson) s m args below meth c H locs 0 0 (MQ below (cQ D (gTy cB cI cJ) A (mW cB cI cJ q ρ.2) (some (.int ρ.1))) args s 0 0 A) (F0 m 12 ls []) := by
  unfold mm_writesJson_b12 at hf
  obtain ⟨hx, hb, hml, hown, hT, hrt, hlk, hK, hA, hG, hE⟩ := id G
  refine lv_iload_n hx hb dX5_writesJson_12 rfl (lv_at hl 1 rfl) ?_
  refine lv_aload_n hx hb dX5_writesJson_13 rfl (lv_at hl 0 rfl) ?_
  refine gm_X5_things (v := (mf_things σ)) G hP dX5_writesJson_14 rfl ?_
  refine lv_icmp_ge (tgt := 245) hx hb dX5_writesJson_17 (by decide) (fun c1 => ?_) (fun c1 => ?_)
  · have hf := (if_pos c1).symm.trans hf
    refine lv_aload_n hx hb dX5_writesJson_245 rfl (lv_at hl 0 rfl) ?_
    obtain ⟨x2, hx2, hf⟩ := bd_some hf
    refine vM (As := []) (rest := []) G kX5_229 (c_mm_ends hx2) hP hD hS ⟨rfl, rfl, Nat.le_of_ble_eq_true rfl, Nat.le_of_ble_eq_true rfl⟩ ⟨Nat.zero_le _, Nat.zero_le _⟩ rfl hl.1 (Nat.le_of_ble_eq_true rfl) dX5_writesJson_246 (fun H locs hP hD hS => ?_)
    refine W.eq (g2 := F0 m 249 ls [.int x2.1]) rfl ?_
    cases hf
    exact ct_iret G rfl hP hD hS dX5_writesJson_249
  · have hf := (if_neg c1).symm.trans hf
    refine lv_aload_n hx hb dX5_writesJson_20 rfl (lv_at hl 0 rfl) ?_
    refine gm_X5_open (v := (mf_open σ)) G hP dX5_writesJson_21 rfl ?_
    refine lv_if_le (tgt := 169) hx hb dX5_writesJson_24 (by decide) (fun c3 => ?_) (fun c3 => ?_)
    · have hf := (if_pos c3).symm.trans hf
      exact W.eq (g2 := F0 m 169 ls []) rfl (mm_writesJson_t169 G hk12 (lv_sub hl [0, 1] rfl) hP hD hS hf)
    · have hf := (if_neg c3).symm.trans hf
      refine lv_aload_n hx hb dX5_writesJson_27 rfl (lv_at hl 0 rfl) ?_
      refine gm_X5_openThing G hP dX5_writesJson_28 ?_
      refine lv_aload_n hx hb dX5_writesJson_31 rfl (lv_at hl 0 rfl) ?_
      refine gm_X5_open (v := (mf_open σ)) G hP dX5_writesJson_32 rfl ?_
      refine lv_iconst (v := (1 : Int32)) hx hb dX5_writesJson_35 (by decide) ?_
      refine lv_isub hx hb dX5_writesJson_36 ?_
      obtain ⟨hi4, hf⟩ := ck_some hf
      refine lm_openThing (f := (mf_openThing σ)) G hP hi4 dX5_writesJson_37 rfl ?_
      refine lv_topi (fun v5 ev5 => ?_)
      have hf := lt_eq hf ev5
      refine lv_istore_n (lv' := [(2, .int v5), (0, .ref (q 0)), (1, .int a1)]) hx hb dX5_writesJson_38 rfl hl (by decide) rfl (fun ls hl => ?_)
      refine lv_aload_n hx hb dX5_writesJson_39 rfl (lv_at hl 1 rfl) ?_
      refine gm_X5_sorts G hP dX5_writesJson_40 ?_
      refine lv_iload_n hx hb dX5_writesJson_43 rfl (lv_at hl 0 rfl) ?_
      obtain ⟨hi6, hf⟩ := ck_some hf
      refine lm_sorts (f := (mf_sorts σ)) G hP hi6 dX5_writesJson_44 rfl ?_
      refine lv_iconst (v := (5 : Int32)) hx hb dX5_writesJson_45 (by decide) ?_
      refine lv_icmp_ne (tgt := 53) hx hb dX5_writesJson_46 (by decide) (fun c7 => ?_) (fun c7 => ?_)
      · have hf := (if_neg c7).symm.trans hf
        refine lv_iconst (v := (0 : Int32)) hx hb dX5_writesJson_53 (by decide) ?_
        exact W.eq (g2 := F0 m 54 ls [.int (0 : Int32)]) rfl (mm_writesJson_t54 G hk12 (lv_sub hl [1, 2, 0] rfl) hP hD hS hf)
      · have hf := (if_pos c7).symm.trans hf
        refine lv_iconst (v := (1 : Int32)) hx hb dX5_writesJson_49 (by decide) ?_
        refine lv_goto (tgt := 54) hx hb dX5_writesJson_50 (by decide) ?_
        exact W.eq (g2 := F0 m 54 ls [.int (1 : Int32)]) rfl (mm_writesJson_t54 G hk12 (lv_sub hl [1, 2, 0] rfl) hP hD hS hf)
set_option maxHeartbeats 4000000 in
set_option maxRecDepth 100000 in
theorem mm_writesJson_u12 {p : Program} {l : Launch} {e : Env} {s : State} {m : MethodId} {args : Array Value} {below : List Frame} {meth : Method} {c : Code} {D : va_G} {aK aV : Nat → Nat} {A : Nat → Prop} {cB cI cJ : ClassId} {q : Nat → Nat} {ρ : Int32 × MSt} (G : CX p s m args meth c D (gTy cB cI cJ) aK aV A RX5 cX5_writesJson 6 (some .int)) : ∀ (n : Nat) {a1 : Int32} {σ : MSt} {H : Heap} {locs : List Loc} {ls : Array Slot} (hl : lv_has ls 6 [(0, .ref (q 0)), (1, .int a1)]) (hP : va_P D vwCl (mW cB cI cJ q σ) H) (hD : va_D A (mW cB cI cJ q σ)) (hS : va_S A s.heap H locs) (hf : mm_writesJson_L12 n a1 σ = some ρ), W p l e (rm_mm_writesJson) s m args below meth c H locs 0 0 (MQ below (cQ D (gTy cB cI cJ) A (mW cB cI cJ q ρ.2) (some (.int ρ.1))) args s 0 0 A) (F0 m 12 ls []) := by
  intro n
  induction n with
  | zero =>
    intros
    rename_i hf
    cases hf
  | succ n ih =>
    intro a1 σ H locs ls hl hP hD hS hf
    exact mm_writesJson_t12 G (fun _ _ H locs ls hl hP hD hS hf => ih hl hP hD hS hf) hl hP hD hS hf
set_option maxHeartbeats 4000000 in
set_option maxRecDepth 100000 in
theorem mm_writesJson_t0e {p : Program} {l : Launch} {e : Env} {s : State} {m : MethodId} {args : Array Value} {below : List Frame} {meth : Method} {c : Code} {D : va_G} {aK aV : Nat → Nat} {A : Nat → Prop} {cB cI cJ : ClassId} {q : Nat → Nat} {H : Heap} {locs : List Loc} {ls : Array Slot} {ρ : Int32 × MSt} {σ : MSt} (G : CX p s m args meth c D (gTy cB cI cJ) aK aV A RX5 cX5_writesJson 6 (some .int)) (hl : lv_has ls 6 [(0, .ref (q 0))]) (hP : va_P D vwCl (mW cB cI cJ q σ) H) (hD : va_D A (mW cB cI cJ q σ)) (hS : va_S A s.heap H locs) (hf : mm_writesJson σ = some ρ) : W p l e (rm_mm_writesJson) s m args below meth c H locs 0 0 (MQ below (cQ D (gTy cB cI cJ) A (mW cB cI cJ q ρ.2) (some (.int ρ.1))) args s 0 0 A) (F0 m 0 ls []) := by
  unfold mm_writesJson at hf
  obtain ⟨hx, hb, hml, hown, hT, hrt, hlk, hK, hA, hG, hE⟩ := id G
  refine lv_aload_n hx hb dX5_writesJson_0 rfl (lv_at hl 0 rfl) ?_
  refine lv_iconst (v := (0 : Int32)) hx hb dX5_writesJson_1 (by decide) ?_
  refine pm_X5_freshMany (v := (0 : Int32)) G hP hD hS dX5_writesJson_2 (fun H locs hP hD hS => ?_)
  refine lv_aload_n hx hb dX5_writesJson_5 rfl (lv_at hl 0 rfl) ?_
  refine lv_iconst (v := (0 : Int32)) hx hb dX5_writesJson_6 (by decide) ?_
  refine pm_X5_open (v := (0 : Int32)) G hP hD hS dX5_writesJson_7 (fun H locs hP hD hS => ?_)
  refine lv_iconst (v := (0 : Int32)) hx hb dX5_writesJson_10 (by decide) ?_
  refine lv_istore_n (lv' := [(1, .int (0 : Int32)), (0, .ref (q 0))]) hx hb dX5_writesJson_11 rfl hl (by decide) rfl (fun ls hl => ?_)
  exact W.eq (g2 := F0 m 12 ls []) rfl (mm_writesJson_u12 G FU (lv_sub hl [1, 0] rfl) hP hD hS hf)
set_option maxHeartbeats 4000000 in
set_option maxRecDepth 100000 in
theorem c_mm_writesJson {l : Launch} {D : va_G} {aK aV : Nat → Nat} {cB cI cJ : ClassId} {q : Nat → Nat} {ρ : Int32 × MSt} {σ : MSt} (hf : mm_writesJson σ = some ρ) : CT l D (gTy cB cI cJ) aK aV yX5_writesJson (wM yX5_writesJson cX5_writesJson 6 (some .int)) (rm_mm_writesJson) 0 0 [.ref (q 0)] (mW cB cI cJ q σ) (some (.int ρ.1)) (mW cB cI cJ q ρ.2) := by
  refine CT.of (by decide) rfl ?_
  intro p e s m below meth c A G hnm hP hD hS
  have hl := lv_entry [.ref (q 0)] (n := 6) (Nat.le_of_ble_eq_true rfl)
  rw [lg_entry_eq]
  generalize (lg_sl [.ref (q 0)] ++ List.replicate (6 - (lg_sl [.ref (q 0)]).length) Slot.unset).toArray = ls at hl ⊢
  exact mm_writesJson_t0e G hl hP hD hS hf
def mm_toCbor (σ : MSt) : Option (Int32 × MSt) := bd (mm_begin  σ) (fun (x1 : MSt) => bd (mm_readsJson  x1) (fun (x2 : MSt) => (if (mf_fault x2) ≤ 0 then bd (mm_writesCbor  x2) (fun (x4 : Int32 × MSt) => some (x4.1, x4.2)) else some ((-(mf_fault x2)), x2))))
abbrev rm_mm_toCbor : Room := { frames := 10, cells := 0, slots := 0, locals := 225 }
set_option maxHeartbeats 4000000 in
set_option maxRecDepth 100000 in
theorem mm_toCbor_t0e {p : Program} {l : Launch} {e : Env} {s : State} {m : MethodId} {args : Array Value} {below : List Frame} {meth : Method} {c : Code} {D : va_G} {aK aV : Nat → Nat} {A : Nat → Prop} {cB cI cJ : ClassId} {q : Nat → Nat} {H : Heap} {locs : List Loc} {ls : Array Slot} {ρ : Int32 × MSt} {σ : MSt} (G : CX p s m args meth c D (gTy cB cI cJ) aK aV A RX5 cX5_toCbor 1 (some .int)) (hl : lv_has ls 1 [(0, .ref (q 0))]) (hP : va_P D vwCl (mW cB cI cJ q σ) H) (hD : va_D A (mW cB cI cJ q σ)) (hS : va_S A s.heap H locs) (hf : mm_toCbor σ = some ρ) : W p l e (rm_mm_toCbor) s m args below meth c H locs 0 0 (MQ below (cQ D (gTy cB cI cJ) A (mW cB cI cJ q ρ.2) (some (.int ρ.1))) args s 0 0 A) (F0 m 0 ls []) := by
  unfold mm_toCbor at hf
  obtain ⟨hx, hb, hml, hown, hT, hrt, hlk, hK, hA, hG, hE⟩ := id G
  refine lv_aload_n hx hb dX5_toCbor_0 rfl (lv_at hl 0 rfl) ?_
  obtain ⟨x1, hx1, hf⟩ := bd_some hf
  refine vM (As := []) (rest := []) G kX5_259 (c_mm_begin hx1) hP hD hS ⟨rfl, rfl, Nat.le_of_ble_eq_true rfl, Nat.le_of_ble_eq_true rfl⟩ ⟨Nat.zero_le _, Nat.zero_le _⟩ rfl hl.1 (Nat.le_of_ble_eq_true rfl) dX5_toCbor_1 (fun H locs hP hD hS => ?_)
  refine W.eq (g2 := F0 m 4 ls []) rfl ?_
  refine lv_aload_n hx hb dX5_toCbor_4 rfl (lv_at hl 0 rfl) ?_
  obtain ⟨x2, hx2, hf⟩ := bd_some hf
  refine vM (As := []) (rest := []) G kX5_262 (c_mm_readsJson hx2) hP hD hS ⟨rfl, rfl, Nat.le_of_ble_eq_true rfl, Nat.le_of_ble_eq_true rfl⟩ ⟨Nat.zero_le _, Nat.zero_le _⟩ rfl hl.1 (Nat.le_of_ble_eq_true rfl) dX5_toCbor_5 (fun H locs hP hD hS => ?_)
  refine W.eq (g2 := F0 m 8 ls []) rfl ?_
  refine lv_aload_n hx hb dX5_toCbor_8 rfl (lv_at hl 0 rfl) ?_
  refine gm_X5_fault (v := (mf_fault x2)) G hP dX5_toCbor_9 rfl ?_
  refine lv_if_le (tgt := 23) hx hb dX5_toCbor_12 (by decide) (fun c3 => ?_) (fun c3 => ?_)
  · have hf := (if_pos c3).symm.trans hf
    refine lv_aload_n hx hb dX5_toCbor_23 rfl (lv_at hl 0 rfl) ?_
    obtain ⟨x4, hx4, hf⟩ := bd_some hf
    refine vM (As := []) (rest := []) G kX5_265 (c_mm_writesCbor hx4) hP hD hS ⟨rfl, rfl, Nat.le_of_ble_eq_true rfl, Nat.le_of_ble_eq_true rfl⟩ ⟨Nat.zero_le _, Nat.zero_le _⟩ rfl hl.1 (Nat.le_of_ble_eq_true rfl) dX5_toCbor_24 (fun H locs hP hD hS => ?_)
    refine W.eq (g2 := F0 m 27 ls [.int x4.1]) rfl ?_
    cases hf
    exact ct_iret G rfl hP hD hS dX5_toCbor_27
  · have hf := (if_neg c3).symm.trans hf
    refine lv_aload_n hx hb dX5_toCbor_15 rfl (lv_at hl 0 rfl) ?_
    refine gm_X5_fault (v := (mf_fault x2)) G hP dX5_toCbor_16 rfl ?_
    refine lv_ineg hx hb dX5_toCbor_19 ?_
    refine lv_goto (tgt := 27) hx hb dX5_toCbor_20 (by decide) ?_
    cases hf
    exact ct_iret G rfl hP hD hS dX5_toCbor_27
set_option maxHeartbeats 4000000 in
set_option maxRecDepth 100000 in
theorem c_mm_toCbor {l : Launch} {D : va_G} {aK aV : Nat → Nat} {cB cI cJ : ClassId} {q : Nat → Nat} {ρ : Int32 × MSt} {σ : MSt} (hf : mm_toCbor σ = some ρ) : CT l D (gTy cB cI cJ) aK aV yX5_toCbor (wM yX5_toCbor cX5_toCbor 1 (some .int)) (rm_mm_toCbor) 0 0 [.ref (q 0)] (mW cB cI cJ q σ) (some (.int ρ.1)) (mW cB cI cJ q ρ.2) := by
  refine CT.of (by decide) rfl ?_
  intro p e s m below meth c A G hnm hP hD hS
  have hl := lv_entry [.ref (q 0)] (n := 1) (Nat.le_of_ble_eq_true rfl)
  rw [lg_entry_eq]
  generalize (lg_sl [.ref (q 0)] ++ List.replicate (1 - (lg_sl [.ref (q 0)]).length) Slot.unset).toArray = ls at hl ⊢
  exact mm_toCbor_t0e G hl hP hD hS hf
def mm_toJson (σ : MSt) : Option (Int32 × MSt) := bd (mm_begin  σ) (fun (x1 : MSt) => bd (mm_readsCbor  x1) (fun (x2 : MSt) => (if (mf_fault x2) ≤ 0 then bd (mm_writesJson  x2) (fun (x4 : Int32 × MSt) => some (x4.1, x4.2)) else some ((-(mf_fault x2)), x2))))
abbrev rm_mm_toJson : Room := { frames := 8, cells := 0, slots := 0, locals := 181 }
set_option maxHeartbeats 4000000 in
set_option maxRecDepth 100000 in
theorem mm_toJson_t0e {p : Program} {l : Launch} {e : Env} {s : State} {m : MethodId} {args : Array Value} {below : List Frame} {meth : Method} {c : Code} {D : va_G} {aK aV : Nat → Nat} {A : Nat → Prop} {cB cI cJ : ClassId} {q : Nat → Nat} {H : Heap} {locs : List Loc} {ls : Array Slot} {ρ : Int32 × MSt} {σ : MSt} (G : CX p s m args meth c D (gTy cB cI cJ) aK aV A RX5 cX5_toJson 1 (some .int)) (hl : lv_has ls 1 [(0, .ref (q 0))]) (hP : va_P D vwCl (mW cB cI cJ q σ) H) (hD : va_D A (mW cB cI cJ q σ)) (hS : va_S A s.heap H locs) (hf : mm_toJson σ = some ρ) : W p l e (rm_mm_toJson) s m args below meth c H locs 0 0 (MQ below (cQ D (gTy cB cI cJ) A (mW cB cI cJ q ρ.2) (some (.int ρ.1))) args s 0 0 A) (F0 m 0 ls []) := by
  unfold mm_toJson at hf
  obtain ⟨hx, hb, hml, hown, hT, hrt, hlk, hK, hA, hG, hE⟩ := id G
  refine lv_aload_n hx hb dX5_toJson_0 rfl (lv_at hl 0 rfl) ?_
  obtain ⟨x1, hx1, hf⟩ := bd_some hf
  refine vM (As := []) (rest := []) G kX5_259 (c_mm_begin hx1) hP hD hS ⟨rfl, rfl, Nat.le_of_ble_eq_true rfl, Nat.le_of_ble_eq_true rfl⟩ ⟨Nat.zero_le _, Nat.zero_le _⟩ rfl hl.1 (Nat.le_of_ble_eq_true rfl) dX5_toJson_1 (fun H locs hP hD hS => ?_)
  refine W.eq (g2 := F0 m 4 ls []) rfl ?_
  refine lv_aload_n hx hb dX5_toJson_4 rfl (lv_at hl 0 rfl) ?_
  obtain ⟨x2, hx2, hf⟩ := bd_some hf
  refine vM (As := []) (rest := []) G kX5_268 (c_mm_readsCbor hx2) hP hD hS ⟨rfl, rfl, Nat.le_of_ble_eq_true rfl, Nat.le_of_ble_eq_true rfl⟩ ⟨Nat.zero_le _, Nat.zero_le _⟩ rfl hl.1 (Nat.le_of_ble_eq_true rfl) dX5_toJson_5 (fun H locs hP hD hS => ?_)
  refine W.eq (g2 := F0 m 8 ls []) rfl ?_
  refine lv_aload_n hx hb dX5_toJson_8 rfl (lv_at hl 0 rfl) ?_
  refine gm_X5_fault (v := (mf_fault x2)) G hP dX5_toJson_9 rfl ?_
  refine lv_if_le (tgt := 23) hx hb dX5_toJson_12 (by decide) (fun c3 => ?_) (fun c3 => ?_)
  · have hf := (if_pos c3).symm.trans hf
    refine lv_aload_n hx hb dX5_toJson_23 rfl (lv_at hl 0 rfl) ?_
    obtain ⟨x4, hx4, hf⟩ := bd_some hf
    refine vM (As := []) (rest := []) G kX5_271 (c_mm_writesJson hx4) hP hD hS ⟨rfl, rfl, Nat.le_of_ble_eq_true rfl, Nat.le_of_ble_eq_true rfl⟩ ⟨Nat.zero_le _, Nat.zero_le _⟩ rfl hl.1 (Nat.le_of_ble_eq_true rfl) dX5_toJson_24 (fun H locs hP hD hS => ?_)
    refine W.eq (g2 := F0 m 27 ls [.int x4.1]) rfl ?_
    cases hf
    exact ct_iret G rfl hP hD hS dX5_toJson_27
  · have hf := (if_neg c3).symm.trans hf
    refine lv_aload_n hx hb dX5_toJson_15 rfl (lv_at hl 0 rfl) ?_
    refine gm_X5_fault (v := (mf_fault x2)) G hP dX5_toJson_16 rfl ?_
    refine lv_ineg hx hb dX5_toJson_19 ?_
    refine lv_goto (tgt := 27) hx hb dX5_toJson_20 (by decide) ?_
    cases hf
    exact ct_iret G rfl hP hD hS dX5_toJson_27
set_option maxHeartbeats 4000000 in
set_option maxRecDepth 100000 in
theorem c_mm_toJson {l : Launch} {D : va_G} {aK aV : Nat → Nat} {cB cI cJ : ClassId} {q : Nat → Nat} {ρ : Int32 × MSt} {σ : MSt} (hf : mm_toJson σ = some ρ) : CT l D (gTy cB cI cJ) aK aV yX5_toJson (wM yX5_toJson cX5_toJson 1 (some .int)) (rm_mm_toJson) 0 0 [.ref (q 0)] (mW cB cI cJ q σ) (some (.int ρ.1)) (mW cB cI cJ q ρ.2) := by
  refine CT.of (by decide) rfl ?_
  intro p e s m below meth c A G hnm hP hD hS
  have hl := lv_entry [.ref (q 0)] (n := 1) (Nat.le_of_ble_eq_true rfl)
  rw [lg_entry_eq]
  generalize (lg_sl [.ref (q 0)] ++ List.replicate (1 - (lg_sl [.ref (q 0)]).length) Slot.unset).toArray = ls at hl ⊢
  exact mm_toJson_t0e G hl hP hD hS hf
