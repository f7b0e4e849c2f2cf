/-! JSONREADER: leaves (printed by program wip/gen) -/
def jj_refuse (N : Nat) (p0 : Int32) (p1 : Int32) (σ : JSt) : Option (Bool × JSt) := some (false, (js_faultPlace (js_faultKind σ p0) p1))
abbrev rm_jj_refuse : Room := { frames := 0, cells := 0, slots := 0, locals := 0 }
set_option maxHeartbeats 4000000 in
set_option maxRecDepth 100000 in
theorem jj_refuse_t0e {p : Program} {l : Launch} {e : Env} {s : State} {m : MethodId} {args : Array Value} {below : List Frame} {meth : Method} {c : Code} {D : va_G} {aK aV : Nat → Nat} {A : Nat → Prop} {cB cI cJ : ClassId} {q : Nat → Nat} {N : Nat} {H : Heap} {locs : List Loc} {ls : Array Slot} {ρ : Bool × JSt} {p0 : Int32} {p1 : Int32} {σ : JSt} (G : CX p s m args meth c D (gTy cB cI cJ) aK aV A RX2 cX2_refuse 3 (some .boolean)) (hl : lv_has ls 3 [(0, .ref (q 0)), (1, .int p0), (2, .int p1)]) (hP : va_P D vwCl (jW cB N q σ) H) (hD : va_D A (jW cB N q σ)) (hS : va_S A s.heap H locs) (hf : jj_refuse N p0 p1 σ = some ρ) : W p l e (rm_jj_refuse) s m args below meth c H locs 0 0 (MQ below (cQ D (gTy cB cI cJ) A (jW cB N q ρ.2) (some (.int (bI ρ.1)))) args s 0 0 A) (F0 m 0 ls []) := by
  unfold jj_refuse at hf
  obtain ⟨hx, hb, hml, hown, hT, hrt, hlk, hK, hA, hG, hE⟩ := id G
  refine lv_aload_n hx hb dX2_refuse_0 rfl (lv_at hl 0 rfl) ?_
  refine lv_iload_n hx hb dX2_refuse_1 rfl (lv_at hl 1 rfl) ?_
  refine pj_X2_faultKind (v := p0) G hP hD hS dX2_refuse_2 (fun H locs hP hD hS => ?_)
  refine lv_aload_n hx hb dX2_refuse_5 rfl (lv_at hl 0 rfl) ?_
  refine lv_iload_n hx hb dX2_refuse_6 rfl (lv_at hl 2 rfl) ?_
  refine pj_X2_faultPlace (v := p1) G hP hD hS dX2_refuse_7 (fun H locs hP hD hS => ?_)
  refine lv_iconst (v := (0 : Int32)) hx hb dX2_refuse_10 (by decide) ?_
  cases hf
  exact ct_iret G (bI_nar false) hP hD hS dX2_refuse_11
set_option maxHeartbeats 4000000 in
set_option maxRecDepth 100000 in
theorem c_jj_refuse {l : Launch} {D : va_G} {aK aV : Nat → Nat} {cB cI cJ : ClassId} {q : Nat → Nat} {N : Nat} {ρ : Bool × JSt} {p0 : Int32} {p1 : Int32} {σ : JSt} (hf : jj_refuse N p0 p1 σ = some ρ) : CT l D (gTy cB cI cJ) aK aV yX2_refuse (wM yX2_refuse cX2_refuse 3 (some .boolean)) (rm_jj_refuse) 0 0 [.ref (q 0), .int p0, .int p1] (jW cB N q σ) (some (.int (bI ρ.1))) (jW cB N q ρ.2) := by
  refine CT.of (by decide) rfl ?_
  intro p e s m below meth c A G hnm hP hD hS
  have hl := lv_entry [.ref (q 0), .int p0, .int p1] (n := 3) (Nat.le_of_ble_eq_true rfl)
  rw [lg_entry_eq]
  generalize (lg_sl [.ref (q 0), .int p0, .int p1] ++ List.replicate (3 - (lg_sl [.ref (q 0), .int p0, .int p1]).length) Slot.unset).toArray = ls at hl ⊢
  exact jj_refuse_t0e G hl hP hD hS hf
def jj_faultKind (N : Nat) (σ : JSt) : Option (Int32 × JSt) := some ((jf_faultKind σ), σ)
abbrev rm_jj_faultKind : Room := { frames := 0, cells := 0, slots := 0, locals := 0 }
set_option maxHeartbeats 4000000 in
set_option maxRecDepth 100000 in
theorem jj_faultKind_t0e {p : Program} {l : Launch} {e : Env} {s : State} {m : MethodId} {args : Array Value} {below : List Frame} {meth : Method} {c : Code} {D : va_G} {aK aV : Nat → Nat} {A : Nat → Prop} {cB cI cJ : ClassId} {q : Nat → Nat} {N : Nat} {H : Heap} {locs : List Loc} {ls : Array Slot} {ρ : Int32 × JSt} {σ : JSt} (G : CX p s m args meth c D (gTy cB cI cJ) aK aV A RX2 cX2_faultKind 1 (some .int)) (hl : lv_has ls 1 [(0, .ref (q 0))]) (hP : va_P D vwCl (jW cB N q σ) H) (hD : va_D A (jW cB N q σ)) (hS : va_S A s.heap H locs) (hf : jj_faultKind N σ = some ρ) : W p l e (rm_jj_faultKind) s m args below meth c H locs 0 0 (MQ below (cQ D (gTy cB cI cJ) A (jW cB N q ρ.2) (some (.int ρ.1))) args s 0 0 A) (F0 m 0 ls []) := by
  unfold jj_faultKind at hf
  obtain ⟨hx, hb, hml, hown, hT, hrt, hlk, hK, hA, hG, hE⟩ := id G
  refine lv_aload_n hx hb dX2_faultKind_0 rfl (lv_at hl 0 rfl) ?_
  refine gj_X2_faultKind (v := (jf_faultKind σ)) G hP dX2_faultKind_1 rfl ?_
  cases hf
  exact ct_iret G rfl hP hD hS dX2_faultKind_4
set_option maxHeartbeats 4000000 in
set_option maxRecDepth 100000 in
theorem c_jj_faultKind {l : Launch} {D : va_G} {aK aV : Nat → Nat} {cB cI cJ : ClassId} {q : Nat → Nat} {N : Nat} {ρ : Int32 × JSt} {σ : JSt} (hf : jj_faultKind N σ = some ρ) : CT l D (gTy cB cI cJ) aK aV yX2_faultKind (wM yX2_faultKind cX2_faultKind 1 (some .int)) (rm_jj_faultKind) 0 0 [.ref (q 0)] (jW cB N q σ) (some (.int ρ.1)) (jW cB N q ρ.2) := by
  refine CT.of (by decide) rfl ?_
  intro p e s m below meth c A G hnm hP hD hS
  have hl := lv_entry [.ref (q 0)] (n := 1) (Nat.le_of_ble_eq_true rfl)
  rw [lg_entry_eq]
  generalize (lg_sl [.ref (q 0)] ++ List.replicate (1 - (lg_sl [.ref (q 0)]).length) Slot.unset).toArray = ls at hl ⊢
  exact jj_faultKind_t0e G hl hP hD hS hf
def jj_faultPlace (N : Nat) (σ : JSt) : Option (Int32 × JSt) := some ((jf_faultPlace σ), σ)
abbrev rm_jj_faultPlace : Room := { frames := 0, cells := 0, slots := 0, locals := 0 }
set_option maxHeartbeats 4000000 in
set_option maxRecDepth 100000 in
theorem jj_faultPlace_t0e {p : Program} {l : Launch} {e : Env} {s : State} {m : MethodId} {args : Array Value} {below : List Frame} {meth : Method} {c : Code} {D : va_G} {aK aV : Nat → Nat} {A : Nat → Prop} {cB cI cJ : ClassId} {q : Nat → Nat} {N : Nat} {H : Heap} {locs : List Loc} {ls : Array Slot} {ρ : Int32 × JSt} {σ : JSt} (G : CX p s m args meth c D (gTy cB cI cJ) aK aV A RX2 cX2_faultPlace 1 (some .int)) (hl : lv_has ls 1 [(0, .ref (q 0))]) (hP : va_P D vwCl (jW cB N q σ) H) (hD : va_D A (jW cB N q σ)) (hS : va_S A s.heap H locs) (hf : jj_faultPlace N σ = some ρ) : W p l e (rm_jj_faultPlace) s m args below meth c H locs 0 0 (MQ below (cQ D (gTy cB cI cJ) A (jW cB N q ρ.2) (some (.int ρ.1))) args s 0 0 A) (F0 m 0 ls []) := by
  unfold jj_faultPlace at hf
  obtain ⟨hx, hb, hml, hown, hT, hrt, hlk, hK, hA, hG, hE⟩ := id G
  refine lv_aload_n hx hb dX2_faultPlace_0 rfl (lv_at hl 0 rfl) ?_
  refine gj_X2_faultPlace (v := (jf_faultPlace σ)) G hP dX2_faultPlace_1 rfl ?_
  cases hf
  exact ct_iret G rfl hP hD hS dX2_faultPlace_4
set_option maxHeartbeats 4000000 in
set_option maxRecDepth 100000 in
theorem c_jj_faultPlace {l : Launch} {D : va_G} {aK aV : Nat → Nat} {cB cI cJ : ClassId} {q : Nat → Nat} {N : Nat} {ρ : Int32 × JSt} {σ : JSt} (hf : jj_faultPlace N σ = some ρ) : CT l D (gTy cB cI cJ) aK aV yX2_faultPlace (wM yX2_faultPlace cX2_faultPlace 1 (some .int)) (rm_jj_faultPlace) 0 0 [.ref (q 0)] (jW cB N q σ) (some (.int ρ.1)) (jW cB N q ρ.2) := by
  refine CT.of (by decide) rfl ?_
  intro p e s m below meth c A G hnm hP hD hS
  have hl := lv_entry [.ref (q 0)] (n := 1) (Nat.le_of_ble_eq_true rfl)
  rw [lg_entry_eq]
  generalize (lg_sl [.ref (q 0)] ++ List.replicate (1 - (lg_sl [.ref (q 0)]).length) Slot.unset).toArray = ls at hl ⊢
  exact jj_faultPlace_t0e G hl hP hD hS hf
def jj_skipBlanks_b5 (N : Nat) (k5 : Int32 → JSt → Option (JSt)) (a1 : Int32) (σ : JSt) : Option (JSt) := bd (rr_size 4000  (jf_tape σ)) (fun (x2 : Int32 × RSt) => (if x2.1 ≤ a1 then some (js_tape σ x2.2) else bd (rr_at 4000 a1 x2.2) (fun (x4 : Int32 × RSt) => (if (eX1_isBlank x4.1) = true then lt (a1 + (1 : Int32)) (fun (v6 : Int32) => k5 v6 (js_place (js_tape (js_tape σ x2.2) x4.2) (a1 + (1 : Int32)))) else some (js_tape (js_tape σ x2.2) x4.2)))))
def jj_skipBlanks_L5 (N : Nat) : Nat → Int32 → JSt → Option (JSt)
  | 0, _, _ => none
  | n + 1, a1, σ => jj_skipBlanks_b5 N (jj_skipBlanks_L5 N n) a1 σ
def jj_skipBlanks (N : Nat) (σ : JSt) : Option (JSt) := lt (jf_place σ) (fun (v1 : Int32) => jj_skipBlanks_L5 N FU v1 σ)
abbrev rm_jj_skipBlanks : Room := { frames := 1, cells := 0, slots := 0, locals := 21 }
set_option maxHeartbeats 4000000 in
set_option maxRecDepth 100000 in
theorem jj_skipBlanks_t5 {p : Program} {l : Launch} {e : Env} {s : State} {m : MethodId} {args : Array Value} {below : List Frame} {meth : Method} {c : Code} {D : va_G} {aK aV : Nat → Nat} {A : Nat → Prop} {cB cI cJ : ClassId} {q : Nat → Nat} {N : Nat} {H : Heap} {locs : List Loc} {ls : Array Slot} {ρ : JSt} {k5 : Int32 → JSt → Option (JSt)} {a1 : Int32} {σ : JSt} (G : CX p s m args meth c D (gTy cB cI cJ) aK aV A RX1 cX1_skipBlanks 2 none) (hk5 : ∀ (a1 : Int32) (σ : JSt) (H : Heap) (locs : List Loc) (ls : Array Slot), lv_has ls 2 [(0, .ref (q 0)), (1, .int a1)] → va_P D vwCl (jW cB N q σ) H → va_D A (jW cB N q σ) → va_S A s.heap H locs → k5 a1 σ = some ρ → W p l e (rm_jj_skipBlanks) s m args below meth c H locs 0 0 (MQ below (cQ D (gTy cB cI cJ) A (jW cB N q ρ) none) args s 0 0 A) (F0 m 5 ls [])) (hl : lv_has ls 2 [(0, .ref (q 0)), (1, .int a1)]) (hP : va_P D vwCl (jW cB N q σ) H) (hD : va_D A (jW cB N q σ)) (hS : va_S A s.heap H locs) (hf : jj_skipBlanks_b5 N k5 a1 σ = some ρ) : W p l e (rm_jj_skipBlanks) s m args below meth c H locs 0 0 (MQ below (cQ D (gTy cB cI cJ) A (jW cB N q ρ) none) args s 0 0 A) (F0 m 5 ls []) := by
  unfold jj_skipBlanks_b5 at hf
  obtain ⟨hx, hb, hml, hown, hT, hrt, hlk, hK, hA, hG, hE⟩ := id G
  refine lv_iload_n hx hb dX1_skipBlanks_5 rfl (lv_at hl 1 rfl) ?_
  refine lv_aload_n hx hb dX1_skipBlanks_6 rfl (lv_at hl 0 rfl) ?_
  refine gj_X1_tape G hP dX1_skipBlanks_7 ?_
  obtain ⟨x2, hx2, hf⟩ := bd_some hf
  refine vJ_tape (As := []) (rest := [.int a1]) (τ := x2.2) G kX1_23 rfl (c_rr_size hx2) hP hD hS ⟨rfl, rfl, Nat.le_of_ble_eq_true rfl, Nat.le_of_ble_eq_true rfl⟩ ⟨Nat.zero_le _, Nat.zero_le _⟩ rfl hl.1 (Nat.le_of_ble_eq_true rfl) dX1_skipBlanks_10 (fun H locs hP hD hS => ?_)
  refine W.eq (g2 := F0 m 13 ls [.int x2.1, .int a1]) rfl ?_
  refine lv_icmp_ge (tgt := 43) hx hb dX1_skipBlanks_13 (by decide) (fun c3 => ?_) (fun c3 => ?_)
  · have hf := (if_pos c3).symm.trans hf
    cases hf
    exact ct_vret G hP hD hS dX1_skipBlanks_43
  · have hf := (if_neg c3).symm.trans hf
    refine lv_aload_n hx hb dX1_skipBlanks_16 rfl (lv_at hl 0 rfl) ?_
    refine gj_X1_tape G hP dX1_skipBlanks_17 ?_
    refine lv_iload_n hx hb dX1_skipBlanks_20 rfl (lv_at hl 1 rfl) ?_
    obtain ⟨x4, hx4, hf⟩ := bd_some hf
    refine vJ_tape (As := [.int a1]) (rest := []) (τ := x4.2) G kX1_33 (jG_tape_tape _ _) (c_rr_at hx4) hP hD hS ⟨rfl, rfl, Nat.le_of_ble_eq_true rfl, Nat.le_of_ble_eq_true rfl⟩ ⟨Nat.zero_le _, Nat.zero_le _⟩ rfl hl.1 (Nat.le_of_ble_eq_true rfl) dX1_skipBlanks_21 (fun H locs hP hD hS => ?_)
    refine W.eq (g2 := F0 m 24 ls [.int x4.1]) rfl ?_
    refine ct_s0 (As := [.int x4.1]) (rest := []) G kX1_62 (c_eX1_isBlank x4.1) hP hD hS ⟨rfl, rfl, Nat.le_of_ble_eq_true rfl, Nat.le_of_ble_eq_true rfl⟩ ⟨Nat.zero_le _, Nat.zero_le _⟩ rfl hl.1 (Nat.le_of_ble_eq_true rfl) dX1_skipBlanks_24 (fun H locs hP hS => ?_)
    refine W.eq (g2 := F0 m 27 ls [.int (bI (eX1_isBlank x4.1))]) rfl ?_
    refine lv_if_eq (tgt := 43) hx hb dX1_skipBlanks_27 (by decide) (fun c5 => ?_) (fun c5 => ?_)
    · have hf := (if_neg (bI_0 c5)).symm.trans hf
      cases hf
      exact ct_vret G hP hD hS dX1_skipBlanks_43
    · have hf := (if_pos (bI_n c5)).symm.trans hf
      refine lv_aload_n hx hb dX1_skipBlanks_30 rfl (lv_at hl 0 rfl) ?_
      refine lv_iload_n hx hb dX1_skipBlanks_31 rfl (lv_at hl 1 rfl) ?_
      refine lv_iconst (v := (1 : Int32)) hx hb dX1_skipBlanks_32 (by decide) ?_
      refine lv_iadd hx hb dX1_skipBlanks_33 ?_
      refine pj_X1_place (v := (a1 + (1 : Int32))) G hP hD hS dX1_skipBlanks_34 (fun H locs hP hD hS => ?_)
      obtain ⟨v6, ev6⟩ : ∃ y : Int32, y = (a1 + (1 : Int32)) := ⟨_, rfl⟩
      have hf := lt_eq hf ev6
      refine lv_iinc (v := v6) (lv' := [(1, .int v6), (0, .ref (q 0))]) hx hb dX1_skipBlanks_37 hl (k := 1) rfl (by rw [ev6]; rfl) (by decide) rfl (fun ls hl => ?_)
      refine lv_goto (tgt := 5) hx hb dX1_skipBlanks_40 (by decide) ?_
      exact W.eq (g2 := F0 m 5 ls []) rfl (hk5 _ _ _ _ _ (lv_sub hl [1, 0] rfl) hP hD hS hf)
set_option maxHeartbeats 4000000 in
set_option maxRecDepth 100000 in
theorem jj_skipBlanks_u5 {p : Program} {l : Launch} {e : Env} {s : State} {m : MethodId} {args : Array Value} {below : List Frame} {meth : Method} {c : Code} {D : va_G} {aK aV : Nat → Nat} {A : Nat → Prop} {cB cI cJ : ClassId} {q : Nat → Nat} {N : Nat} {ρ : JSt} (G : CX p s m args meth c D (gTy cB cI cJ) aK aV A RX1 cX1_skipBlanks 2 none) : ∀ (n : Nat) {a1 : Int32} {σ : JSt} {H : Heap} {locs : List Loc} {ls : Array Slot} (hl : lv_has ls 2 [(0, .ref (q 0)), (1, .int a1)]) (hP : va_P D vwCl (jW cB N q σ) H) (hD : va_D A (jW cB N q σ)) (hS : va_S A s.heap H locs) (hf : jj_skipBlanks_L5 N n a1 σ = some ρ), W p l e (rm_jj_skipBlanks) s m args below meth c H locs 0 0 (MQ below (cQ D (gTy cB cI cJ) A (jW cB N q ρ) none) args s 0 0 A) (F0 m 5 ls []) := by
  intro n
  induction n with
  | zero =>
    intros
    rename_i hf
    cases hf
  | succ n ih =>
    intro a1 σ H locs ls hl hP hD hS hf
    exact jj_skipBlanks_t5 G (fun _ _ H locs ls hl hP hD hS hf => ih hl hP hD hS hf) hl hP hD hS hf
set_option maxHeartbeats 4000000 in
set_option maxRecDepth 100000 in
theorem jj_skipBlanks_t0e {p : Program} {l : Launch} {e : Env} {s : State} {m : MethodId} {args : Array Value} {below : List Frame} {meth : Method} {c : Code} {D : va_G} {aK aV : Nat → Nat} {A : Nat → Prop} {cB cI cJ : ClassId} {q : Nat → Nat} {N : Nat} {H : Heap} {locs : List Loc} {ls : Array Slot} {ρ : JSt} {σ : JSt} (G : CX p s m args meth c D (gTy cB cI cJ) aK aV A RX1 cX1_skipBlanks 2 none) (hl : lv_has ls 2 [(0, .ref (q 0))]) (hP : va_P D vwCl (jW cB N q σ) H) (hD : va_D A (jW cB N q σ)) (hS : va_S A s.heap H locs) (hf : jj_skipBlanks N σ = some ρ) : W p l e (rm_jj_skipBlanks) s m args below meth c H locs 0 0 (MQ below (cQ D (gTy cB cI cJ) A (jW cB N q ρ) none) args s 0 0 A) (F0 m 0 ls []) := by
  unfold jj_skipBlanks at hf
  obtain ⟨hx, hb, hml, hown, hT, hrt, hlk, hK, hA, hG, hE⟩ := id G
  refine lv_aload_n hx hb dX1_skipBlanks_0 rfl (lv_at hl 0 rfl) ?_
  refine gj_X1_place (v := (jf_place σ)) G hP dX1_skipBlanks_1 rfl ?_
  refine lv_topi (fun v1 ev1 => ?_)
  have hf := lt_eq hf ev1
  refine lv_istore_n (lv' := [(1, .int v1), (0, .ref (q 0))]) hx hb dX1_skipBlanks_4 rfl hl (by decide) rfl (fun ls hl => ?_)
  exact W.eq (g2 := F0 m 5 ls []) rfl (jj_skipBlanks_u5 G FU (lv_sub hl [1, 0] rfl) hP hD hS hf)
set_option maxHeartbeats 4000000 in
set_option maxRecDepth 100000 in
theorem c_jj_skipBlanks {l : Launch} {D : va_G} {aK aV : Nat → Nat} {cB cI cJ : ClassId} {q : Nat → Nat} {N : Nat} {ρ : JSt} {σ : JSt} (hf : jj_skipBlanks N σ = some ρ) : CT l D (gTy cB cI cJ) aK aV yX1_skipBlanks (wM yX1_skipBlanks cX1_skipBlanks 2 none) (rm_jj_skipBlanks) 0 0 [.ref (q 0)] (jW cB N q σ) none (jW cB N q ρ) := by
  refine CT.of (by decide) rfl ?_
  intro p e s m below meth c A G hnm hP hD hS
  have hl := lv_entry [.ref (q 0)] (n := 2) (Nat.le_of_ble_eq_true rfl)
  rw [lg_entry_eq]
  generalize (lg_sl [.ref (q 0)] ++ List.replicate (2 - (lg_sl [.ref (q 0)]).length) Slot.unset).toArray = ls at hl ⊢
  exact jj_skipBlanks_t0e G hl hP hD hS hf
def jj_readEnd (N : Nat) (σ : JSt) : Option (Bool × JSt) := bd (jj_skipBlanks N  σ) (fun (x1 : JSt) => bd (rr_size 4000  (jf_tape x1)) (fun (x2 : Int32 × RSt) => (if (jf_place x1) = x2.1 then some (true, (js_tape x1 x2.2)) else bd (jj_refuse N (1 : Int32) (jf_place x1) (js_tape x1 x2.2)) (fun (x4 : Bool × JSt) => (if x4.1 = true then some (true, x4.2) else some (false, x4.2))))))
abbrev rm_jj_readEnd : Room := { frames := 2, cells := 0, slots := 0, locals := 42 }
set_option maxHeartbeats 4000000 in
set_option maxRecDepth 100000 in
theorem jj_readEnd_t0e {p : Program} {l : Launch} {e : Env} {s : State} {m : MethodId} {args : Array Value} {below : List Frame} {meth : Method} {c : Code} {D : va_G} {aK aV : Nat → Nat} {A : Nat → Prop} {cB cI cJ : ClassId} {q : Nat → Nat} {N : Nat} {H : Heap} {locs : List Loc} {ls : Array Slot} {ρ : Bool × JSt} {σ : JSt} (G : CX p s m args meth c D (gTy cB cI cJ) aK aV A RX1 cX1_readEnd 1 (some .boolean)) (hl : lv_has ls 1 [(0, .ref (q 0))]) (hP : va_P D vwCl (jW cB N q σ) H) (hD : va_D A (jW cB N q σ)) (hS : va_S A s.heap H locs) (hf : jj_readEnd N σ = some ρ) : W p l e (rm_jj_readEnd) s m args below meth c H locs 0 0 (MQ below (cQ D (gTy cB cI cJ) A (jW cB N q ρ.2) (some (.int (bI ρ.1)))) args s 0 0 A) (F0 m 0 ls []) := by
  unfold jj_readEnd at hf
  obtain ⟨hx, hb, hml, hown, hT, hrt, hlk, hK, hA, hG, hE⟩ := id G
  refine lv_aload_n hx hb dX1_readEnd_0 rfl (lv_at hl 0 rfl) ?_
  obtain ⟨x1, hx1, hf⟩ := bd_some hf
  refine vJ (As := []) (rest := []) G kX1_9 (c_jj_skipBlanks hx1) hP hD hS ⟨rfl, rfl, Nat.le_of_ble_eq_true rfl, Nat.le_of_ble_eq_true rfl⟩ ⟨Nat.zero_le _, Nat.zero_le _⟩ rfl hl.1 (Nat.le_of_ble_eq_true rfl) dX1_readEnd_1 (fun H locs hP hD hS => ?_)
  refine W.eq (g2 := F0 m 4 ls []) rfl ?_
  refine lv_aload_n hx hb dX1_readEnd_4 rfl (lv_at hl 0 rfl) ?_
  refine gj_X1_place (v := (jf_place x1)) G hP dX1_readEnd_5 rfl ?_
  refine lv_aload_n hx hb dX1_readEnd_8 rfl (lv_at hl 0 rfl) ?_
  refine gj_X1_tape G hP dX1_readEnd_9 ?_
  obtain ⟨x2, hx2, hf⟩ := bd_some hf
  refine vJ_tape (As := []) (rest := [.int (jf_place x1)]) (τ := x2.2) G kX1_23 rfl (c_rr_size hx2) hP hD hS ⟨rfl, rfl, Nat.le_of_ble_eq_true rfl, Nat.le_of_ble_eq_true rfl⟩ ⟨Nat.zero_le _, Nat.zero_le _⟩ rfl hl.1 (Nat.le_of_ble_eq_true rfl) dX1_readEnd_12 (fun H locs hP hD hS => ?_)
  refine W.eq (g2 := F0 m 15 ls [.int x2.1, .int (jf_place x1)]) rfl ?_
  refine lv_icmp_eq (tgt := 30) hx hb dX1_readEnd_15 (by decide) (fun c3 => ?_) (fun c3 => ?_)
  · have hf := (if_pos c3).symm.trans hf
    refine lv_iconst (v := (1 : Int32)) hx hb dX1_readEnd_30 (by decide) ?_
    refine lv_goto (tgt := 35) hx hb dX1_readEnd_31 (by decide) ?_
    cases hf
    exact ct_iret G (bI_nar true) hP hD hS dX1_readEnd_35
  · have hf := (if_neg c3).symm.trans hf
    refine lv_aload_n hx hb dX1_readEnd_18 rfl (lv_at hl 0 rfl) ?_
    refine lv_iconst (v := (1 : Int32)) hx hb dX1_readEnd_19 (by decide) ?_
    refine lv_aload_n hx hb dX1_readEnd_20 rfl (lv_at hl 0 rfl) ?_
    refine gj_X1_place (v := (jf_place x1)) G hP dX1_readEnd_21 (jG_place_tape _ _) ?_
    obtain ⟨x4, hx4, hf⟩ := bd_some hf
    refine uJ (As := [.int (1 : Int32), .int (jf_place x1)]) (rest := []) G kX1_29 (c_jj_refuse hx4) hP hD hS ⟨rfl, rfl, Nat.le_of_ble_eq_true rfl, Nat.le_of_ble_eq_true rfl⟩ ⟨Nat.zero_le _, Nat.zero_le _⟩ rfl hl.1 (Nat.le_of_ble_eq_true rfl) dX1_readEnd_24 (fun H locs hP hD hS => ?_)
    refine W.eq (g2 := F0 m 27 ls [.int (bI x4.1)]) rfl ?_
    refine lv_if_eq (tgt := 34) hx hb dX1_readEnd_27 (by decide) (fun c5 => ?_) (fun c5 => ?_)
    · have hf := (if_neg (bI_0 c5)).symm.trans hf
      refine lv_iconst (v := (0 : Int32)) hx hb dX1_readEnd_34 (by decide) ?_
      cases hf
      exact ct_iret G (bI_nar false) hP hD hS dX1_readEnd_35
    · have hf := (if_pos (bI_n c5)).symm.trans hf
      refine lv_iconst (v := (1 : Int32)) hx hb dX1_readEnd_30 (by decide) ?_
      refine lv_goto (tgt := 35) hx hb dX1_readEnd_31 (by decide) ?_
      cases hf
      exact ct_iret G (bI_nar true) hP hD hS dX1_readEnd_35
set_option maxHeartbeats 4000000 in
set_option maxRecDepth 100000 in
theorem c_jj_readEnd {l : Launch} {D : va_G} {aK aV : Nat → Nat} {cB cI cJ : ClassId} {q : Nat → Nat} {N : Nat} {ρ : Bool × JSt} {σ : JSt} (hf : jj_readEnd N σ = some ρ) : CT l D (gTy cB cI cJ) aK aV yX1_readEnd (wM yX1_readEnd cX1_readEnd 1 (some .boolean)) (rm_jj_readEnd) 0 0 [.ref (q 0)] (jW cB N q σ) (some (.int (bI ρ.1))) (jW cB N q ρ.2) := by
  refine CT.of (by decide) rfl ?_
  intro p e s m below meth c A G hnm hP hD hS
  have hl := lv_entry [.ref (q 0)] (n := 1) (Nat.le_of_ble_eq_true rfl)
  rw [lg_entry_eq]
  generalize (lg_sl [.ref (q 0)] ++ List.replicate (1 - (lg_sl [.ref (q 0)]).length) Slot.unset).toArray = ls at hl ⊢
  exact jj_readEnd_t0e G hl hP hD hS hf
def jj_readWord_b2 (N : Nat) (sI : Nat) (k2 : Int32 → Int32 → JSt → Option (Bool × JSt)) (a2 : Int32) (a3 : Int32) (σ : JSt) : Option (Bool × JSt) := (if (sLen sI) ≤ a3 then bd (rr_putHead N (7 : Int32) (Int32.toInt64 a2) (jf_target σ)) (fun (x2 : RSt) => some (true, (js_target σ x2))) else bd (rr_at 4000 (jf_place σ) (jf_tape σ)) (fun (x3 : Int32 × RSt) => ck a3 (sLn sI) ((if x3.1 = (sCh sI a3) then lt (a3 + (1 : Int32)) (fun (v6 : Int32) => k2 a2 v6 (js_place (js_tape σ x3.2) ((jf_place σ) + (1 : Int32)))) else bd (jj_refuse N (1 : Int32) (jf_place σ) (js_tape σ x3.2)) (fun (x7 : Bool × JSt) => some (x7.1, x7.2))))))
def jj_readWord_L2 (N : Nat) (sI : Nat) : Nat → Int32 → Int32 → JSt → Option (Bool × JSt)
  | 0, _, _, _ => none
  | n + 1, a2, a3, σ => jj_readWord_b2 N sI (jj_readWord_L2 N sI n) a2 a3 σ
def jj_readWord (N : Nat) (sI : Nat) (p1 : Int32) (σ : JSt) : Option (Bool × JSt) := jj_readWord_L2 N sI FU p1 (0 : Int32) σ
abbrev rm_jj_readWord : Room := { frames := 4, cells := 0, slots := 0, locals := 141 }
set_option maxHeartbeats 4000000 in
set_option maxRecDepth 100000 in
theorem jj_readWord_t2 {p : Program} {l : Launch} {e : Env} {s : State} {m : MethodId} {args : Array Value} {below : List Frame} {meth : Method} {c : Code} {D : va_G} {aK aV : Nat → Nat} {A : Nat → Prop} {cB cI cJ : ClassId} {q : Nat → Nat} {N : Nat} {H : Heap} {locs : List Loc} {ls : Array Slot} {ρ : Bool × JSt} {sI : Nat} (hsI : sI < 6) {k2 : Int32 → Int32 → JSt → Option (Bool × JSt)} {a2 : Int32} {a3 : Int32} {σ : JSt} (G : CX p s m args meth c D (gTy cB cI cJ) aK aV A RX1 cX1_readWord 4 (some .boolean)) (hk2 : ∀ (a2 : Int32) (a3 : Int32) (σ : JSt) (H : Heap) (locs : List Loc) (ls : Array Slot), lv_has ls 4 [(0, .ref (q 0)), (1, .ref (aK sI)), (2, .int a2), (3, .int a3)] → va_P D vwCl (jW cB N q σ) H → va_D A (jW cB N q σ) → va_S A s.heap H locs → k2 a2 a3 σ = some ρ → W p l e (rm_jj_readWord) s m args below meth c H locs 0 0 (MQ below (cQ D (gTy cB cI cJ) A (jW cB N q ρ.2) (some (.int (bI ρ.1)))) args s 0 0 A) (F0 m 2 ls [])) (hl : lv_has ls 4 [(0, .ref (q 0)), (1, .ref (aK sI)), (2, .int a2), (3, .int a3)]) (hP : va_P D vwCl (jW cB N q σ) H) (hD : va_D A (jW cB N q σ)) (hS : va_S A s.heap H locs) (hf : jj_readWord_b2 N sI k2 a2 a3 σ = some ρ) : W p l e (rm_jj_readWord) s m args below meth c H locs 0 0 (MQ below (cQ D (gTy cB cI cJ) A (jW cB N q ρ.2) (some (.int (bI ρ.1)))) args s 0 0 A) (F0 m 2 ls []) := by
  unfold jj_readWord_b2 at hf
  obtain ⟨hx, hb, hml, hown, hT, hrt, hlk, hK, hA, hG, hE⟩ := id G
  refine lv_iload_n hx hb dX1_readWord_2 rfl (lv_at hl 3 rfl) ?_
  refine lv_aload_n hx hb dX1_readWord_3 rfl (lv_at hl 1 rfl) ?_
  refine ct_len (rest := [.int a3]) G kX1_65 hsI hP hD hS ⟨Nat.le_of_ble_eq_true rfl, Nat.le_of_ble_eq_true rfl⟩ ⟨Nat.zero_le _, Nat.zero_le _⟩ hl.1 (Nat.le_of_ble_eq_true rfl) dX1_readWord_4 (fun H locs hP hS => ?_)
  refine W.eq (g2 := F0 m 7 ls [.int (sLen sI), .int a3]) rfl ?_
  refine lv_icmp_ge (tgt := 55) hx hb dX1_readWord_7 (by decide) (fun c1 => ?_) (fun c1 => ?_)
  · have hf := (if_pos c1).symm.trans hf
    refine lv_aload_n hx hb dX1_readWord_55 rfl (lv_at hl 0 rfl) ?_
    refine gj_X1_target G hP dX1_readWord_56 ?_
    refine lv_bipush (v := (7 : Int32)) hx hb dX1_readWord_59 (by decide) ?_
    refine lv_iload_n hx hb dX1_readWord_61 rfl (lv_at hl 2 rfl) ?_
    refine lv_i2l (v := (Int32.toInt64 a2)) hx hb dX1_readWord_62 rfl ?_
    obtain ⟨x2, hx2, hf⟩ := bd_some hf
    refine vJ_target (As := [.int (7 : Int32), .long (Int32.toInt64 a2)]) (rest := []) (τ := x2) G kX1_77 rfl (c_rr_putHead hx2) hP hD hS ⟨rfl, rfl, Nat.le_of_ble_eq_true rfl, Nat.le_of_ble_eq_true rfl⟩ ⟨Nat.zero_le _, Nat.zero_le _⟩ rfl hl.1 (Nat.le_of_ble_eq_true rfl) dX1_readWord_63 (fun H locs hP hD hS => ?_)
    refine W.eq (g2 := F0 m 66 ls []) rfl ?_
    refine lv_iconst (v := (1 : Int32)) hx hb dX1_readWord_66 (by decide) ?_
    cases hf
    exact ct_iret G (bI_nar true) hP hD hS dX1_readWord_67
  · have hf := (if_neg c1).symm.trans hf
    refine lv_aload_n hx hb dX1_readWord_10 rfl (lv_at hl 0 rfl) ?_
    refine gj_X1_tape G hP dX1_readWord_11 ?_
    refine lv_aload_n hx hb dX1_readWord_14 rfl (lv_at hl 0 rfl) ?_
    refine gj_X1_place (v := (jf_place σ)) G hP dX1_readWord_15 rfl ?_
    obtain ⟨x3, hx3, hf⟩ := bd_some hf
    refine vJ_tape (As := [.int (jf_place σ)]) (rest := []) (τ := x3.2) G kX1_33 rfl (c_rr_at hx3) hP hD hS ⟨rfl, rfl, Nat.le_of_ble_eq_true rfl, Nat.le_of_ble_eq_true rfl⟩ ⟨Nat.zero_le _, Nat.zero_le _⟩ rfl hl.1 (Nat.le_of_ble_eq_true rfl) dX1_readWord_18 (fun H locs hP hD hS => ?_)
    refine W.eq (g2 := F0 m 21 ls [.int x3.1]) rfl ?_
    refine lv_aload_n hx hb dX1_readWord_21 rfl (lv_at hl 1 rfl) ?_
    refine lv_iload_n hx hb dX1_readWord_22 rfl (lv_at hl 3 rfl) ?_
    obtain ⟨hi4, hf⟩ := ck_some hf
    refine ct_cha (rest := [.int x3.1]) G kX1_70 hsI hi4 hP hD hS ⟨Nat.le_of_ble_eq_true rfl, Nat.le_of_ble_eq_true rfl⟩ ⟨Nat.zero_le _, Nat.zero_le _⟩ hl.1 (Nat.le_of_ble_eq_true rfl) dX1_readWord_23 (fun H locs hP hS => ?_)
    refine W.eq (g2 := F0 m 26 ls [.int (sCh sI a3), .int x3.1]) rfl ?_
    refine lv_icmp_eq (tgt := 39) hx hb dX1_readWord_26 (by decide) (fun c5 => ?_) (fun c5 => ?_)
    · have hf := (if_pos c5).symm.trans hf
      refine lv_aload_n hx hb dX1_readWord_39 rfl (lv_at hl 0 rfl) ?_
      refine lv_dup hx hb dX1_readWord_40 rfl ?_
      refine gj_X1_place (v := (jf_place σ)) G hP dX1_readWord_41 (jG_place_tape _ _) ?_
      refine lv_iconst (v := (1 : Int32)) hx hb dX1_readWord_44 (by decide) ?_
      refine lv_iadd hx hb dX1_readWord_45 ?_
      refine pj_X1_place (v := ((jf_place σ) + (1 : Int32))) G hP hD hS dX1_readWord_46 (fun H locs hP hD hS => ?_)
      obtain ⟨v6, ev6⟩ : ∃ y : Int32, y = (a3 + (1 : Int32)) := ⟨_, rfl⟩
      have hf := lt_eq hf ev6
      refine lv_iinc (v := v6) (lv' := [(3, .int v6), (0, .ref (q 0)), (1, .ref (aK sI)), (2, .int a2)]) hx hb dX1_readWord_49 hl (k := 3) rfl (by rw [ev6]; rfl) (by decide) rfl (fun ls hl => ?_)
      refine lv_goto (tgt := 2) hx hb dX1_readWord_52 (by decide) ?_
      exact W.eq (g2 := F0 m 2 ls []) rfl (hk2 _ _ _ _ _ _ (lv_sub hl [1, 2, 3, 0] rfl) hP hD hS hf)
    · have hf := (if_neg c5).symm.trans hf
      refine lv_aload_n hx hb dX1_readWord_29 rfl (lv_at hl 0 rfl) ?_
      refine lv_iconst (v := (1 : Int32)) hx hb dX1_readWord_30 (by decide) ?_
      refine lv_aload_n hx hb dX1_readWord_31 rfl (lv_at hl 0 rfl) ?_
      refine gj_X1_place (v := (jf_place σ)) G hP dX1_readWord_32 (jG_place_tape _ _) ?_
      obtain ⟨x7, hx7, hf⟩ := bd_some hf
      refine uJ (As := [.int (1 : Int32), .int (jf_place σ)]) (rest := []) G kX1_29 (c_jj_refuse hx7) hP hD hS ⟨rfl, rfl, Nat.le_of_ble_eq_true rfl, Nat.le_of_ble_eq_true rfl⟩ ⟨Nat.zero_le _, Nat.zero_le _⟩ rfl hl.1 (Nat.le_of_ble_eq_true rfl) dX1_readWord_35 (fun H locs hP hD hS => ?_)
      refine W.eq (g2 := F0 m 38 ls [.int (bI x7.1)]) rfl ?_
      cases hf
      exact ct_iret G (bI_nar x7.1) hP hD hS dX1_readWord_38
set_option maxHeartbeats 4000000 in
set_option maxRecDepth 100000 in
theorem jj_readWord_u2 {p : Program} {l : Launch} {e : Env} {s : State} {m : MethodId} {args : Array Value} {below : List Frame} {meth : Method} {c : Code} {D : va_G} {aK aV : Nat → Nat} {A : Nat → Prop} {cB cI cJ : ClassId} {q : Nat → Nat} {N : Nat} {ρ : Bool × JSt} {sI : Nat} (hsI : sI < 6) (G : CX p s m args meth c D (gTy cB cI cJ) aK aV A RX1 cX1_readWord 4 (some .boolean)) : ∀ (n : Nat) {a2 : Int32} {a3 : Int32} {σ : JSt} {H : Heap} {locs : List Loc} {ls : Array Slot} (hl : lv_has ls 4 [(0, .ref (q 0)), (1, .ref (aK sI)), (2, .int a2), (3, .int a3)]) (hP : va_P D vwCl (jW cB N q σ) H) (hD : va_D A (jW cB N q σ)) (hS : va_S A s.heap H locs) (hf : jj_readWord_L2 N sI n a2 a3 σ = some ρ), W p l e (rm_jj_readWord) s m args below meth c H locs 0 0 (MQ below (cQ D (gTy cB cI cJ) A (jW cB N q ρ.2) (some (.int (bI ρ.1)))) args s 0 0 A) (F0 m 2 ls []) := by
  intro n
  induction n with
  | zero =>
    intros
    rename_i hf
    cases hf
  | succ n ih =>
    intro a2 a3 σ H locs ls hl hP hD hS hf
    exact jj_readWord_t2 hsI G (fun _ _ _ H locs ls hl hP hD hS hf => ih hl hP hD hS hf) hl hP hD hS hf
set_option maxHeartbeats 4000000 in
set_option maxRecDepth 100000 in
theorem jj_readWord_t0e {p : Program} {l : Launch} {e : Env} {s : State} {m : MethodId} {args : Array Value} {below : List Frame} {meth : Method} {c : Code} {D : va_G} {aK aV : Nat → Nat} {A : Nat → Prop} {cB cI cJ : ClassId} {q : Nat → Nat} {N : Nat} {H : Heap} {locs : List Loc} {ls : Array Slot} {ρ : Bool × JSt} {sI : Nat} (hsI : sI < 6) {p1 : Int32} {σ : JSt} (G : CX p s m args meth c D (gTy cB cI cJ) aK aV A RX1 cX1_readWord 4 (some .boolean)) (hl : lv_has ls 4 [(0, .ref (q 0)), (1, .ref (aK sI)), (2, .int p1)]) (hP : va_P D vwCl (jW cB N q σ) H) (hD : va_D A (jW cB N q σ)) (hS : va_S A s.heap H locs) (hf : jj_readWord N sI p1 σ = some ρ) : W p l e (rm_jj_readWord) s m args below meth c H locs 0 0 (MQ below (cQ D (gTy cB cI cJ) A (jW cB N q ρ.2) (some (.int (bI ρ.1)))) args s 0 0 A) (F0 m 0 ls []) := by
  unfold jj_readWord at hf
  obtain ⟨hx, hb, hml, hown, hT, hrt, hlk, hK, hA, hG, hE⟩ := id G
  refine lv_iconst (v := (0 : Int32)) hx hb dX1_readWord_0 (by decide) ?_
  refine lv_istore_n (lv' := [(3, .int (0 : Int32)), (0, .ref (q 0)), (1, .ref (aK sI)), (2, .int p1)]) hx hb dX1_readWord_1 rfl hl (by decide) rfl (fun ls hl => ?_)
  exact W.eq (g2 := F0 m 2 ls []) rfl (jj_readWord_u2 hsI G FU (lv_sub hl [1, 2, 3, 0] rfl) hP hD hS hf)
set_option maxHeartbeats 4000000 in
set_option maxRecDepth 100000 in
theorem c_jj_readWord {l : Launch} {D : va_G} {aK aV : Nat → Nat} {cB cI cJ : ClassId} {q : Nat → Nat} {N : Nat} {sI : Nat} (hsI : sI < 6) {ρ : Bool × JSt} {p1 : Int32} {σ : JSt} (hf : jj_readWord N sI p1 σ = some ρ) : CT l D (gTy cB cI cJ) aK aV yX1_readWord (wM yX1_readWord cX1_readWord 4 (some .boolean)) (rm_jj_readWord) 0 0 [.ref (q 0), .ref (aK sI), .int p1] (jW cB N q σ) (some (.int (bI ρ.1))) (jW cB N q ρ.2) := by
  refine CT.of (by decide) rfl ?_
  intro p e s m below meth c A G hnm hP hD hS
  have hl := lv_entry [.ref (q 0), .ref (aK sI), .int p1] (n := 4) (Nat.le_of_ble_eq_true rfl)
  rw [lg_entry_eq]
  generalize (lg_sl [.ref (q 0), .ref (aK sI), .int p1] ++ List.replicate (4 - (lg_sl [.ref (q 0), .ref (aK sI), .int p1]).length) Slot.unset).toArray = ls at hl ⊢
  exact jj_readWord_t0e hsI G hl hP hD hS hf
def jj_closeParts (N : Nat) (p0 : Int32) (p1 : Int32) (p2 : Int32) (σ : JSt) : Option (Bool × JSt) := bd (rr_closeHead N p0 p1 (Int32.toInt64 p2) (jf_target σ)) (fun (x1 : RSt) => some (true, (js_target (js_place σ ((jf_place σ) + (1 : Int32))) x1)))
abbrev rm_jj_closeParts : Room := { frames := 3, cells := 0, slots := 0, locals := 118 }
set_option maxHeartbeats 4000000 in
set_option maxRecDepth 100000 in
theorem jj_closeParts_t0e {p : Program} {l : Launch} {e : Env} {s : State} {m : MethodId} {args : Array Value} {below : List Frame} {meth : Method} {c : Code} {D : va_G} {aK aV : Nat → Nat} {A : Nat → Prop} {cB cI cJ : ClassId} {q : Nat → Nat} {N : Nat} {H : Heap} {locs : List Loc} {ls : Array Slot} {ρ : Bool × JSt} {p0 : Int32} {p1 : Int32} {p2 : Int32} {σ : JSt} (G : CX p s m args meth c D (gTy cB cI cJ) aK aV A RX1 cX1_closeParts 4 (some .boolean)) (hl : lv_has ls 4 [(0, .ref (q 0)), (1, .int p0), (2, .int p1), (3, .int p2)]) (hP : va_P D vwCl (jW cB N q σ) H) (hD : va_D A (jW cB N q σ)) (hS : va_S A s.heap H locs) (hf : jj_closeParts N p0 p1 p2 σ = some ρ) : W p l e (rm_jj_closeParts) s m args below meth c H locs 0 0 (MQ below (cQ D (gTy cB cI cJ) A (jW cB N q ρ.2) (some (.int (bI ρ.1)))) args s 0 0 A) (F0 m 0 ls []) := by
  unfold jj_closeParts at hf
  obtain ⟨hx, hb, hml, hown, hT, hrt, hlk, hK, hA, hG, hE⟩ := id G
  refine lv_aload_n hx hb dX1_closeParts_0 rfl (lv_at hl 0 rfl) ?_
  refine lv_dup hx hb dX1_closeParts_1 rfl ?_
  refine gj_X1_place (v := (jf_place σ)) G hP dX1_closeParts_2 rfl ?_
  refine lv_iconst (v := (1 : Int32)) hx hb dX1_closeParts_5 (by decide) ?_
  refine lv_iadd hx hb dX1_closeParts_6 ?_
  refine pj_X1_place (v := ((jf_place σ) + (1 : Int32))) G hP hD hS dX1_closeParts_7 (fun H locs hP hD hS => ?_)
  refine lv_aload_n hx hb dX1_closeParts_10 rfl (lv_at hl 0 rfl) ?_
  refine gj_X1_target G hP dX1_closeParts_11 ?_
  refine lv_iload_n hx hb dX1_closeParts_14 rfl (lv_at hl 1 rfl) ?_
  refine lv_iload_n hx hb dX1_closeParts_15 rfl (lv_at hl 2 rfl) ?_
  refine lv_iload_n hx hb dX1_closeParts_16 rfl (lv_at hl 3 rfl) ?_
  refine lv_i2l (v := (Int32.toInt64 p2)) hx hb dX1_closeParts_17 rfl ?_
  obtain ⟨x1, hx1, hf⟩ := bd_some hf
  refine vJ_target (As := [.int p0, .int p1, .long (Int32.toInt64 p2)]) (rest := []) (τ := x1) G kX1_96 (jG_target_place _ _) (c_rr_closeHead hx1) hP hD hS ⟨rfl, rfl, Nat.le_of_ble_eq_true rfl, Nat.le_of_ble_eq_true rfl⟩ ⟨Nat.zero_le _, Nat.zero_le _⟩ rfl hl.1 (Nat.le_of_ble_eq_true rfl) dX1_closeParts_18 (fun H locs hP hD hS => ?_)
  refine W.eq (g2 := F0 m 21 ls []) rfl ?_
  refine lv_iconst (v := (1 : Int32)) hx hb dX1_closeParts_21 (by decide) ?_
  cases hf
  exact ct_iret G (bI_nar true) hP hD hS dX1_closeParts_22
set_option maxHeartbeats 4000000 in
set_option maxRecDepth 100000 in
theorem c_jj_closeParts {l : Launch} {D : va_G} {aK aV : Nat → Nat} {cB cI cJ : ClassId} {q : Nat → Nat} {N : Nat} {ρ : Bool × JSt} {p0 : Int32} {p1 : Int32} {p2 : Int32} {σ : JSt} (hf : jj_closeParts N p0 p1 p2 σ = some ρ) : CT l D (gTy cB cI cJ) aK aV yX1_closeParts (wM yX1_closeParts cX1_closeParts 4 (some .boolean)) (rm_jj_closeParts) 0 0 [.ref (q 0), .int p0, .int p1, .int p2] (jW cB N q σ) (some (.int (bI ρ.1))) (jW cB N q ρ.2) := by
  refine CT.of (by decide) rfl ?_
  intro p e s m below meth c A G hnm hP hD hS
  have hl := lv_entry [.ref (q 0), .int p0, .int p1, .int p2] (n := 4) (Nat.le_of_ble_eq_true rfl)
  rw [lg_entry_eq]
  generalize (lg_sl [.ref (q 0), .int p0, .int p1, .int p2] ++ List.replicate (4 - (lg_sl [.ref (q 0), .int p0, .int p1, .int p2]).length) Slot.unset).toArray = ls at hl ⊢
  exact jj_closeParts_t0e G hl hP hD hS hf
def jj_readPlainSign_b51 (N : Nat) (k51 : Int32 → Int32 → JSt → Option (Bool × JSt)) (a2 : Int32) (a3 : Int32) (σ : JSt) : Option (Bool × JSt) := (if a2 ≤ a3 then some (true, (js_place σ ((jf_place σ) + a2))) else bd (rr_at 4000 ((jf_place σ) + a3) (jf_tape σ)) (fun (x8 : Int32 × RSt) => bd (rr_put N x8.1 (jf_target σ)) (fun (x9 : RSt) => lt (a3 + (1 : Int32)) (fun (v10 : Int32) => k51 a2 v10 (js_target (js_tape σ x8.2) x9)))))
def jj_readPlainSign_L51 (N : Nat) : Nat → Int32 → Int32 → JSt → Option (Bool × JSt)
  | 0, _, _, _ => none
  | n + 1, a2, a3, σ => jj_readPlainSign_b51 N (jj_readPlainSign_L51 N n) a2 a3 σ
def jj_readPlainSign (N : Nat) (p0 : Int32) (σ : JSt) : Option (Bool × JSt) := (if (32 : Int32) ≤ p0 then bd (rr_size 4000  (jf_tape σ)) (fun (x2 : Int32 × RSt) => bd (rr_signLength 4000 (jf_place σ) x2.1 x2.2) (fun (x3 : Int32 × RSt) => (if x3.1 = 0 then bd (jj_refuse N (2 : Int32) (jf_place σ) (js_tape (js_tape σ x2.2) x3.2)) (fun (x5 : Bool × JSt) => some (x5.1, x5.2)) else jj_readPlainSign_L51 N FU x3.1 (0 : Int32) (js_tape (js_tape σ x2.2) x3.2)))) else bd (jj_refuse N (1 : Int32) (jf_place σ) σ) (fun (x6 : Bool × JSt) => some (x6.1, x6.2)))
abbrev rm_jj_readPlainSign : Room := { frames := 2, cells := 0, slots := 0, locals := 48 }
set_option maxHeartbeats 4000000 in
set_option maxRecDepth 100000 in
theorem jj_readPlainSign_t51 {p : Program} {l : Launch} {e : Env} {s : State} {m : MethodId} {args : Array Value} {below : List Frame} {meth : Method} {c : Code} {D : va_G} {aK aV : Nat → Nat} {A : Nat → Prop} {cB cI cJ : ClassId} {q : Nat → Nat} {N : Nat} {H : Heap} {locs : List Loc} {ls : Array Slot} {ρ : Bool × JSt} {k51 : Int32 → Int32 → JSt → Option (Bool × JSt)} {a2 : Int32} {a3 : Int32} {σ : JSt} (G : CX p s m args meth c D (gTy cB cI cJ) aK aV A RX1 cX1_readPlainSign 4 (some .boolean)) (hk51 : ∀ (a2 : Int32) (a3 : Int32) (σ : JSt) (H : Heap) (locs : List Loc) (ls : Array Slot), lv_has ls 4 [(0, .ref (q 0)), (2, .int a2), (3, .int a3)] → va_P D vwCl (jW cB N q σ) H → va_D A (jW cB N q σ) → va_S A s.heap H locs → k51 a2 a3 σ = some ρ → W p l e (rm_jj_readPlainSign) s m args below meth c H locs 0 0 (MQ below (cQ D (gTy cB cI cJ) A (jW cB N q ρ.2) (some (.int (bI ρ.1)))) args s 0 0 A) (F0 m 51 ls [])) (hl : lv_has ls 4 [(0, .ref (q 0)), (2, .int a2), (3, .int a3)]) (hP : va_P D vwCl (jW cB N q σ) H) (hD : va_D A (jW cB N q σ)) (hS : va_S A s.heap H locs) (hf : jj_readPlainSign_b51 N k51 a2 a3 σ = some ρ) : W p l e (rm_jj_readPlainSign) s m args below meth c H locs 0 0 (MQ below (cQ D (gTy cB cI cJ) A (jW cB N q ρ.2) (some (.int (bI ρ.1)))) args s 0 0 A) (F0 m 51 ls []) := by
  unfold jj_readPlainSign_b51 at hf
  obtain ⟨hx, hb, hml, hown, hT, hrt, hlk, hK, hA, hG, hE⟩ := id G
  refine lv_iload_n hx hb dX1_readPlainSign_51 rfl (lv_at hl 2 rfl) ?_
  refine lv_iload_n hx hb dX1_readPlainSign_52 rfl (lv_at hl 1 rfl) ?_
  refine lv_icmp_ge (tgt := 82) hx hb dX1_readPlainSign_53 (by decide) (fun c7 => ?_) (fun c7 => ?_)
  · have hf := (if_pos c7).symm.trans hf
    refine lv_aload_n hx hb dX1_readPlainSign_82 rfl (lv_at hl 0 rfl) ?_
    refine lv_dup hx hb dX1_readPlainSign_83 rfl ?_
    refine gj_X1_place (v := (jf_place σ)) G hP dX1_readPlainSign_84 rfl ?_
    refine lv_iload_n hx hb dX1_readPlainSign_87 rfl (lv_at hl 1 rfl) ?_
    refine lv_iadd hx hb dX1_readPlainSign_88 ?_
    refine pj_X1_place (v := ((jf_place σ) + a2)) G hP hD hS dX1_readPlainSign_89 (fun H locs hP hD hS => ?_)
    refine lv_iconst (v := (1 : Int32)) hx hb dX1_readPlainSign_92 (by decide) ?_
    cases hf
    exact ct_iret G (bI_nar true) hP hD hS dX1_readPlainSign_93
  · have hf := (if_neg c7).symm.trans hf
    refine lv_aload_n hx hb dX1_readPlainSign_56 rfl (lv_at hl 0 rfl) ?_
    refine gj_X1_target G hP dX1_readPlainSign_57 ?_
    refine lv_aload_n hx hb dX1_readPlainSign_60 rfl (lv_at hl 0 rfl) ?_
    refine gj_X1_tape G hP dX1_readPlainSign_61 ?_
    refine lv_aload_n hx hb dX1_readPlainSign_64 rfl (lv_at hl 0 rfl) ?_
    refine gj_X1_place (v := (jf_place σ)) G hP dX1_readPlainSign_65 rfl ?_
    refine lv_iload_n hx hb dX1_readPlainSign_68 rfl (lv_at hl 2 rfl) ?_
    refine lv_iadd hx hb dX1_readPlainSign_69 ?_
    obtain ⟨x8, hx8, hf⟩ := bd_some hf
    refine vJ_tape (As := [.int ((jf_place σ) + a3)]) (rest := [.ref (q 3)]) (τ := x8.2) G kX1_33 rfl (c_rr_at hx8) hP hD hS ⟨rfl, rfl, Nat.le_of_ble_eq_true rfl, Nat.le_of_ble_eq_true rfl⟩ ⟨Nat.zero_le _, Nat.zero_le _⟩ rfl hl.1 (Nat.le_of_ble_eq_true rfl) dX1_readPlainSign_70 (fun H locs hP hD hS => ?_)
    refine W.eq (g2 := F0 m 73 ls [.int x8.1, .ref (q 3)]) rfl ?_
    obtain ⟨x9, hx9, hf⟩ := bd_some hf
    refine vJ_target (As := [.int x8.1]) (rest := []) (τ := x9) G kX1_113 (jG_target_tape _ _) (c_rr_put hx9) hP hD hS ⟨rfl, rfl, Nat.le_of_ble_eq_true rfl, Nat.le_of_ble_eq_true rfl⟩ ⟨Nat.zero_le _, Nat.zero_le _⟩ rfl hl.1 (Nat.le_of_ble_eq_true rfl) dX1_readPlainSign_73 (fun H locs hP hD hS => ?_)
    refine W.eq (g2 := F0 m 76 ls []) rfl ?_
    obtain ⟨v10, ev10⟩ : ∃ y : Int32, y = (a3 + (1 : Int32)) := ⟨_, rfl⟩
    have hf := lt_eq hf ev10
    refine lv_iinc (v := v10) (lv' := [(3, .int v10), (0, .ref (q 0)), (2, .int a2)]) hx hb dX1_readPlainSign_76 hl (k := 2) rfl (by rw [ev10]; rfl) (by decide) rfl (fun ls hl => ?_)
    refine lv_goto (tgt := 51) hx hb dX1_readPlainSign_79 (by decide) ?_
    exact W.eq (g2 := F0 m 51 ls []) rfl (hk51 _ _ _ _ _ _ (lv_sub hl [1, 2, 0] rfl) hP hD hS hf)
set_option maxHeartbeats 4000000 in
set_option maxRecDepth 100000 in
theorem jj_readPlainSign_u51 {p : Program} {l : Launch} {e : Env} {s : State} {m : MethodId} {args : Array Value} {below : List Frame} {meth : Method} {c : Code} {D : va_G} {aK aV : Nat → Nat} {A : Nat → Prop} {cB cI cJ : ClassId} {q : Nat → Nat} {N : Nat} {ρ : Bool × JSt} (G : CX p s m args meth c D (gTy cB cI cJ) aK aV A RX1 cX1_readPlainSign 4 (some .boolean)) : ∀ (n : Nat) {a2 : Int32} {a3 : Int32} {σ : JSt} {H : Heap} {locs : List Loc} {ls : Array Slot} (hl : lv_has ls 4 [(0, .ref (q 0)), (2, .int a2), (3, .int a3)]) (hP : va_P D vwCl (jW cB N q σ) H) (hD : va_D A (jW cB N q σ)) (hS : va_S A s.heap H locs) (hf : jj_readPlainSign_L51 N n a2 a3 σ = some ρ), W p l e (rm_jj_readPlainSign) s m args below meth c H locs 0 0 (MQ below (cQ D (gTy cB cI cJ) A (jW cB N q ρ.2) (some (.int (bI ρ.1)))) args s 0 0 A) (F0 m 51 ls []) := by
  intro n
  induction n with
  | zero =>
    intros
    rename_i hf
    cases hf
  | succ n ih =>
    intro a2 a3 σ H locs ls hl hP hD hS hf
    exact jj_readPlainSign_t51 G (fun _ _ _ H locs ls hl hP hD hS hf => ih hl hP hD hS hf) hl hP hD hS hf
set_option maxHeartbeats 4000000 in
set_option maxRecDepth 100000 in
theorem jj_readPlainSign_t0e {p : Program} {l : Launch} {e : Env} {s : State} {m : MethodId} {args : Array Value} {below : List Frame} {meth : Method} {c : Code} {D : va_G} {aK aV : Nat → Nat} {A : Nat → Prop} {cB cI cJ : ClassId} {q : Nat → Nat} {N : Nat} {H : Heap} {locs : List Loc} {ls : Array Slot} {ρ : Bool × JSt} {p0 : Int32} {σ : JSt} (G : CX p s m args meth c D (gTy cB cI cJ) aK aV A RX1 cX1_readPlainSign 4 (some .boolean)) (hl : lv_has ls 4 [(0, .ref (q 0)), (1, .int p0)]) (hP : va_P D vwCl (jW cB N q σ) H) (hD : va_D A (jW cB N q σ)) (hS : va_S A s.heap H locs) (hf : jj_readPlainSign N p0 σ = some ρ) : W p l e (rm_jj_readPlainSign) s m args below meth c H locs 0 0 (MQ below (cQ D (gTy cB cI cJ) A (jW cB N q ρ.2) (some (.int (bI ρ.1)))) args s 0 0 A) (F0 m 0 ls []) := by
  unfold jj_readPlainSign at hf
  obtain ⟨hx, hb, hml, hown, hT, hrt, hlk, hK, hA, hG, hE⟩ := id G
  refine lv_iload_n hx hb dX1_readPlainSign_0 rfl (lv_at hl 1 rfl) ?_
  refine lv_bipush (v := (32 : Int32)) hx hb dX1_readPlainSign_1 (by decide) ?_
  refine lv_icmp_ge (tgt := 16) hx hb dX1_readPlainSign_3 (by decide) (fun c1 => ?_) (fun c1 => ?_)
  · have hf := (if_pos c1).symm.trans hf
    refine lv_aload_n hx hb dX1_readPlainSign_16 rfl (lv_at hl 0 rfl) ?_
    refine gj_X1_tape G hP dX1_readPlainSign_17 ?_
    refine lv_aload_n hx hb dX1_readPlainSign_20 rfl (lv_at hl 0 rfl) ?_
    refine gj_X1_place (v := (jf_place σ)) G hP dX1_readPlainSign_21 rfl ?_
    refine lv_aload_n hx hb dX1_readPlainSign_24 rfl (lv_at hl 0 rfl) ?_
    refine gj_X1_tape G hP dX1_readPlainSign_25 ?_
    obtain ⟨x2, hx2, hf⟩ := bd_some hf
    refine vJ_tape (As := []) (rest := [.int (jf_place σ), .ref (q 1)]) (τ := x2.2) G kX1_23 rfl (c_rr_size hx2) hP hD hS ⟨rfl, rfl, Nat.le_of_ble_eq_true rfl, Nat.le_of_ble_eq_true rfl⟩ ⟨Nat.zero_le _, Nat.zero_le _⟩ rfl hl.1 (Nat.le_of_ble_eq_true rfl) dX1_readPlainSign_28 (fun H locs hP hD hS => ?_)
    refine W.eq (g2 := F0 m 31 ls [.int x2.1, .int (jf_place σ), .ref (q 1)]) rfl ?_
    obtain ⟨x3, hx3, hf⟩ := bd_some hf
    refine nJ_tape (As := [.int (jf_place σ), .int x2.1]) (rest := []) (τ := x3.2) G kX1_109 (jG_tape_tape _ _) (c_rr_signLength hx3) hP hD hS ⟨rfl, rfl, Nat.le_of_ble_eq_true rfl, Nat.le_of_ble_eq_true rfl⟩ ⟨Nat.zero_le _, Nat.zero_le _⟩ rfl hl.1 (Nat.le_of_ble_eq_true rfl) dX1_readPlainSign_31 (fun H locs hP hD hS => ?_)
    refine W.eq (g2 := F0 m 34 ls [.int x3.1]) rfl ?_
    refine lv_istore_n (lv' := [(2, .int x3.1), (0, .ref (q 0)), (1, .int p0)]) hx hb dX1_readPlainSign_34 rfl hl (by decide) rfl (fun ls hl => ?_)
    refine lv_iload_n hx hb dX1_readPlainSign_35 rfl (lv_at hl 0 rfl) ?_
    refine lv_if_ne (tgt := 49) hx hb dX1_readPlainSign_36 (by decide) (fun c4 => ?_) (fun c4 => ?_)
    · have hf := (if_neg c4).symm.trans hf
      refine lv_iconst (v := (0 : Int32)) hx hb dX1_readPlainSign_49 (by decide) ?_
      refine lv_istore_n (lv' := [(3, .int (0 : Int32)), (2, .int x3.1), (0, .ref (q 0)), (1, .int p0)]) hx hb dX1_readPlainSign_50 rfl hl (by decide) rfl (fun ls hl => ?_)
      exact W.eq (g2 := F0 m 51 ls []) rfl (jj_readPlainSign_u51 G FU (lv_sub hl [2, 1, 0] rfl) hP hD hS hf)
    · have hf := (if_pos c4).symm.trans hf
      refine lv_aload_n hx hb dX1_readPlainSign_39 rfl (lv_at hl 1 rfl) ?_
      refine lv_iconst (v := (2 : Int32)) hx hb dX1_readPlainSign_40 (by decide) ?_
      refine lv_aload_n hx hb dX1_readPlainSign_41 rfl (lv_at hl 1 rfl) ?_
      refine gj_X1_place (v := (jf_place σ)) G hP dX1_readPlainSign_42 (Eq.trans (jG_place_tape _ _) (jG_place_tape _ _)) ?_
      obtain ⟨x5, hx5, hf⟩ := bd_some hf
      refine uJ (As := [.int (2 : Int32), .int (jf_place σ)]) (rest := []) G kX1_29 (c_jj_refuse hx5) hP hD hS ⟨rfl, rfl, Nat.le_of_ble_eq_true rfl, Nat.le_of_ble_eq_true rfl⟩ ⟨Nat.zero_le _, Nat.zero_le _⟩ rfl hl.1 (Nat.le_of_ble_eq_true rfl) dX1_readPlainSign_45 (fun H locs hP hD hS => ?_)
      refine W.eq (g2 := F0 m 48 ls [.int (bI x5.1)]) rfl ?_
      cases hf
      exact ct_iret G (bI_nar x5.1) hP hD hS dX1_readPlainSign_48
  · have hf := (if_neg c1).symm.trans hf
    refine lv_aload_n hx hb dX1_readPlainSign_6 rfl (lv_at hl 0 rfl) ?_
    refine lv_iconst (v := (1 : Int32)) hx hb dX1_readPlainSign_7 (by decide) ?_
    refine lv_aload_n hx hb dX1_readPlainSign_8 rfl (lv_at hl 0 rfl) ?_
    refine gj_X1_place (v := (jf_place σ)) G hP dX1_readPlainSign_9 rfl ?_
    obtain ⟨x6, hx6, hf⟩ := bd_some hf
    refine uJ (As := [.int (1 : Int32), .int (jf_place σ)]) (rest := []) G kX1_29 (c_jj_refuse hx6) hP hD hS ⟨rfl, rfl, Nat.le_of_ble_eq_true rfl, Nat.le_of_ble_eq_true rfl⟩ ⟨Nat.zero_le _, Nat.zero_le _⟩ rfl hl.1 (Nat.le_of_ble_eq_true rfl) dX1_readPlainSign_12 (fun H locs hP hD hS => ?_)
    refine W.eq (g2 := F0 m 15 ls [.int (bI x6.1)]) rfl ?_
    cases hf
    exact ct_iret G (bI_nar x6.1) hP hD hS dX1_readPlainSign_15
set_option maxHeartbeats 4000000 in
set_option maxRecDepth 100000 in
theorem c_jj_readPlainSign {l : Launch} {D : va_G} {aK aV : Nat → Nat} {cB cI cJ : ClassId} {q : Nat → Nat} {N : Nat} {ρ : Bool × JSt} {p0 : Int32} {σ : JSt} (hf : jj_readPlainSign N p0 σ = some ρ) : CT l D (gTy cB cI cJ) aK aV yX1_readPlainSign (wM yX1_readPlainSign cX1_readPlainSign 4 (some .boolean)) (rm_jj_readPlainSign) 0 0 [.ref (q 0), .int p0] (jW cB N q σ) (some (.int (bI ρ.1))) (jW cB N q ρ.2) := by
  refine CT.of (by decide) rfl ?_
  intro p e s m below meth c A G hnm hP hD hS
  have hl := lv_entry [.ref (q 0), .int p0] (n := 4) (Nat.le_of_ble_eq_true rfl)
  rw [lg_entry_eq]
  generalize (lg_sl [.ref (q 0), .int p0] ++ List.replicate (4 - (lg_sl [.ref (q 0), .int p0]).length) Slot.unset).toArray = ls at hl ⊢
  exact jj_readPlainSign_t0e G hl hP hD hS hf
def jj_readLetter (N : Nat) (σ : JSt) : Option (Bool × JSt) := bd (rr_at 4000 ((jf_place σ) + (1 : Int32)) (jf_tape σ)) (fun (x1 : Int32 × RSt) => lt (eX1_signOf x1.1) (fun (v2 : Int32) => (if v2 = (-1 : Int32) then bd (jj_refuse N (1 : Int32) ((jf_place σ) + (1 : Int32)) (js_tape σ x1.2)) (fun (x5 : Bool × JSt) => some (x5.1, x5.2)) else bd (rr_put N v2 (jf_target σ)) (fun (x4 : RSt) => some (true, (js_place (js_target (js_tape σ x1.2) x4) ((jf_place σ) + (2 : Int32))))))))
abbrev rm_jj_readLetter : Room := { frames := 1, cells := 0, slots := 0, locals := 22 }
set_option maxHeartbeats 4000000 in
set_option maxRecDepth 100000 in
theorem jj_readLetter_t0e {p : Program} {l : Launch} {e : Env} {s : State} {m : MethodId} {args : Array Value} {below : List Frame} {meth : Method} {c : Code} {D : va_G} {aK aV : Nat → Nat} {A : Nat → Prop} {cB cI cJ : ClassId} {q : Nat → Nat} {N : Nat} {H : Heap} {locs : List Loc} {ls : Array Slot} {ρ : Bool × JSt} {σ : JSt} (G : CX p s m args meth c D (gTy cB cI cJ) aK aV A RX1 cX1_readLetter 2 (some .boolean)) (hl : lv_has ls 2 [(0, .ref (q 0))]) (hP : va_P D vwCl (jW cB N q σ) H) (hD : va_D A (jW cB N q σ)) (hS : va_S A s.heap H locs) (hf : jj_readLetter N σ = some ρ) : W p l e (rm_jj_readLetter) s m args below meth c H locs 0 0 (MQ below (cQ D (gTy cB cI cJ) A (jW cB N q ρ.2) (some (.int (bI ρ.1)))) args s 0 0 A) (F0 m 0 ls []) := by
  unfold jj_readLetter at hf
  obtain ⟨hx, hb, hml, hown, hT, hrt, hlk, hK, hA, hG, hE⟩ := id G
  refine lv_aload_n hx hb dX1_readLetter_0 rfl (lv_at hl 0 rfl) ?_
  refine gj_X1_tape G hP dX1_readLetter_1 ?_
  refine lv_aload_n hx hb dX1_readLetter_4 rfl (lv_at hl 0 rfl) ?_
  refine gj_X1_place (v := (jf_place σ)) G hP dX1_readLetter_5 rfl ?_
  refine lv_iconst (v := (1 : Int32)) hx hb dX1_readLetter_8 (by decide) ?_
  refine lv_iadd hx hb dX1_readLetter_9 ?_
  obtain ⟨x1, hx1, hf⟩ := bd_some hf
  refine vJ_tape (As := [.int ((jf_place σ) + (1 : Int32))]) (rest := []) (τ := x1.2) G kX1_33 rfl (c_rr_at hx1) hP hD hS ⟨rfl, rfl, Nat.le_of_ble_eq_true rfl, Nat.le_of_ble_eq_true rfl⟩ ⟨Nat.zero_le _, Nat.zero_le _⟩ rfl hl.1 (Nat.le_of_ble_eq_true rfl) dX1_readLetter_10 (fun H locs hP hD hS => ?_)
  refine W.eq (g2 := F0 m 13 ls [.int x1.1]) rfl ?_
  refine ct_s0 (As := [.int x1.1]) (rest := []) G kX1_117 (c_eX1_signOf x1.1) hP hD hS ⟨rfl, rfl, Nat.le_of_ble_eq_true rfl, Nat.le_of_ble_eq_true rfl⟩ ⟨Nat.zero_le _, Nat.zero_le _⟩ rfl hl.1 (Nat.le_of_ble_eq_true rfl) dX1_readLetter_13 (fun H locs hP hS => ?_)
  refine W.eq (g2 := F0 m 16 ls [.int (eX1_signOf x1.1)]) rfl ?_
  refine lv_topi (fun v2 ev2 => ?_)
  have hf := lt_eq hf ev2
  refine lv_istore_n (lv' := [(1, .int v2), (0, .ref (q 0))]) hx hb dX1_readLetter_16 rfl hl (by decide) rfl (fun ls hl => ?_)
  refine lv_iload_n hx hb dX1_readLetter_17 rfl (lv_at hl 0 rfl) ?_
  refine lv_iconst (v := (-1 : Int32)) hx hb dX1_readLetter_18 (by decide) ?_
  refine lv_icmp_ne (tgt := 34) hx hb dX1_readLetter_19 (by decide) (fun c3 => ?_) (fun c3 => ?_)
  · have hf := (if_neg c3).symm.trans hf
    refine lv_aload_n hx hb dX1_readLetter_34 rfl (lv_at hl 1 rfl) ?_
    refine gj_X1_target G hP dX1_readLetter_35 ?_
    refine lv_iload_n hx hb dX1_readLetter_38 rfl (lv_at hl 0 rfl) ?_
    obtain ⟨x4, hx4, hf⟩ := bd_some hf
    refine vJ_target (As := [.int v2]) (rest := []) (τ := x4) G kX1_113 (jG_target_tape _ _) (c_rr_put hx4) hP hD hS ⟨rfl, rfl, Nat.le_of_ble_eq_true rfl, Nat.le_of_ble_eq_true rfl⟩ ⟨Nat.zero_le _, Nat.zero_le _⟩ rfl hl.1 (Nat.le_of_ble_eq_true rfl) dX1_readLetter_39 (fun H locs hP hD hS => ?_)
    refine W.eq (g2 := F0 m 42 ls []) rfl ?_
    refine lv_aload_n hx hb dX1_readLetter_42 rfl (lv_at hl 1 rfl) ?_
    refine lv_dup hx hb dX1_readLetter_43 rfl ?_
    refine gj_X1_place (v := (jf_place σ)) G hP dX1_readLetter_44 (Eq.trans (jG_place_target _ _) (jG_place_tape _ _)) ?_
    refine lv_iconst (v := (2 : Int32)) hx hb dX1_readLetter_47 (by decide) ?_
    refine lv_iadd hx hb dX1_readLetter_48 ?_
    refine pj_X1_place (v := ((jf_place σ) + (2 : Int32))) G hP hD hS dX1_readLetter_49 (fun H locs hP hD hS => ?_)
    refine lv_iconst (v := (1 : Int32)) hx hb dX1_readLetter_52 (by decide) ?_
    cases hf
    exact ct_iret G (bI_nar true) hP hD hS dX1_readLetter_53
  · have hf := (if_pos c3).symm.trans hf
    refine lv_aload_n hx hb dX1_readLetter_22 rfl (lv_at hl 1 rfl) ?_
    refine lv_iconst (v := (1 : Int32)) hx hb dX1_readLetter_23 (by decide) ?_
    refine lv_aload_n hx hb dX1_readLetter_24 rfl (lv_at hl 1 rfl) ?_
    refine gj_X1_place (v := (jf_place σ)) G hP dX1_readLetter_25 (jG_place_tape _ _) ?_
    refine lv_iconst (v := (1 : Int32)) hx hb dX1_readLetter_28 (by decide) ?_
    refine lv_iadd hx hb dX1_readLetter_29 ?_
    obtain ⟨x5, hx5, hf⟩ := bd_some hf
    refine uJ (As := [.int (1 : Int32), .int ((jf_place σ) + (1 : Int32))]) (rest := []) G kX1_29 (c_jj_refuse hx5) hP hD hS ⟨rfl, rfl, Nat.le_of_ble_eq_true rfl, Nat.le_of_ble_eq_true rfl⟩ ⟨Nat.zero_le _, Nat.zero_le _⟩ rfl hl.1 (Nat.le_of_ble_eq_true rfl) dX1_readLetter_30 (fun H locs hP hD hS => ?_)
    refine W.eq (g2 := F0 m 33 ls [.int (bI x5.1)]) rfl ?_
    cases hf
    exact ct_iret G (bI_nar x5.1) hP hD hS dX1_readLetter_33
set_option maxHeartbeats 4000000 in
set_option maxRecDepth 100000 in
theorem c_jj_readLetter {l : Launch} {D : va_G} {aK aV : Nat → Nat} {cB cI cJ : ClassId} {q : Nat → Nat} {N : Nat} {ρ : Bool × JSt} {σ : JSt} (hf : jj_readLetter N σ = some ρ) : CT l D (gTy cB cI cJ) aK aV yX1_readLetter (wM yX1_readLetter cX1_readLetter 2 (some .boolean)) (rm_jj_readLetter) 0 0 [.ref (q 0)] (jW cB N q σ) (some (.int (bI ρ.1))) (jW cB N q ρ.2) := by
  refine CT.of (by decide) rfl ?_
  intro p e s m below meth c A G hnm hP hD hS
  have hl := lv_entry [.ref (q 0)] (n := 2) (Nat.le_of_ble_eq_true rfl)
  rw [lg_entry_eq]
  generalize (lg_sl [.ref (q 0)] ++ List.replicate (2 - (lg_sl [.ref (q 0)]).length) Slot.unset).toArray = ls at hl ⊢
  exact jj_readLetter_t0e G hl hP hD hS hf
def jj_codeOfEscape_b36 (N : Nat) (k36 : Int32 → Int32 → Int32 → JSt → Option (Int32 × JSt)) (a1 : Int32) (a2 : Int32) (a3 : Int32) (σ : JSt) : Option (Int32 × JSt) := (if (a1 + (6 : Int32)) ≤ a3 then some (a2, σ) else bd (rr_at 4000 a3 (jf_tape σ)) (fun (x7 : Int32 × RSt) => lt (eX1_hexValue x7.1) (fun (v8 : Int32) => (if v8 = (-1 : Int32) then some ((-1 : Int32), (js_tape σ x7.2)) else lt ((a2 * (16 : Int32)) + v8) (fun (v10 : Int32) => lt (a3 + (1 : Int32)) (fun (v11 : Int32) => k36 a1 v10 v11 (js_tape σ x7.2)))))))
def jj_codeOfEscape_L36 (N : Nat) : Nat → Int32 → Int32 → Int32 → JSt → Option (Int32 × JSt)
  | 0, _, _, _, _ => none
  | n + 1, a1, a2, a3, σ => jj_codeOfEscape_b36 N (jj_codeOfEscape_L36 N n) a1 a2 a3 σ
def jj_codeOfEscape (N : Nat) (p0 : Int32) (σ : JSt) : Option (Int32 × JSt) := bd (rr_at 4000 p0 (jf_tape σ)) (fun (x1 : Int32 × RSt) => (if x1.1 = (92 : Int32) then bd (rr_at 4000 (p0 + (1 : Int32)) x1.2) (fun (x3 : Int32 × RSt) => (if x3.1 = (117 : Int32) then lt (p0 + (2 : Int32)) (fun (v5 : Int32) => jj_codeOfEscape_L36 N FU p0 (0 : Int32) v5 (js_tape (js_tape σ x1.2) x3.2)) else some ((-1 : Int32), (js_tape (js_tape σ x1.2) x3.2)))) else some ((-1 : Int32), (js_tape σ x1.2))))
abbrev rm_jj_codeOfEscape : Room := { frames := 1, cells := 0, slots := 0, locals := 21 }
set_option maxHeartbeats 4000000 in
set_option maxRecDepth 100000 in
theorem jj_codeOfEscape_t36 {p : Program} {l : Launch} {e : Env} {s : State} {m : MethodId} {args : Array Value} {below : List Frame} {meth : Method} {c : Code} {D : va_G} {aK aV : Nat → Nat} {A : Nat → Prop} {cB cI cJ : ClassId} {q : Nat → Nat} {N : Nat} {H : Heap} {locs : List Loc} {ls : Array Slot} {ρ : Int32 × JSt} {k36 : Int32 → Int32 → Int32 → JSt → Option (Int32 × JSt)} {a1 : Int32} {a2 : Int32} {a3 : Int32} {σ : JSt} (G : CX p s m args meth c D (gTy cB cI cJ) aK aV A RX1 cX1_codeOfEscape 5 (some .int)) (hk36 : ∀ (a1 : Int32) (a2 : Int32) (a3 : Int32) (σ : JSt) (H : Heap) (locs : List Loc) (ls : Array Slot), lv_has ls 5 [(0, .ref (q 0)), (1, .int a1), (2, .int a2), (3, .int a3)] → va_P D vwCl (jW cB N q σ) H → va_D A (jW cB N q σ) → va_S A s.heap H locs → k36 a1 a2 a3 σ = some ρ → W p l e (rm_jj_codeOfEscape) s m args below meth c H locs 0 0 (MQ below (cQ D (gTy cB cI cJ) A (jW cB N q ρ.2) (some (.int ρ.1))) args s 0 0 A) (F0 m 36 ls [])) (hl : lv_has ls 5 [(0, .ref (q 0)), (1, .int a1), (2, .int a2), (3, .int a3)]) (hP : va_P D vwCl (jW cB N q σ) H) (hD : va_D A (jW cB N q σ)) (hS : va_S A s.heap H locs) (hf : jj_codeOfEscape_b36 N k36 a1 a2 a3 σ = some ρ) : W p l e (rm_jj_codeOfEscape) s m args below meth c H locs 0 0 (MQ below (cQ D (gTy cB cI cJ) A (jW cB N q ρ.2) (some (.int ρ.1))) args s 0 0 A) (F0 m 36 ls []) := by
  unfold jj_codeOfEscape_b36 at hf
  obtain ⟨hx, hb, hml, hown, hT, hrt, hlk, hK, hA, hG, hE⟩ := id G
  refine lv_iload_n hx hb dX1_codeOfEscape_36 rfl (lv_at hl 3 rfl) ?_
  refine lv_iload_n hx hb dX1_codeOfEscape_37 rfl (lv_at hl 1 rfl) ?_
  refine lv_bipush (v := (6 : Int32)) hx hb dX1_codeOfEscape_38 (by decide) ?_
  refine lv_iadd hx hb dX1_codeOfEscape_40 ?_
  refine lv_icmp_ge (tgt := 79) hx hb dX1_codeOfEscape_41 (by decide) (fun c6 => ?_) (fun c6 => ?_)
  · have hf := (if_pos c6).symm.trans hf
    refine lv_iload_n hx hb dX1_codeOfEscape_79 rfl (lv_at hl 2 rfl) ?_
    cases hf
    exact ct_iret G rfl hP hD hS dX1_codeOfEscape_80
  · have hf := (if_neg c6).symm.trans hf
    refine lv_aload_n hx hb dX1_codeOfEscape_44 rfl (lv_at hl 0 rfl) ?_
    refine gj_X1_tape G hP dX1_codeOfEscape_45 ?_
    refine lv_iload_n hx hb dX1_codeOfEscape_48 rfl (lv_at hl 3 rfl) ?_
    obtain ⟨x7, hx7, hf⟩ := bd_some hf
    refine vJ_tape (As := [.int a3]) (rest := []) (τ := x7.2) G kX1_33 rfl (c_rr_at hx7) hP hD hS ⟨rfl, rfl, Nat.le_of_ble_eq_true rfl, Nat.le_of_ble_eq_true rfl⟩ ⟨Nat.zero_le _, Nat.zero_le _⟩ rfl hl.1 (Nat.le_of_ble_eq_true rfl) dX1_codeOfEscape_49 (fun H locs hP hD hS => ?_)
    refine W.eq (g2 := F0 m 52 ls [.int x7.1]) rfl ?_
    refine ct_s0 (As := [.int x7.1]) (rest := []) G kX1_120 (c_eX1_hexValue x7.1) hP hD hS ⟨rfl, rfl, Nat.le_of_ble_eq_true rfl, Nat.le_of_ble_eq_true rfl⟩ ⟨Nat.zero_le _, Nat.zero_le _⟩ rfl hl.1 (Nat.le_of_ble_eq_true rfl) dX1_codeOfEscape_52 (fun H locs hP hS => ?_)
    refine W.eq (g2 := F0 m 55 ls [.int (eX1_hexValue x7.1)]) rfl ?_
    refine lv_topi (fun v8 ev8 => ?_)
    have hf := lt_eq hf ev8
    refine lv_istore (lv' := [(4, .int v8), (0, .ref (q 0)), (1, .int a1), (2, .int a2), (3, .int a3)]) hx hb dX1_codeOfEscape_55 hl (by decide) rfl (fun ls hl => ?_)
    refine lv_iload hx hb dX1_codeOfEscape_57 (lv_at hl 0 rfl) ?_
    refine lv_iconst (v := (-1 : Int32)) hx hb dX1_codeOfEscape_59 (by decide) ?_
    refine lv_icmp_ne (tgt := 65) hx hb dX1_codeOfEscape_60 (by decide) (fun c9 => ?_) (fun c9 => ?_)
    · have hf := (if_neg c9).symm.trans hf
      refine lv_iload_n hx hb dX1_codeOfEscape_65 rfl (lv_at hl 3 rfl) ?_
      refine lv_bipush (v := (16 : Int32)) hx hb dX1_codeOfEscape_66 (by decide) ?_
      refine lv_imul hx hb dX1_codeOfEscape_68 ?_
      refine lv_iload hx hb dX1_codeOfEscape_69 (lv_at hl 0 rfl) ?_
      refine lv_iadd hx hb dX1_codeOfEscape_71 ?_
      refine lv_topi (fun v10 ev10 => ?_)
      have hf := lt_eq hf ev10
      refine lv_istore_n (lv' := [(2, .int v10), (4, .int v8), (0, .ref (q 0)), (1, .int a1), (3, .int a3)]) hx hb dX1_codeOfEscape_72 rfl hl (by decide) rfl (fun ls hl => ?_)
      obtain ⟨v11, ev11⟩ : ∃ y : Int32, y = (a3 + (1 : Int32)) := ⟨_, rfl⟩
      have hf := lt_eq hf ev11
      refine lv_iinc (v := v11) (lv' := [(3, .int v11), (2, .int v10), (4, .int v8), (0, .ref (q 0)), (1, .int a1)]) hx hb dX1_codeOfEscape_73 hl (k := 4) rfl (by rw [ev11]; rfl) (by decide) rfl (fun ls hl => ?_)
      refine lv_goto (tgt := 36) hx hb dX1_codeOfEscape_76 (by decide) ?_
      exact W.eq (g2 := F0 m 36 ls []) rfl (hk36 _ _ _ _ _ _ _ (lv_sub hl [3, 4, 1, 0] rfl) hP hD hS hf)
    · have hf := (if_pos c9).symm.trans hf
      refine lv_iconst (v := (-1 : Int32)) hx hb dX1_codeOfEscape_63 (by decide) ?_
      cases hf
      exact ct_iret G rfl hP hD hS dX1_codeOfEscape_64
set_option maxHeartbeats 4000000 in
set_option maxRecDepth 100000 in
theorem jj_codeOfEscape_u36 {p : Program} {l : Launch} {e : Env} {s : State} {m : MethodId} {args : Array Value} {below : List Frame} {meth : Method} {c : Code} {D : va_G} {aK aV : Nat → Nat} {A : Nat → Prop} {cB cI cJ : ClassId} {q : Nat → Nat} {N : Nat} {ρ : Int32 × JSt} (G : CX p s m args meth c D (gTy cB cI cJ) aK aV A RX1 cX1_codeOfEscape 5 (some .int)) : ∀ (n : Nat) {a1 : Int32} {a2 : Int32} {a3 : Int32} {σ : JSt} {H : Heap} {locs : List Loc} {ls : Array Slot} (hl : lv_has ls 5 [(0, .ref (q 0)), (1, .int a1), (2, .int a2), (3, .int a3)]) (hP : va_P D vwCl (jW cB N q σ) H) (hD : va_D A (jW cB N q σ)) (hS : va_S A s.heap H locs) (hf : jj_codeOfEscape_L36 N n a1 a2 a3 σ = some ρ), W p l e (rm_jj_codeOfEscape) s m args below meth c H locs 0 0 (MQ below (cQ D (gTy cB cI cJ) A (jW cB N q ρ.2) (some (.int ρ.1))) args s 0 0 A) (F0 m 36 ls []) := by
  intro n
  induction n with
  | zero =>
    intros
    rename_i hf
    cases hf
  | succ n ih =>
    intro a1 a2 a3 σ H locs ls hl hP hD hS hf
    exact jj_codeOfEscape_t36 G (fun _ _ _ _ H locs ls hl hP hD hS hf => ih hl hP hD hS hf) hl hP hD hS hf
set_option maxHeartbeats 4000000 in
set_option maxRecDepth 100000 in
theorem jj_codeOfEscape_t0e {p : Program} {l : Launch} {e : Env} {s : State} {m : MethodId} {args : Array Value} {below : List Frame} {meth : Method} {c : Code} {D : va_G} {aK aV : Nat → Nat} {A : Nat → Prop} {cB cI cJ : ClassId} {q : Nat → Nat} {N : Nat} {H : Heap} {locs : List Loc} {ls : Array Slot} {ρ : Int32 × JSt} {p0 : Int32} {σ : JSt} (G : CX p s m args meth c D (gTy cB cI cJ) aK aV A RX1 cX1_codeOfEscape 5 (some .int)) (hl : lv_has ls 5 [(0, .ref (q 0)), (1, .int p0)]) (hP : va_P D vwCl (jW cB N q σ) H) (hD : va_D A (jW cB N q σ)) (hS : va_S A s.heap H locs) (hf : jj_codeOfEscape N p0 σ = some ρ) : W p l e (rm_jj_codeOfEscape) s m args below meth c H locs 0 0 (MQ below (cQ D (gTy cB cI cJ) A (jW cB N q ρ.2) (some (.int ρ.1))) args s 0 0 A) (F0 m 0 ls []) := by
  unfold jj_codeOfEscape at hf
  obtain ⟨hx, hb, hml, hown, hT, hrt, hlk, hK, hA, hG, hE⟩ := id G
  refine lv_aload_n hx hb dX1_codeOfEscape_0 rfl (lv_at hl 0 rfl) ?_
  refine gj_X1_tape G hP dX1_codeOfEscape_1 ?_
  refine lv_iload_n hx hb dX1_codeOfEscape_4 rfl (lv_at hl 1 rfl) ?_
  obtain ⟨x1, hx1, hf⟩ := bd_some hf
  refine vJ_tape (As := [.int p0]) (rest := []) (τ := x1.2) G kX1_33 rfl (c_rr_at hx1) hP hD hS ⟨rfl, rfl, Nat.le_of_ble_eq_true rfl, Nat.le_of_ble_eq_true rfl⟩ ⟨Nat.zero_le _, Nat.zero_le _⟩ rfl hl.1 (Nat.le_of_ble_eq_true rfl) dX1_codeOfEscape_5 (fun H locs hP hD hS => ?_)
  refine W.eq (g2 := F0 m 8 ls [.int x1.1]) rfl ?_
  refine lv_bipush (v := (92 : Int32)) hx hb dX1_codeOfEscape_8 (by decide) ?_
  refine lv_icmp_ne (tgt := 28) hx hb dX1_codeOfEscape_10 (by decide) (fun c2 => ?_) (fun c2 => ?_)
  · have hf := (if_neg c2).symm.trans hf
    refine lv_iconst (v := (-1 : Int32)) hx hb dX1_codeOfEscape_28 (by decide) ?_
    cases hf
    exact ct_iret G rfl hP hD hS dX1_codeOfEscape_29
  · have hf := (if_pos c2).symm.trans hf
    refine lv_aload_n hx hb dX1_codeOfEscape_13 rfl (lv_at hl 0 rfl) ?_
    refine gj_X1_tape G hP dX1_codeOfEscape_14 ?_
    refine lv_iload_n hx hb dX1_codeOfEscape_17 rfl (lv_at hl 1 rfl) ?_
    refine lv_iconst (v := (1 : Int32)) hx hb dX1_codeOfEscape_18 (by decide) ?_
    refine lv_iadd hx hb dX1_codeOfEscape_19 ?_
    obtain ⟨x3, hx3, hf⟩ := bd_some hf
    refine vJ_tape (As := [.int (p0 + (1 : Int32))]) (rest := []) (τ := x3.2) G kX1_33 (jG_tape_tape _ _) (c_rr_at hx3) hP hD hS ⟨rfl, rfl, Nat.le_of_ble_eq_true rfl, Nat.le_of_ble_eq_true rfl⟩ ⟨Nat.zero_le _, Nat.zero_le _⟩ rfl hl.1 (Nat.le_of_ble_eq_true rfl) dX1_codeOfEscape_20 (fun H locs hP hD hS => ?_)
    refine W.eq (g2 := F0 m 23 ls [.int x3.1]) rfl ?_
    refine lv_bipush (v := (117 : Int32)) hx hb dX1_codeOfEscape_23 (by decide) ?_
    refine lv_icmp_eq (tgt := 30) hx hb dX1_codeOfEscape_25 (by decide) (fun c4 => ?_) (fun c4 => ?_)
    · have hf := (if_pos c4).symm.trans hf
      refine lv_iconst (v := (0 : Int32)) hx hb dX1_codeOfEscape_30 (by decide) ?_
      refine lv_istore_n (lv' := [(2, .int (0 : Int32)), (0, .ref (q 0)), (1, .int p0)]) hx hb dX1_codeOfEscape_31 rfl hl (by decide) rfl (fun ls hl => ?_)
      refine lv_iload_n hx hb dX1_codeOfEscape_32 rfl (lv_at hl 2 rfl) ?_
      refine lv_iconst (v := (2 : Int32)) hx hb dX1_codeOfEscape_33 (by decide) ?_
      refine lv_iadd hx hb dX1_codeOfEscape_34 ?_
      refine lv_topi (fun v5 ev5 => ?_)
      have hf := lt_eq hf ev5
      refine lv_istore_n (lv' := [(3, .int v5), (2, .int (0 : Int32)), (0, .ref (q 0)), (1, .int p0)]) hx hb dX1_codeOfEscape_35 rfl hl (by decide) rfl (fun ls hl => ?_)
      exact W.eq (g2 := F0 m 36 ls []) rfl (jj_codeOfEscape_u36 G FU (lv_sub hl [2, 3, 1, 0] rfl) hP hD hS hf)
    · have hf := (if_neg c4).symm.trans hf
      refine lv_iconst (v := (-1 : Int32)) hx hb dX1_codeOfEscape_28 (by decide) ?_
      cases hf
      exact ct_iret G rfl hP hD hS dX1_codeOfEscape_29
set_option maxHeartbeats 4000000 in
set_option maxRecDepth 100000 in
theorem c_jj_codeOfEscape {l : Launch} {D : va_G} {aK aV : Nat → Nat} {cB cI cJ : ClassId} {q : Nat → Nat} {N : Nat} {ρ : Int32 × JSt} {p0 : Int32} {σ : JSt} (hf : jj_codeOfEscape N p0 σ = some ρ) : CT l D (gTy cB cI cJ) aK aV yX1_codeOfEscape (wM yX1_codeOfEscape cX1_codeOfEscape 5 (some .int)) (rm_jj_codeOfEscape) 0 0 [.ref (q 0), .int p0] (jW cB N q σ) (some (.int ρ.1)) (jW cB N q ρ.2) := by
  refine CT.of (by decide) rfl ?_
  intro p e s m below meth c A G hnm hP hD hS
  have hl := lv_entry [.ref (q 0), .int p0] (n := 5) (Nat.le_of_ble_eq_true rfl)
  rw [lg_entry_eq]
  generalize (lg_sl [.ref (q 0), .int p0] ++ List.replicate (5 - (lg_sl [.ref (q 0), .int p0]).length) Slot.unset).toArray = ls at hl ⊢
  exact jj_codeOfEscape_t0e G hl hP hD hS hf
def jj_putSign_b63 (N : Nat) (k63 : Int32 → Int32 → JSt → Option (JSt)) (a1 : Int32) (a3 : Int32) (σ : JSt) : Option (JSt) := (if a3 < 0 then some σ else bd (rr_put N ((128 : Int32) ||| ((a1 >>> (((6 : Int32) * a3) &&& 31)) &&& (63 : Int32))) (jf_target σ)) (fun (x8 : RSt) => lt (a3 + (-1 : Int32)) (fun (v9 : Int32) => k63 a1 v9 (js_target σ x8))))
def jj_putSign_L63 (N : Nat) : Nat → Int32 → Int32 → JSt → Option (JSt)
  | 0, _, _, _ => none
  | n + 1, a1, a3, σ => jj_putSign_b63 N (jj_putSign_L63 N n) a1 a3 σ
def jj_putSign_b38 (N : Nat) (a1 : Int32) (s0 : Int32) (σ : JSt) : Option (JSt) := bd (rr_put N (((65280 : Int32) >>> ((s0 + (1 : Int32)) &&& 31)) ||| (a1 >>> (((6 : Int32) * s0) &&& 31))) (jf_target σ)) (fun (x5 : RSt) => lt (s0 - (1 : Int32)) (fun (v6 : Int32) => jj_putSign_L63 N FU a1 v6 (js_target σ x5)))
def jj_putSign (N : Nat) (p0 : Int32) (σ : JSt) : Option (JSt) := (if (128 : Int32) ≤ p0 then (if (2048 : Int32) ≤ p0 then (if (65536 : Int32) ≤ p0 then jj_putSign_b38 N p0 (3 : Int32) σ else jj_putSign_b38 N p0 (2 : Int32) σ) else jj_putSign_b38 N p0 (1 : Int32) σ) else bd (rr_put N p0 (jf_target σ)) (fun (x4 : RSt) => some (js_target σ x4)))
abbrev rm_jj_putSign : Room := { frames := 1, cells := 0, slots := 0, locals := 21 }
set_option maxHeartbeats 4000000 in
set_option maxRecDepth 100000 in
theorem jj_putSign_t63 {p : Program} {l : Launch} {e : Env} {s : State} {m : MethodId} {args : Array Value} {below : List Frame} {meth : Method} {c : Code} {D : va_G} {aK aV : Nat → Nat} {A : Nat → Prop} {cB cI cJ : ClassId} {q : Nat → Nat} {N : Nat} {H : Heap} {locs : List Loc} {ls : Array Slot} {ρ : JSt} {k63 : Int32 → Int32 → JSt → Option (JSt)} {a1 : Int32} {a3 : Int32} {σ : JSt} (G : CX p s m args meth c D (gTy cB cI cJ) aK aV A RX1 cX1_putSign 4 none) (hk63 : ∀ (a1 : Int32) (a3 : Int32) (σ : JSt) (H : Heap) (locs : List Loc) (ls : Array Slot), lv_has ls 4 [(0, .ref (q 0)), (1, .int a1), (3, .int a3)] → va_P D vwCl (jW cB N q σ) H → va_D A (jW cB N q σ) → va_S A s.heap H locs → k63 a1 a3 σ = some ρ → W p l e (rm_jj_putSign) s m args below meth c H locs 0 0 (MQ below (cQ D (gTy cB cI cJ) A (jW cB N q ρ) none) args s 0 0 A) (F0 m 63 ls [])) (hl : lv_has ls 4 [(0, .ref (q 0)), (1, .int a1), (3, .int a3)]) (hP : va_P D vwCl (jW cB N q σ) H) (hD : va_D A (jW cB N q σ)) (hS : va_S A s.heap H locs) (hf : jj_putSign_b63 N k63 a1 a3 σ = some ρ) : W p l e (rm_jj_putSign) s m args below meth c H locs 0 0 (MQ below (cQ D (gTy cB cI cJ) A (jW cB N q ρ) none) args s 0 0 A) (F0 m 63 ls []) := by
  unfold jj_putSign_b63 at hf
  obtain ⟨hx, hb, hml, hown, hT, hrt, hlk, hK, hA, hG, hE⟩ := id G
  refine lv_iload_n hx hb dX1_putSign_63 rfl (lv_at hl 2 rfl) ?_
  refine lv_if_lt (tgt := 93) hx hb dX1_putSign_64 (by decide) (fun c7 => ?_) (fun c7 => ?_)
  · have hf := (if_pos c7).symm.trans hf
    cases hf
    exact ct_vret G hP hD hS dX1_putSign_93
  · have hf := (if_neg c7).symm.trans hf
    refine lv_aload_n hx hb dX1_putSign_67 rfl (lv_at hl 0 rfl) ?_
    refine gj_X1_target G hP dX1_putSign_68 ?_
    refine lv_sipush (v := (128 : Int32)) hx hb dX1_putSign_71 (by decide) ?_
    refine lv_iload_n hx hb dX1_putSign_74 rfl (lv_at hl 1 rfl) ?_
    refine lv_bipush (v := (6 : Int32)) hx hb dX1_putSign_75 (by decide) ?_
    refine lv_iload_n hx hb dX1_putSign_77 rfl (lv_at hl 2 rfl) ?_
    refine lv_imul hx hb dX1_putSign_78 ?_
    refine lv_ishr hx hb dX1_putSign_79 ?_
    refine lv_bipush (v := (63 : Int32)) hx hb dX1_putSign_80 (by decide) ?_
    refine lv_iand hx hb dX1_putSign_82 ?_
    refine lv_ior hx hb dX1_putSign_83 ?_
    obtain ⟨x8, hx8, hf⟩ := bd_some hf
    refine vJ_target (As := [.int ((128 : Int32) ||| ((a1 >>> (((6 : Int32) * a3) &&& 31)) &&& (63 : Int32)))]) (rest := []) (τ := x8) G kX1_113 rfl (c_rr_put hx8) hP hD hS ⟨rfl, rfl, Nat.le_of_ble_eq_true rfl, Nat.le_of_ble_eq_true rfl⟩ ⟨Nat.zero_le _, Nat.zero_le _⟩ rfl hl.1 (Nat.le_of_ble_eq_true rfl) dX1_putSign_84 (fun H locs hP hD hS => ?_)
    refine W.eq (g2 := F0 m 87 ls []) rfl ?_
    obtain ⟨v9, ev9⟩ : ∃ y : Int32, y = (a3 + (-1 : Int32)) := ⟨_, rfl⟩
    have hf := lt_eq hf ev9
    refine lv_iinc (v := v9) (lv' := [(3, .int v9), (0, .ref (q 0)), (1, .int a1)]) hx hb dX1_putSign_87 hl (k := 2) rfl (by rw [ev9]; rfl) (by decide) rfl (fun ls hl => ?_)
    refine lv_goto (tgt := 63) hx hb dX1_putSign_90 (by decide) ?_
    exact W.eq (g2 := F0 m 63 ls []) rfl (hk63 _ _ _ _ _ _ (lv_sub hl [1, 2, 0] rfl) hP hD hS hf)
set_option maxHeartbeats 4000000 in
set_option maxRecDepth 100000 in
theorem jj_putSign_u63 {p : Program} {l : Launch} {e : Env} {s : State} {m : MethodId} {args : Array Value} {below : List Frame} {meth : Method} {c : Code} {D : va_G} {aK aV : Nat → Nat} {A : Nat → Prop} {cB cI cJ : ClassId} {q : Nat → Nat} {N : Nat} {ρ : JSt} (G : CX p s m args meth c D (gTy cB cI cJ) aK aV A RX1 cX1_putSign 4 none) : ∀ (n : Nat) {a1 : Int32} {a3 : Int32} {σ : JSt} {H : Heap} {locs : List Loc} {ls : Array Slot} (hl : lv_has ls 4 [(0, .ref (q 0)), (1, .int a1), (3, .int a3)]) (hP : va_P D vwCl (jW cB N q σ) H) (hD : va_D A (jW cB N q σ)) (hS : va_S A s.heap H locs) (hf : jj_putSign_L63 N n a1 a3 σ = some ρ), W p l e (rm_jj_putSign) s m args below meth c H locs 0 0 (MQ below (cQ D (gTy cB cI cJ) A (jW cB N q ρ) none) args s 0 0 A) (F0 m 63 ls []) := by
  intro n
  induction n with
  | zero =>
    intros
    rename_i hf
    cases hf
  | succ n ih =>
    intro a1 a3 σ H locs ls hl hP hD hS hf
    exact jj_putSign_t63 G (fun _ _ _ H locs ls hl hP hD hS hf => ih hl hP hD hS hf) hl hP hD hS hf
set_option maxHeartbeats 4000000 in
set_option maxRecDepth 100000 in
theorem jj_putSign_t38 {p : Program} {l : Launch} {e : Env} {s : State} {m : MethodId} {args : Array Value} {below : List Frame} {meth : Method} {c : Code} {D : va_G} {aK aV : Nat → Nat} {A : Nat → Prop} {cB cI cJ : ClassId} {q : Nat → Nat} {N : Nat} {H : Heap} {locs : List Loc} {ls : Array Slot} {ρ : JSt} {a1 : Int32} {s0 : Int32} {σ : JSt} (G : CX p s m args meth c D (gTy cB cI cJ) aK aV A RX1 cX1_putSign 4 none) (hl : lv_has ls 4 [(0, .ref (q 0)), (1, .int a1)]) (hP : va_P D vwCl (jW cB N q σ) H) (hD : va_D A (jW cB N q σ)) (hS : va_S A s.heap H locs) (hf : jj_putSign_b38 N a1 s0 σ = some ρ) : W p l e (rm_jj_putSign) s m args below meth c H locs 0 0 (MQ below (cQ D (gTy cB cI cJ) A (jW cB N q ρ) none) args s 0 0 A) (F0 m 38 ls [.int s0]) := by
  unfold jj_putSign_b38 at hf
  obtain ⟨hx, hb, hml, hown, hT, hrt, hlk, hK, hA, hG, hE⟩ := id G
  refine lv_istore_n (lv' := [(2, .int s0), (0, .ref (q 0)), (1, .int a1)]) hx hb dX1_putSign_38 rfl hl (by decide) rfl (fun ls hl => ?_)
  refine lv_aload_n hx hb dX1_putSign_39 rfl (lv_at hl 1 rfl) ?_
  refine gj_X1_target G hP dX1_putSign_40 ?_
  refine lv_ldc (v := (65280 : Int32)) hx hb hown (hT _ wc_X1_138) dX1_putSign_43 ?_
  refine lv_iload_n hx hb dX1_putSign_45 rfl (lv_at hl 0 rfl) ?_
  refine lv_iconst (v := (1 : Int32)) hx hb dX1_putSign_46 (by decide) ?_
  refine lv_iadd hx hb dX1_putSign_47 ?_
  refine lv_ishr hx hb dX1_putSign_48 ?_
  refine lv_iload_n hx hb dX1_putSign_49 rfl (lv_at hl 2 rfl) ?_
  refine lv_bipush (v := (6 : Int32)) hx hb dX1_putSign_50 (by decide) ?_
  refine lv_iload_n hx hb dX1_putSign_52 rfl (lv_at hl 0 rfl) ?_
  refine lv_imul hx hb dX1_putSign_53 ?_
  refine lv_ishr hx hb dX1_putSign_54 ?_
  refine lv_ior hx hb dX1_putSign_55 ?_
  obtain ⟨x5, hx5, hf⟩ := bd_some hf
  refine vJ_target (As := [.int (((65280 : Int32) >>> ((s0 + (1 : Int32)) &&& 31)) ||| (a1 >>> (((6 : Int32) * s0) &&& 31)))]) (rest := []) (τ := x5) G kX1_113 rfl (c_rr_put hx5) hP hD hS ⟨rfl, rfl, Nat.le_of_ble_eq_true rfl, Nat.le_of_ble_eq_true rfl⟩ ⟨Nat.zero_le _, Nat.zero_le _⟩ rfl hl.1 (Nat.le_of_ble_eq_true rfl) dX1_putSign_56 (fun H locs hP hD hS => ?_)
  refine W.eq (g2 := F0 m 59 ls []) rfl ?_
  refine lv_iload_n hx hb dX1_putSign_59 rfl (lv_at hl 0 rfl) ?_
  refine lv_iconst (v := (1 : Int32)) hx hb dX1_putSign_60 (by decide) ?_
  refine lv_isub hx hb dX1_putSign_61 ?_
  refine lv_topi (fun v6 ev6 => ?_)
  have hf := lt_eq hf ev6
  refine lv_istore_n (lv' := [(3, .int v6), (2, .int s0), (0, .ref (q 0)), (1, .int a1)]) hx hb dX1_putSign_62 rfl hl (by decide) rfl (fun ls hl => ?_)
  exact W.eq (g2 := F0 m 63 ls []) rfl (jj_putSign_u63 G FU (lv_sub hl [2, 3, 0] rfl) hP hD hS hf)
set_option maxHeartbeats 4000000 in
set_option maxRecDepth 100000 in
theorem jj_putSign_t0e {p : Program} {l : Launch} {e : Env} {s : State} {m : MethodId} {args : Array Value} {below : List Frame} {meth : Method} {c : Code} {D : va_G} {aK aV : Nat → Nat} {A : Nat → Prop} {cB cI cJ : ClassId} {q : Nat → Nat} {N : Nat} {H : Heap} {locs : List Loc} {ls : Array Slot} {ρ : JSt} {p0 : Int32} {σ : JSt} (G : CX p s m args meth c D (gTy cB cI cJ) aK aV A RX1 cX1_putSign 4 none) (hl : lv_has ls 4 [(0, .ref (q 0)), (1, .int p0)]) (hP : va_P D vwCl (jW cB N q σ) H) (hD : va_D A (jW cB N q σ)) (hS : va_S A s.heap H locs) (hf : jj_putSign N p0 σ = some ρ) : W p l e (rm_jj_putSign) s m args below meth c H locs 0 0 (MQ below (cQ D (gTy cB cI cJ) A (jW cB N q ρ) none) args s 0 0 A) (F0 m 0 ls []) := by
  unfold jj_putSign at hf
  obtain ⟨hx, hb, hml, hown, hT, hrt, hlk, hK, hA, hG, hE⟩ := id G
  refine lv_iload_n hx hb dX1_putSign_0 rfl (lv_at hl 1 rfl) ?_
  refine lv_sipush (v := (128 : Int32)) hx hb dX1_putSign_1 (by decide) ?_
  refine lv_icmp_ge (tgt := 16) hx hb dX1_putSign_4 (by decide) (fun c1 => ?_) (fun c1 => ?_)
  · have hf := (if_pos c1).symm.trans hf
    refine lv_iload_n hx hb dX1_putSign_16 rfl (lv_at hl 1 rfl) ?_
    refine lv_sipush (v := (2048 : Int32)) hx hb dX1_putSign_17 (by decide) ?_
    refine lv_icmp_ge (tgt := 27) hx hb dX1_putSign_20 (by decide) (fun c2 => ?_) (fun c2 => ?_)
    · have hf := (if_pos c2).symm.trans hf
      refine lv_iload_n hx hb dX1_putSign_27 rfl (lv_at hl 1 rfl) ?_
      refine lv_ldc (v := (65536 : Int32)) hx hb hown (hT _ wc_X1_135) dX1_putSign_28 ?_
      refine lv_icmp_ge (tgt := 37) hx hb dX1_putSign_30 (by decide) (fun c3 => ?_) (fun c3 => ?_)
      · have hf := (if_pos c3).symm.trans hf
        refine lv_iconst (v := (3 : Int32)) hx hb dX1_putSign_37 (by decide) ?_
        exact W.eq (g2 := F0 m 38 ls [.int (3 : Int32)]) rfl (jj_putSign_t38 G (lv_sub hl [0, 1] rfl) hP hD hS hf)
      · have hf := (if_neg c3).symm.trans hf
        refine lv_iconst (v := (2 : Int32)) hx hb dX1_putSign_33 (by decide) ?_
        refine lv_goto (tgt := 38) hx hb dX1_putSign_34 (by decide) ?_
        exact W.eq (g2 := F0 m 38 ls [.int (2 : Int32)]) rfl (jj_putSign_t38 G (lv_sub hl [0, 1] rfl) hP hD hS hf)
    · have hf := (if_neg c2).symm.trans hf
      refine lv_iconst (v := (1 : Int32)) hx hb dX1_putSign_23 (by decide) ?_
      refine lv_goto (tgt := 38) hx hb dX1_putSign_24 (by decide) ?_
      exact W.eq (g2 := F0 m 38 ls [.int (1 : Int32)]) rfl (jj_putSign_t38 G (lv_sub hl [0, 1] rfl) hP hD hS hf)
  · have hf := (if_neg c1).symm.trans hf
    refine lv_aload_n hx hb dX1_putSign_7 rfl (lv_at hl 0 rfl) ?_
    refine gj_X1_target G hP dX1_putSign_8 ?_
    refine lv_iload_n hx hb dX1_putSign_11 rfl (lv_at hl 1 rfl) ?_
    obtain ⟨x4, hx4, hf⟩ := bd_some hf
    refine vJ_target (As := [.int p0]) (rest := []) (τ := x4) G kX1_113 rfl (c_rr_put hx4) hP hD hS ⟨rfl, rfl, Nat.le_of_ble_eq_true rfl, Nat.le_of_ble_eq_true rfl⟩ ⟨Nat.zero_le _, Nat.zero_le _⟩ rfl hl.1 (Nat.le_of_ble_eq_true rfl) dX1_putSign_12 (fun H locs hP hD hS => ?_)
    refine W.eq (g2 := F0 m 15 ls []) rfl ?_
    cases hf
    exact ct_vret G hP hD hS dX1_putSign_15
set_option maxHeartbeats 4000000 in
set_option maxRecDepth 100000 in
theorem c_jj_putSign {l : Launch} {D : va_G} {aK aV : Nat → Nat} {cB cI cJ : ClassId} {q : Nat → Nat} {N : Nat} {ρ : JSt} {p0 : Int32} {σ : JSt} (hf : jj_putSign N p0 σ = some ρ) : CT l D (gTy cB cI cJ) aK aV yX1_putSign (wM yX1_putSign cX1_putSign 4 none) (rm_jj_putSign) 0 0 [.ref (q 0), .int p0] (jW cB N q σ) none (jW cB N q ρ) := by
  refine CT.of (by decide) rfl ?_
  intro p e s m below meth c A G hnm hP hD hS
  have hl := lv_entry [.ref (q 0), .int p0] (n := 4) (Nat.le_of_ble_eq_true rfl)
  rw [lg_entry_eq]
  generalize (lg_sl [.ref (q 0), .int p0] ++ List.replicate (4 - (lg_sl [.ref (q 0), .int p0]).length) Slot.unset).toArray = ls at hl ⊢
  exact jj_putSign_t0e G hl hP hD hS hf
def jj_readNumberedSign_b7 (N : Nat) (k7 : Int32 → JSt → Option (Bool × JSt)) (a1 : Int32) (σ : JSt) : Option (Bool × JSt) := (if ((jf_place σ) + (6 : Int32)) ≤ a1 then bd (jj_codeOfEscape N (jf_place σ) σ) (fun (x3 : Int32 × JSt) => (if (eX1_isSecondHalf x3.1) = true then bd (jj_refuse N (2 : Int32) (jf_place x3.2) x3.2) (fun (x11 : Bool × JSt) => some (x11.1, x11.2)) else (if (eX1_isFirstHalf x3.1) = true then bd (jj_codeOfEscape N ((jf_place x3.2) + (6 : Int32)) x3.2) (fun (x6 : Int32 × JSt) => (if (eX1_isSecondHalf x6.1) = true then bd (jj_putSign N (((65536 : Int32) + ((x3.1 - (55296 : Int32)) <<< ((10 : Int32) &&& 31))) + (x6.1 - (56320 : Int32))) x6.2) (fun (x8 : JSt) => some (true, (js_place x8 ((jf_place x8) + (12 : Int32))))) else bd (jj_refuse N (2 : Int32) (jf_place x6.2) x6.2) (fun (x9 : Bool × JSt) => some (x9.1, x9.2)))) else bd (jj_putSign N x3.1 x3.2) (fun (x10 : JSt) => some (true, (js_place x10 ((jf_place x10) + (6 : Int32)))))))) else bd (rr_at 4000 a1 (jf_tape σ)) (fun (x12 : Int32 × RSt) => (if (eX1_hexValue x12.1) = (-1 : Int32) then bd (jj_refuse N (1 : Int32) a1 (js_tape σ x12.2)) (fun (x15 : Bool × JSt) => some (x15.1, x15.2)) else lt (a1 + (1 : Int32)) (fun (v14 : Int32) => k7 v14 (js_tape σ x12.2)))))
def jj_readNumberedSign_L7 (N : Nat) : Nat → Int32 → JSt → Option (Bool × JSt)
  | 0, _, _ => none
  | n + 1, a1, σ => jj_readNumberedSign_b7 N (jj_readNumberedSign_L7 N n) a1 σ
def jj_readNumberedSign (N : Nat) (σ : JSt) : Option (Bool × JSt) := lt ((jf_place σ) + (2 : Int32)) (fun (v1 : Int32) => jj_readNumberedSign_L7 N FU v1 σ)
abbrev rm_jj_readNumberedSign : Room := { frames := 2, cells := 0, slots := 0, locals := 45 }
set_option maxHeartbeats 4000000 in
set_option maxRecDepth 100000 in
theorem jj_readNumberedSign_t7 {p : Program} {l : Launch} {e : Env} {s : State} {m : MethodId} {args : Array Value} {below : List Frame} {meth : Method} {c : Code} {D : va_G} {aK aV : Nat → Nat} {A : Nat → Prop} {cB cI cJ : ClassId} {q : Nat → Nat} {N : Nat} {H : Heap} {locs : List Loc} {ls : Array Slot} {ρ : Bool × JSt} {k7 : Int32 → JSt → Option (Bool × JSt)} {a1 : Int32} {σ : JSt} (G : CX p s m args meth c D (gTy cB cI cJ) aK aV A RX1 cX1_readNumberedSign 3 (some .boolean)) (hk7 : ∀ (a1 : Int32) (σ : JSt) (H : Heap) (locs : List Loc) (ls : Array Slot), lv_has ls 3 [(0, .ref (q 0)), (1, .int a1)] → va_P D vwCl (jW cB N q σ) H → va_D A (jW cB N q σ) → va_S A s.heap H locs → k7 a1 σ = some ρ → W p l e (rm_jj_readNumberedSign) s m args below meth c H locs 0 0 (MQ below (cQ D (gTy cB cI cJ) A (jW cB N q ρ.2) (some (.int (bI ρ.1)))) args s 0 0 A) (F0 m 7 ls [])) (hl : lv_has ls 3 [(0, .ref (q 0)), (1, .int a1)]) (hP : va_P D vwCl (jW cB N q σ) H) (hD : va_D A (jW cB N q σ)) (hS : va_S A s.heap H locs) (hf : jj_readNumberedSign_b7 N k7 a1 σ = some ρ) : W p l e (rm_jj_readNumberedSign) s m args below meth c H locs 0 0 (MQ below (cQ D (gTy cB cI cJ) A (jW cB N q ρ.2) (some (.int (bI ρ.1)))) args s 0 0 A) (F0 m 7 ls []) := by
  unfold jj_readNumberedSign_b7 at hf
  obtain ⟨hx, hb, hml, hown, hT, hrt, hlk, hK, hA, hG, hE⟩ := id G
  refine lv_iload_n hx hb dX1_readNumberedSign_7 rfl (lv_at hl 1 rfl) ?_
  refine lv_aload_n hx hb dX1_readNumberedSign_8 rfl (lv_at hl 0 rfl) ?_
  refine gj_X1_place (v := (jf_place σ)) G hP dX1_readNumberedSign_9 rfl ?_
  refine lv_bipush (v := (6 : Int32)) hx hb dX1_readNumberedSign_12 (by decide) ?_
  refine lv_iadd hx hb dX1_readNumberedSign_14 ?_
  refine lv_icmp_ge (tgt := 46) hx hb dX1_readNumberedSign_15 (by decide) (fun c2 => ?_) (fun c2 => ?_)
  · have hf := (if_pos c2).symm.trans hf
    refine lv_aload_n hx hb dX1_readNumberedSign_46 rfl (lv_at hl 0 rfl) ?_
    refine lv_aload_n hx hb dX1_readNumberedSign_47 rfl (lv_at hl 0 rfl) ?_
    refine gj_X1_place (v := (jf_place σ)) G hP dX1_readNumberedSign_48 rfl ?_
    obtain ⟨x3, hx3, hf⟩ := bd_some hf
    refine vJ (As := [.int (jf_place σ)]) (rest := []) G kX1_123 (c_jj_codeOfEscape hx3) hP hD hS ⟨rfl, rfl, Nat.le_of_ble_eq_true rfl, Nat.le_of_ble_eq_true rfl⟩ ⟨Nat.zero_le _, Nat.zero_le _⟩ rfl hl.1 (Nat.le_of_ble_eq_true rfl) dX1_readNumberedSign_51 (fun H locs hP hD hS => ?_)
    refine W.eq (g2 := F0 m 54 ls [.int x3.1]) rfl ?_
    refine lv_istore_n (lv' := [(1, .int x3.1), (0, .ref (q 0))]) hx hb dX1_readNumberedSign_54 rfl hl (by decide) rfl (fun ls hl => ?_)
    refine lv_iload_n hx hb dX1_readNumberedSign_55 rfl (lv_at hl 0 rfl) ?_
    refine ct_s0 (As := [.int x3.1]) (rest := []) G kX1_126 (c_eX1_isSecondHalf x3.1) hP hD hS ⟨rfl, rfl, Nat.le_of_ble_eq_true rfl, Nat.le_of_ble_eq_true rfl⟩ ⟨Nat.zero_le _, Nat.zero_le _⟩ rfl hl.1 (Nat.le_of_ble_eq_true rfl) dX1_readNumberedSign_56 (fun H locs hP hS => ?_)
    refine W.eq (g2 := F0 m 59 ls [.int (bI (eX1_isSecondHalf x3.1))]) rfl ?_
    refine lv_if_eq (tgt := 72) hx hb dX1_readNumberedSign_59 (by decide) (fun c4 => ?_) (fun c4 => ?_)
    · have hf := (if_neg (bI_0 c4)).symm.trans hf
      refine lv_iload_n hx hb dX1_readNumberedSign_72 rfl (lv_at hl 0 rfl) ?_
      refine ct_s0 (As := [.int x3.1]) (rest := []) G kX1_129 (c_eX1_isFirstHalf x3.1) hP hD hS ⟨rfl, rfl, Nat.le_of_ble_eq_true rfl, Nat.le_of_ble_eq_true rfl⟩ ⟨Nat.zero_le _, Nat.zero_le _⟩ rfl hl.1 (Nat.le_of_ble_eq_true rfl) dX1_readNumberedSign_73 (fun H locs hP hS => ?_)
      refine W.eq (g2 := F0 m 76 ls [.int (bI (eX1_isFirstHalf x3.1))]) rfl ?_
      refine lv_if_ne (tgt := 97) hx hb dX1_readNumberedSign_76 (by decide) (fun c5 => ?_) (fun c5 => ?_)
      · have hf := (if_pos (bI_n c5)).symm.trans hf
        refine lv_aload_n hx hb dX1_readNumberedSign_97 rfl (lv_at hl 1 rfl) ?_
        refine lv_aload_n hx hb dX1_readNumberedSign_98 rfl (lv_at hl 1 rfl) ?_
        refine gj_X1_place (v := (jf_place x3.2)) G hP dX1_readNumberedSign_99 rfl ?_
        refine lv_bipush (v := (6 : Int32)) hx hb dX1_readNumberedSign_102 (by decide) ?_
        refine lv_iadd hx hb dX1_readNumberedSign_104 ?_
        obtain ⟨x6, hx6, hf⟩ := bd_some hf
        refine vJ (As := [.int ((jf_place x3.2) + (6 : Int32))]) (rest := []) G kX1_123 (c_jj_codeOfEscape hx6) hP hD hS ⟨rfl, rfl, Nat.le_of_ble_eq_true rfl, Nat.le_of_ble_eq_true rfl⟩ ⟨Nat.zero_le _, Nat.zero_le _⟩ rfl hl.1 (Nat.le_of_ble_eq_true rfl) dX1_readNumberedSign_105 (fun H locs hP hD hS => ?_)
        refine W.eq (g2 := F0 m 108 ls [.int x6.1]) rfl ?_
        refine lv_istore_n (lv' := [(2, .int x6.1), (1, .int x3.1), (0, .ref (q 0))]) hx hb dX1_readNumberedSign_108 rfl hl (by decide) rfl (fun ls hl => ?_)
        refine lv_iload_n hx hb dX1_readNumberedSign_109 rfl (lv_at hl 0 rfl) ?_
        refine ct_s0 (As := [.int x6.1]) (rest := []) G kX1_126 (c_eX1_isSecondHalf x6.1) hP hD hS ⟨rfl, rfl, Nat.le_of_ble_eq_true rfl, Nat.le_of_ble_eq_true rfl⟩ ⟨Nat.zero_le _, Nat.zero_le _⟩ rfl hl.1 (Nat.le_of_ble_eq_true rfl) dX1_readNumberedSign_110 (fun H locs hP hS => ?_)
        refine W.eq (g2 := F0 m 113 ls [.int (bI (eX1_isSecondHalf x6.1))]) rfl ?_
        refine lv_if_ne (tgt := 126) hx hb dX1_readNumberedSign_113 (by decide) (fun c7 => ?_) (fun c7 => ?_)
        · have hf := (if_pos (bI_n c7)).symm.trans hf
          refine lv_aload_n hx hb dX1_readNumberedSign_126 rfl (lv_at hl 2 rfl) ?_
          refine lv_ldc (v := (65536 : Int32)) hx hb hown (hT _ wc_X1_135) dX1_readNumberedSign_127 ?_
          refine lv_iload_n hx hb dX1_readNumberedSign_129 rfl (lv_at hl 1 rfl) ?_
          refine lv_ldc (v := (55296 : Int32)) hx hb hown (hT _ wc_X1_136) dX1_readNumberedSign_130 ?_
          refine lv_isub hx hb dX1_readNumberedSign_132 ?_
          refine lv_bipush (v := (10 : Int32)) hx hb dX1_readNumberedSign_133 (by decide) ?_
          refine lv_ishl hx hb dX1_readNumberedSign_135 ?_
          refine lv_iadd hx hb dX1_readNumberedSign_136 ?_
          refine lv_iload_n hx hb dX1_readNumberedSign_137 rfl (lv_at hl 0 rfl) ?_
          refine lv_ldc (v := (56320 : Int32)) hx hb hown (hT _ wc_X1_137) dX1_readNumberedSign_138 ?_
          refine lv_isub hx hb dX1_readNumberedSign_140 ?_
          refine lv_iadd hx hb dX1_readNumberedSign_141 ?_
          obtain ⟨x8, hx8, hf⟩ := bd_some hf
          refine vJ (As := [.int (((65536 : Int32) + ((x3.1 - (55296 : Int32)) <<< ((10 : Int32) &&& 31))) + (x6.1 - (56320 : Int32)))]) (rest := []) G kX1_132 (c_jj_putSign hx8) hP hD hS ⟨rfl, rfl, Nat.le_of_ble_eq_true rfl, Nat.le_of_ble_eq_true rfl⟩ ⟨Nat.zero_le _, Nat.zero_le _⟩ rfl hl.1 (Nat.le_of_ble_eq_true rfl) dX1_readNumberedSign_142 (fun H locs hP hD hS => ?_)
          refine W.eq (g2 := F0 m 145 ls []) rfl ?_
          refine lv_aload_n hx hb dX1_readNumberedSign_145 rfl (lv_at hl 2 rfl) ?_
          refine lv_dup hx hb dX1_readNumberedSign_146 rfl ?_
          refine gj_X1_place (v := (jf_place x8)) G hP dX1_readNumberedSign_147 rfl ?_
          refine lv_bipush (v := (12 : Int32)) hx hb dX1_readNumberedSign_150 (by decide) ?_
          refine lv_iadd hx hb dX1_readNumberedSign_152 ?_
          refine pj_X1_place (v := ((jf_place x8) + (12 : Int32))) G hP hD hS dX1_readNumberedSign_153 (fun H locs hP hD hS => ?_)
          refine lv_iconst (v := (1 : Int32)) hx hb dX1_readNumberedSign_156 (by decide) ?_
          cases hf
          exact ct_iret G (bI_nar true) hP hD hS dX1_readNumberedSign_157
        · have hf := (if_neg (bI_0 c7)).symm.trans hf
          refine lv_aload_n hx hb dX1_readNumberedSign_116 rfl (lv_at hl 2 rfl) ?_
          refine lv_iconst (v := (2 : Int32)) hx hb dX1_readNumberedSign_117 (by decide) ?_
          refine lv_aload_n hx hb dX1_readNumberedSign_118 rfl (lv_at hl 2 rfl) ?_
          refine gj_X1_place (v := (jf_place x6.2)) G hP dX1_readNumberedSign_119 rfl ?_
          obtain ⟨x9, hx9, hf⟩ := bd_some hf
          refine uJ (As := [.int (2 : Int32), .int (jf_place x6.2)]) (rest := []) G kX1_29 (c_jj_refuse hx9) hP hD hS ⟨rfl, rfl, Nat.le_of_ble_eq_true rfl, Nat.le_of_ble_eq_true rfl⟩ ⟨Nat.zero_le _, Nat.zero_le _⟩ rfl hl.1 (Nat.le_of_ble_eq_true rfl) dX1_readNumberedSign_122 (fun H locs hP hD hS => ?_)
          refine W.eq (g2 := F0 m 125 ls [.int (bI x9.1)]) rfl ?_
          cases hf
          exact ct_iret G (bI_nar x9.1) hP hD hS dX1_readNumberedSign_125
      · have hf := (if_neg (bI_0 c5)).symm.trans hf
        refine lv_aload_n hx hb dX1_readNumberedSign_79 rfl (lv_at hl 1 rfl) ?_
        refine lv_iload_n hx hb dX1_readNumberedSign_80 rfl (lv_at hl 0 rfl) ?_
        obtain ⟨x10, hx10, hf⟩ := bd_some hf
        refine vJ (As := [.int x3.1]) (rest := []) G kX1_132 (c_jj_putSign hx10) hP hD hS ⟨rfl, rfl, Nat.le_of_ble_eq_true rfl, Nat.le_of_ble_eq_true rfl⟩ ⟨Nat.zero_le _, Nat.zero_le _⟩ rfl hl.1 (Nat.le_of_ble_eq_true rfl) dX1_readNumberedSign_81 (fun H locs hP hD hS => ?_)
        refine W.eq (g2 := F0 m 84 ls []) rfl ?_
        refine lv_aload_n hx hb dX1_readNumberedSign_84 rfl (lv_at hl 1 rfl) ?_
        refine lv_dup hx hb dX1_readNumberedSign_85 rfl ?_
        refine gj_X1_place (v := (jf_place x10)) G hP dX1_readNumberedSign_86 rfl ?_
        refine lv_bipush (v := (6 : Int32)) hx hb dX1_readNumberedSign_89 (by decide) ?_
        refine lv_iadd hx hb dX1_readNumberedSign_91 ?_
        refine pj_X1_place (v := ((jf_place x10) + (6 : Int32))) G hP hD hS dX1_readNumberedSign_92 (fun H locs hP hD hS => ?_)
        refine lv_iconst (v := (1 : Int32)) hx hb dX1_readNumberedSign_95 (by decide) ?_
        cases hf
        exact ct_iret G (bI_nar true) hP hD hS dX1_readNumberedSign_96
    · have hf := (if_pos (bI_n c4)).symm.trans hf
      refine lv_aload_n hx hb dX1_readNumberedSign_62 rfl (lv_at hl 1 rfl) ?_
      refine lv_iconst (v := (2 : Int32)) hx hb dX1_readNumberedSign_63 (by decide) ?_
      refine lv_aload_n hx hb dX1_readNumberedSign_64 rfl (lv_at hl 1 rfl) ?_
      refine gj_X1_place (v := (jf_place x3.2)) G hP dX1_readNumberedSign_65 rfl ?_
      obtain ⟨x11, hx11, hf⟩ := bd_some hf
      refine uJ (As := [.int (2 : Int32), .int (jf_place x3.2)]) (rest := []) G kX1_29 (c_jj_refuse hx11) hP hD hS ⟨rfl, rfl, Nat.le_of_ble_eq_true rfl, Nat.le_of_ble_eq_true rfl⟩ ⟨Nat.zero_le _, Nat.zero_le _⟩ rfl hl.1 (Nat.le_of_ble_eq_true rfl) dX1_readNumberedSign_68 (fun H locs hP hD hS => ?_)
      refine W.eq (g2 := F0 m 71 ls [.int (bI x11.1)]) rfl ?_
      cases hf
      exact ct_iret G (bI_nar x11.1) hP hD hS dX1_readNumberedSign_71
  · have hf := (if_neg c2).symm.trans hf
    refine lv_aload_n hx hb dX1_readNumberedSign_18 rfl (lv_at hl 0 rfl) ?_
    refine gj_X1_tape G hP dX1_readNumberedSign_19 ?_
    refine lv_iload_n hx hb dX1_readNumberedSign_22 rfl (lv_at hl 1 rfl) ?_
    obtain ⟨x12, hx12, hf⟩ := bd_some hf
    refine vJ_tape (As := [.int a1]) (rest := []) (τ := x12.2) G kX1_33 rfl (c_rr_at hx12) hP hD hS ⟨rfl, rfl, Nat.le_of_ble_eq_true rfl, Nat.le_of_ble_eq_true rfl⟩ ⟨Nat.zero_le _, Nat.zero_le _⟩ rfl hl.1 (Nat.le_of_ble_eq_true rfl) dX1_readNumberedSign_23 (fun H locs hP hD hS => ?_)
    refine W.eq (g2 := F0 m 26 ls [.int x12.1]) rfl ?_
    refine ct_s0 (As := [.int x12.1]) (rest := []) G kX1_120 (c_eX1_hexValue x12.1) hP hD hS ⟨rfl, rfl, Nat.le_of_ble_eq_true rfl, Nat.le_of_ble_eq_true rfl⟩ ⟨Nat.zero_le _, Nat.zero_le _⟩ rfl hl.1 (Nat.le_of_ble_eq_true rfl) dX1_readNumberedSign_26 (fun H locs hP hS => ?_)
    refine W.eq (g2 := F0 m 29 ls [.int (eX1_hexValue x12.1)]) rfl ?_
    refine lv_iconst (v := (-1 : Int32)) hx hb dX1_readNumberedSign_29 (by decide) ?_
    refine lv_icmp_ne (tgt := 40) hx hb dX1_readNumberedSign_30 (by decide) (fun c13 => ?_) (fun c13 => ?_)
    · have hf := (if_neg c13).symm.trans hf
      obtain ⟨v14, ev14⟩ : ∃ y : Int32, y = (a1 + (1 : Int32)) := ⟨_, rfl⟩
      have hf := lt_eq hf ev14
      refine lv_iinc (v := v14) (lv' := [(1, .int v14), (0, .ref (q 0))]) hx hb dX1_readNumberedSign_40 hl (k := 1) rfl (by rw [ev14]; rfl) (by decide) rfl (fun ls hl => ?_)
      refine lv_goto (tgt := 7) hx hb dX1_readNumberedSign_43 (by decide) ?_
      exact W.eq (g2 := F0 m 7 ls []) rfl (hk7 _ _ _ _ _ (lv_sub hl [1, 0] rfl) hP hD hS hf)
    · have hf := (if_pos c13).symm.trans hf
      refine lv_aload_n hx hb dX1_readNumberedSign_33 rfl (lv_at hl 0 rfl) ?_
      refine lv_iconst (v := (1 : Int32)) hx hb dX1_readNumberedSign_34 (by decide) ?_
      refine lv_iload_n hx hb dX1_readNumberedSign_35 rfl (lv_at hl 1 rfl) ?_
      obtain ⟨x15, hx15, hf⟩ := bd_some hf
      refine uJ (As := [.int (1 : Int32), .int a1]) (rest := []) G kX1_29 (c_jj_refuse hx15) hP hD hS ⟨rfl, rfl, Nat.le_of_ble_eq_true rfl, Nat.le_of_ble_eq_true rfl⟩ ⟨Nat.zero_le _, Nat.zero_le _⟩ rfl hl.1 (Nat.le_of_ble_eq_true rfl) dX1_readNumberedSign_36 (fun H locs hP hD hS => ?_)
      refine W.eq (g2 := F0 m 39 ls [.int (bI x15.1)]) rfl ?_
      cases hf
      exact ct_iret G (bI_nar x15.1) hP hD hS dX1_readNumberedSign_39
set_option maxHeartbeats 4000000 in
set_option maxRecDepth 100000 in
theorem jj_readNumberedSign_u7 {p : Program} {l : Launch} {e : Env} {s : State} {m : MethodId} {args : Array Value} {below : List Frame} {meth : Method} {c : Code} {D : va_G} {aK aV : Nat → Nat} {A : Nat → Prop} {cB cI cJ : ClassId} {q : Nat → Nat} {N : Nat} {ρ : Bool × JSt} (G : CX p s m args meth c D (gTy cB cI cJ) aK aV A RX1 cX1_readNumberedSign 3 (some .boolean)) : ∀ (n : Nat) {a1 : Int32} {σ : JSt} {H : Heap} {locs : List Loc} {ls : Array Slot} (hl : lv_has ls 3 [(0, .ref (q 0)), (1, .int a1)]) (hP : va_P D vwCl (jW cB N q σ) H) (hD : va_D A (jW cB N q σ)) (hS : va_S A s.heap H locs) (hf : jj_readNumberedSign_L7 N n a1 σ = some ρ), W p l e (rm_jj_readNumberedSign) s m args below meth c H locs 0 0 (MQ below (cQ D (gTy cB cI cJ) A (jW cB N q ρ.2) (some (.int (bI ρ.1)))) args s 0 0 A) (F0 m 7 ls []) := by
  intro n
  induction n with
  | zero =>
    intros
    rename_i hf
    cases hf
  | succ n ih =>
    intro a1 σ H locs ls hl hP hD hS hf
    exact jj_readNumberedSign_t7 G (fun _ _ H locs ls hl hP hD hS hf => ih hl hP hD hS hf) hl hP hD hS hf
set_option maxHeartbeats 4000000 in
set_option maxRecDepth 100000 in
theorem jj_readNumberedSign_t0e {p : Program} {l : Launch} {e : Env} {s : State} {m : MethodId} {args : Array Value} {below : List Frame} {meth : Method} {c : Code} {D : va_G} {aK aV : Nat → Nat} {A : Nat → Prop} {cB cI cJ : ClassId} {q : Nat → Nat} {N : Nat} {H : Heap} {locs : List Loc} {ls : Array Slot} {ρ : Bool × JSt} {σ : JSt} (G : CX p s m args meth c D (gTy cB cI cJ) aK aV A RX1 cX1_readNumberedSign 3 (some .boolean)) (hl : lv_has ls 3 [(0, .ref (q 0))]) (hP : va_P D vwCl (jW cB N q σ) H) (hD : va_D A (jW cB N q σ)) (hS : va_S A s.heap H locs) (hf : jj_readNumberedSign N σ = some ρ) : W p l e (rm_jj_readNumberedSign) s m args below meth c H locs 0 0 (MQ below (cQ D (gTy cB cI cJ) A (jW cB N q ρ.2) (some (.int (bI ρ.1)))) args s 0 0 A) (F0 m 0 ls []) := by
  unfold jj_readNumberedSign at hf
  obtain ⟨hx, hb, hml, hown, hT, hrt, hlk, hK, hA, hG, hE⟩ := id G
  refine lv_aload_n hx hb dX1_readNumberedSign_0 rfl (lv_at hl 0 rfl) ?_
  refine gj_X1_place (v := (jf_place σ)) G hP dX1_readNumberedSign_1 rfl ?_
  refine lv_iconst (v := (2 : Int32)) hx hb dX1_readNumberedSign_4 (by decide) ?_
  refine lv_iadd hx hb dX1_readNumberedSign_5 ?_
  refine lv_topi (fun v1 ev1 => ?_)
  have hf := lt_eq hf ev1
  refine lv_istore_n (lv' := [(1, .int v1), (0, .ref (q 0))]) hx hb dX1_readNumberedSign_6 rfl hl (by decide) rfl (fun ls hl => ?_)
  exact W.eq (g2 := F0 m 7 ls []) rfl (jj_readNumberedSign_u7 G FU (lv_sub hl [1, 0] rfl) hP hD hS hf)
set_option maxHeartbeats 4000000 in
set_option maxRecDepth 100000 in
theorem c_jj_readNumberedSign {l : Launch} {D : va_G} {aK aV : Nat → Nat} {cB cI cJ : ClassId} {q : Nat → Nat} {N : Nat} {ρ : Bool × JSt} {σ : JSt} (hf : jj_readNumberedSign N σ = some ρ) : CT l D (gTy cB cI cJ) aK aV yX1_readNumberedSign (wM yX1_readNumberedSign cX1_readNumberedSign 3 (some .boolean)) (rm_jj_readNumberedSign) 0 0 [.ref (q 0)] (jW cB N q σ) (some (.int (bI ρ.1))) (jW cB N q ρ.2) := by
  refine CT.of (by decide) rfl ?_
  intro p e s m below meth c A G hnm hP hD hS
  have hl := lv_entry [.ref (q 0)] (n := 3) (Nat.le_of_ble_eq_true rfl)
  rw [lg_entry_eq]
  generalize (lg_sl [.ref (q 0)] ++ List.replicate (3 - (lg_sl [.ref (q 0)]).length) Slot.unset).toArray = ls at hl ⊢
  exact jj_readNumberedSign_t0e G hl hP hD hS hf
