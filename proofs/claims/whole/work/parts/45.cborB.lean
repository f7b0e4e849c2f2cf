/-! CBORREADER: items (printed by program wip/gen) -/
def kk_readParts_b101 (N : Nat) (rv : Int32 → KSt → Option (Bool × KSt)) (k70 : Int32 → Int32 → Int32 → Int32 → KSt → Option (Bool × KSt)) (a1 : Int32) (a2 : Int32) (a3 : Int32) (a4 : Int32) (σ : KSt) : Option (Bool × KSt) := bd (rv a1 σ) (fun (x15 : Bool × KSt) => (if x15.1 = true then lt (a4 + (1 : Int32)) (fun (v17 : Int32) => k70 a1 a2 a3 v17 x15.2) else some (false, x15.2)))
def kk_readParts_b90 (N : Nat) (rv : Int32 → KSt → Option (Bool × KSt)) (k70 : Int32 → Int32 → Int32 → Int32 → KSt → Option (Bool × KSt)) (a1 : Int32) (a2 : Int32) (a3 : Int32) (a4 : Int32) (σ : KSt) : Option (Bool × KSt) := (if a2 = 0 then kk_readParts_b101 N rv k70 a1 a2 a3 a4 σ else bd (kk_readKey N  σ) (fun (x13 : Bool × KSt) => (if x13.1 = true then kk_readParts_b101 N rv k70 a1 a2 a3 a4 x13.2 else some (false, x13.2))))
def kk_readParts_b132 (N : Nat) (rv : Int32 → KSt → Option (Bool × KSt)) (s0 : Int32) (σ : KSt) : Option (Bool × KSt) := bd (rr_put N s0 (kf_target σ)) (fun (x11 : RSt) => some (true, (ks_target σ x11)))
def kk_readParts_b70 (N : Nat) (rv : Int32 → KSt → Option (Bool × KSt)) (k70 : Int32 → Int32 → Int32 → Int32 → KSt → Option (Bool × KSt)) (a1 : Int32) (a2 : Int32) (a3 : Int32) (a4 : Int32) (σ : KSt) : Option (Bool × KSt) := (if a3 ≤ a4 then (if a2 = 0 then kk_readParts_b132 N rv (93 : Int32) σ else kk_readParts_b132 N rv (125 : Int32) σ) else (if a4 ≤ 0 then kk_readParts_b90 N rv k70 a1 a2 a3 a4 σ else bd (rr_put N (44 : Int32) (kf_target σ)) (fun (x10 : RSt) => kk_readParts_b90 N rv k70 a1 a2 a3 a4 (ks_target σ x10))))
def kk_readParts_L70 (N : Nat) (rv : Int32 → KSt → Option (Bool × KSt)) : Nat → Int32 → Int32 → Int32 → Int32 → KSt → Option (Bool × KSt)
  | 0, _, _, _, _, _ => none
  | n + 1, a1, a2, a3, a4, σ => kk_readParts_b70 N rv (kk_readParts_L70 N rv n) a1 a2 a3 a4 σ
def kk_readParts_b64 (N : Nat) (rv : Int32 → KSt → Option (Bool × KSt)) (a1 : Int32) (a2 : Int32) (a3 : Int32) (s0 : Int32) (σ : KSt) : Option (Bool × KSt) := bd (rr_put N s0 (kf_target σ)) (fun (x6 : RSt) => kk_readParts_L70 N rv FU a1 a2 a3 (0 : Int32) (ks_target σ x6))
def kk_readParts_b48 (N : Nat) (rv : Int32 → KSt → Option (Bool × KSt)) (a1 : Int32) (a2 : Int32) (s0 : Int32) (σ : KSt) : Option (Bool × KSt) := (if a2 = 0 then kk_readParts_b64 N rv a1 a2 s0 (91 : Int32) σ else kk_readParts_b64 N rv a1 a2 s0 (123 : Int32) σ)
def kk_readParts_b13 (N : Nat) (rv : Int32 → KSt → Option (Bool × KSt)) (a1 : Int32) (s0 : Int32) (σ : KSt) : Option (Bool × KSt) := bd (rr_size 4000  (kf_tape σ)) (fun (x2 : Int32 × RSt) => (if (eX0_isWithin (kf_number σ) x2.1) = true then kk_readParts_b48 N rv a1 s0 (Int64.toInt32 (kf_number σ)) (ks_tape σ x2.2) else bd (rr_size 4000  x2.2) (fun (x4 : Int32 × RSt) => kk_readParts_b48 N rv a1 s0 (x4.1 + (1 : Int32)) (ks_tape (ks_tape σ x2.2) x4.2))))
def kk_readParts (N : Nat) (rv : Int32 → KSt → Option (Bool × KSt)) (p0 : Int32) (σ : KSt) : Option (Bool × KSt) := (if (kf_type σ) = (5 : Int32) then kk_readParts_b13 N rv p0 (1 : Int32) σ else kk_readParts_b13 N rv p0 (0 : Int32) σ)
abbrev rm_kk_readParts (rmv : Room) : Room := { frames := rmv.frames + 16, cells := 0, slots := 0, locals := rmv.locals + 400 }
set_option maxHeartbeats 4000000 in
set_option maxRecDepth 100000 in
theorem kk_readParts_t101 {p : Program} {l : Launch} {e : Env} {s : State} {m : MethodId} {args : Array Value} {below : List Frame} {meth : Method} {c : Code} {D : va_G} {aK aV : Nat → Nat} {A : Nat → Prop} {cB cI cJ : ClassId} {q : Nat → Nat} {N : Nat} {H : Heap} {locs : List Loc} {ls : Array Slot} {ρ : Bool × KSt} {rv : Int32 → KSt → Option (Bool × KSt)} {rmv : Room} (hrv : (∀ {a : Int32} {σ : KSt} {x : Bool × KSt}, rv a σ = some x → CT l D (gTy cB cI cJ) aK aV yX0_readItem (wM yX0_readItem cX0_readItem 3 (some .boolean)) rmv 0 0 [.ref (q 0), .int a] (kW cB N q σ) (some (.int (bI x.1))) (kW cB N q x.2)) ∧ rmv.cells = 0 ∧ rmv.slots = 0) {k70 : Int32 → Int32 → Int32 → Int32 → KSt → Option (Bool × KSt)} {a1 : Int32} {a2 : Int32} {a3 : Int32} {a4 : Int32} {σ : KSt} (G : CX p s m args meth c D (gTy cB cI cJ) aK aV A RX0 cX0_readParts 5 (some .boolean)) (hk70 : ∀ (a1 : Int32) (a2 : Int32) (a3 : Int32) (a4 : Int32) (σ : KSt) (H : Heap) (locs : List Loc) (ls : Array Slot), lv_has ls 5 [(0, .ref (q 0)), (1, .int a1), (2, .int a2), (3, .int a3), (4, .int a4)] → va_P D vwCl (kW cB N q σ) H → va_D A (kW cB N q σ) → va_S A s.heap H locs → k70 a1 a2 a3 a4 σ = some ρ → W p l e (rm_kk_readParts rmv) s m args below meth c H locs 0 0 (MQ below (cQ D (gTy cB cI cJ) A (kW cB N q ρ.2) (some (.int (bI ρ.1)))) args s 0 0 A) (F0 m 70 ls [])) (hl : lv_has ls 5 [(0, .ref (q 0)), (1, .int a1), (2, .int a2), (3, .int a3), (4, .int a4)]) (hP : va_P D vwCl (kW cB N q σ) H) (hD : va_D A (kW cB N q σ)) (hS : va_S A s.heap H locs) (hf : kk_readParts_b101 N rv k70 a1 a2 a3 a4 σ = some ρ) : W p l e (rm_kk_readParts rmv) s m args below meth c H locs 0 0 (MQ below (cQ D (gTy cB cI cJ) A (kW cB N q ρ.2) (some (.int (bI ρ.1)))) args s 0 0 A) (F0 m 101 ls []) := by
  unfold kk_readParts_b101 at hf
  obtain ⟨hx, hb, hml, hown, hT, hrt, hlk, hK, hA, hG, hE⟩ := id G
  refine lv_aload_n hx hb dX0_readParts_101 rfl (lv_at hl 0 rfl) ?_
  refine lv_iload_n hx hb dX0_readParts_102 rfl (lv_at hl 1 rfl) ?_
  obtain ⟨x15, hx15, hf⟩ := bd_some hf
  refine vK (As := [.int a1]) (rest := []) G kX0_105 (hrv.1 hx15) hP hD hS ⟨hrv.2.1, hrv.2.2, (by show rmv.frames + 1 ≤ rmv.frames + 16; omega), (by show 8 + (3 + 11) + rmv.locals ≤ rmv.locals + 400; omega)⟩ ⟨Nat.zero_le _, Nat.zero_le _⟩ rfl hl.1 (Nat.le_of_ble_eq_true rfl) dX0_readParts_103 (fun H locs hP hD hS => ?_)
  refine W.eq (g2 := F0 m 106 ls [.int (bI x15.1)]) rfl ?_
  refine lv_if_ne (tgt := 111) hx hb dX0_readParts_106 (by decide) (fun c16 => ?_) (fun c16 => ?_)
  · have hf := (if_pos (bI_n c16)).symm.trans hf
    obtain ⟨v17, ev17⟩ : ∃ y : Int32, y = (a4 + (1 : Int32)) := ⟨_, rfl⟩
    have hf := lt_eq hf ev17
    refine lv_iinc (v := v17) (lv' := [(4, .int v17), (0, .ref (q 0)), (1, .int a1), (2, .int a2), (3, .int a3)]) hx hb dX0_readParts_111 hl (k := 4) rfl (by rw [ev17]; rfl) (by decide) rfl (fun ls hl => ?_)
    refine lv_goto (tgt := 70) hx hb dX0_readParts_114 (by decide) ?_
    exact W.eq (g2 := F0 m 70 ls []) rfl (hk70 _ _ _ _ _ _ _ _ (lv_sub hl [1, 2, 3, 4, 0] rfl) hP hD hS hf)
  · have hf := (if_neg (bI_0 c16)).symm.trans hf
    refine lv_iconst (v := (0 : Int32)) hx hb dX0_readParts_109 (by decide) ?_
    cases hf
    exact ct_iret G (bI_nar false) hP hD hS dX0_readParts_110
set_option maxHeartbeats 4000000 in
set_option maxRecDepth 100000 in
theorem kk_readParts_t90 {p : Program} {l : Launch} {e : Env} {s : State} {m : MethodId} {args : Array Value} {below : List Frame} {meth : Method} {c : Code} {D : va_G} {aK aV : Nat → Nat} {A : Nat → Prop} {cB cI cJ : ClassId} {q : Nat → Nat} {N : Nat} {H : Heap} {locs : List Loc} {ls : Array Slot} {ρ : Bool × KSt} {rv : Int32 → KSt → Option (Bool × KSt)} {rmv : Room} (hrv : (∀ {a : Int32} {σ : KSt} {x : Bool × KSt}, rv a σ = some x → CT l D (gTy cB cI cJ) aK aV yX0_readItem (wM yX0_readItem cX0_readItem 3 (some .boolean)) rmv 0 0 [.ref (q 0), .int a] (kW cB N q σ) (some (.int (bI x.1))) (kW cB N q x.2)) ∧ rmv.cells = 0 ∧ rmv.slots = 0) {k70 : Int32 → Int32 → Int32 → Int32 → KSt → Option (Bool × KSt)} {a1 : Int32} {a2 : Int32} {a3 : Int32} {a4 : Int32} {σ : KSt} (G : CX p s m args meth c D (gTy cB cI cJ) aK aV A RX0 cX0_readParts 5 (some .boolean)) (hk70 : ∀ (a1 : Int32) (a2 : Int32) (a3 : Int32) (a4 : Int32) (σ : KSt) (H : Heap) (locs : List Loc) (ls : Array Slot), lv_has ls 5 [(0, .ref (q 0)), (1, .int a1), (2, .int a2), (3, .int a3), (4, .int a4)] → va_P D vwCl (kW cB N q σ) H → va_D A (kW cB N q σ) → va_S A s.heap H locs → k70 a1 a2 a3 a4 σ = some ρ → W p l e (rm_kk_readParts rmv) s m args below meth c H locs 0 0 (MQ below (cQ D (gTy cB cI cJ) A (kW cB N q ρ.2) (some (.int (bI ρ.1)))) args s 0 0 A) (F0 m 70 ls [])) (hl : lv_has ls 5 [(0, .ref (q 0)), (1, .int a1), (2, .int a2), (3, .int a3), (4, .int a4)]) (hP : va_P D vwCl (kW cB N q σ) H) (hD : va_D A (kW cB N q σ)) (hS : va_S A s.heap H locs) (hf : kk_readParts_b90 N rv k70 a1 a2 a3 a4 σ = some ρ) : W p l e (rm_kk_readParts rmv) s m args below meth c H locs 0 0 (MQ below (cQ D (gTy cB cI cJ) A (kW cB N q ρ.2) (some (.int (bI ρ.1)))) args s 0 0 A) (F0 m 90 ls []) := by
  unfold kk_readParts_b90 at hf
  obtain ⟨hx, hb, hml, hown, hT, hrt, hlk, hK, hA, hG, hE⟩ := id G
  refine lv_iload_n hx hb dX0_readParts_90 rfl (lv_at hl 2 rfl) ?_
  refine lv_if_eq (tgt := 101) hx hb dX0_readParts_91 (by decide) (fun c12 => ?_) (fun c12 => ?_)
  · have hf := (if_pos c12).symm.trans hf
    exact W.eq (g2 := F0 m 101 ls []) rfl (kk_readParts_t101 hrv G hk70 (lv_sub hl [0, 1, 2, 3, 4] rfl) hP hD hS hf)
  · have hf := (if_neg c12).symm.trans hf
    refine lv_aload_n hx hb dX0_readParts_94 rfl (lv_at hl 0 rfl) ?_
    obtain ⟨x13, hx13, hf⟩ := bd_some hf
    refine vK (As := []) (rest := []) G kX0_102 (c_kk_readKey hx13) hP hD hS ⟨rfl, rfl, Nat.le_trans (m := 16) (Nat.le_of_ble_eq_true rfl) (Nat.le_add_left 16 _), Nat.le_trans (m := 400) (Nat.le_of_ble_eq_true rfl) (Nat.le_add_left 400 _)⟩ ⟨Nat.zero_le _, Nat.zero_le _⟩ rfl hl.1 (Nat.le_of_ble_eq_true rfl) dX0_readParts_95 (fun H locs hP hD hS => ?_)
    refine W.eq (g2 := F0 m 98 ls [.int (bI x13.1)]) rfl ?_
    refine lv_if_eq (tgt := 109) hx hb dX0_readParts_98 (by decide) (fun c14 => ?_) (fun c14 => ?_)
    · have hf := (if_neg (bI_0 c14)).symm.trans hf
      refine lv_iconst (v := (0 : Int32)) hx hb dX0_readParts_109 (by decide) ?_
      cases hf
      exact ct_iret G (bI_nar false) hP hD hS dX0_readParts_110
    · have hf := (if_pos (bI_n c14)).symm.trans hf
      exact W.eq (g2 := F0 m 101 ls []) rfl (kk_readParts_t101 hrv G hk70 (lv_sub hl [0, 1, 2, 3, 4] rfl) hP hD hS hf)
set_option maxHeartbeats 4000000 in
set_option maxRecDepth 100000 in
theorem kk_readParts_t132 {p : Program} {l : Launch} {e : Env} {s : State} {m : MethodId} {args : Array Value} {below : List Frame} {meth : Method} {c : Code} {D : va_G} {aK aV : Nat → Nat} {A : Nat → Prop} {cB cI cJ : ClassId} {q : Nat → Nat} {N : Nat} {H : Heap} {locs : List Loc} {ls : Array Slot} {ρ : Bool × KSt} {rv : Int32 → KSt → Option (Bool × KSt)} {rmv : Room} (hrv : (∀ {a : Int32} {σ : KSt} {x : Bool × KSt}, rv a σ = some x → CT l D (gTy cB cI cJ) aK aV yX0_readItem (wM yX0_readItem cX0_readItem 3 (some .boolean)) rmv 0 0 [.ref (q 0), .int a] (kW cB N q σ) (some (.int (bI x.1))) (kW cB N q x.2)) ∧ rmv.cells = 0 ∧ rmv.slots = 0) {s0 : Int32} {σ : KSt} (G : CX p s m args meth c D (gTy cB cI cJ) aK aV A RX0 cX0_readParts 5 (some .boolean)) (hl : lv_has ls 5 []) (hP : va_P D vwCl (kW cB N q σ) H) (hD : va_D A (kW cB N q σ)) (hS : va_S A s.heap H locs) (hf : kk_readParts_b132 N rv s0 σ = some ρ) : W p l e (rm_kk_readParts rmv) s m args below meth c H locs 0 0 (MQ below (cQ D (gTy cB cI cJ) A (kW cB N q ρ.2) (some (.int (bI ρ.1)))) args s 0 0 A) (F0 m 132 ls [.int s0, .ref (q 3)]) := by
  unfold kk_readParts_b132 at hf
  obtain ⟨hx, hb, hml, hown, hT, hrt, hlk, hK, hA, hG, hE⟩ := id G
  obtain ⟨x11, hx11, hf⟩ := bd_some hf
  refine vK_target (As := [.int s0]) (rest := []) (τ := x11) G kX0_98 rfl (c_rr_put hx11) hP hD hS ⟨rfl, rfl, Nat.le_trans (m := 16) (Nat.le_of_ble_eq_true rfl) (Nat.le_add_left 16 _), Nat.le_trans (m := 400) (Nat.le_of_ble_eq_true rfl) (Nat.le_add_left 400 _)⟩ ⟨Nat.zero_le _, Nat.zero_le _⟩ rfl hl.1 (Nat.le_of_ble_eq_true rfl) dX0_readParts_132 (fun H locs hP hD hS => ?_)
  refine W.eq (g2 := F0 m 135 ls []) rfl ?_
  refine lv_iconst (v := (1 : Int32)) hx hb dX0_readParts_135 (by decide) ?_
  cases hf
  exact ct_iret G (bI_nar true) hP hD hS dX0_readParts_136
set_option maxHeartbeats 4000000 in
set_option maxRecDepth 100000 in
theorem kk_readParts_t70 {p : Program} {l : Launch} {e : Env} {s : State} {m : MethodId} {args : Array Value} {below : List Frame} {meth : Method} {c : Code} {D : va_G} {aK aV : Nat → Nat} {A : Nat → Prop} {cB cI cJ : ClassId} {q : Nat → Nat} {N : Nat} {H : Heap} {locs : List Loc} {ls : Array Slot} {ρ : Bool × KSt} {rv : Int32 → KSt → Option (Bool × KSt)} {rmv : Room} (hrv : (∀ {a : Int32} {σ : KSt} {x : Bool × KSt}, rv a σ = some x → CT l D (gTy cB cI cJ) aK aV yX0_readItem (wM yX0_readItem cX0_readItem 3 (some .boolean)) rmv 0 0 [.ref (q 0), .int a] (kW cB N q σ) (some (.int (bI x.1))) (kW cB N q x.2)) ∧ rmv.cells = 0 ∧ rmv.slots = 0) {k70 : Int32 → Int32 → Int32 → Int32 → KSt → Option (Bool × KSt)} {a1 : Int32} {a2 : Int32} {a3 : Int32} {a4 : Int32} {σ : KSt} (G : CX p s m args meth c D (gTy cB cI cJ) aK aV A RX0 cX0_readParts 5 (some .boolean)) (hk70 : ∀ (a1 : Int32) (a2 : Int32) (a3 : Int32) (a4 : Int32) (σ : KSt) (H : Heap) (locs : List Loc) (ls : Array Slot), lv_has ls 5 [(0, .ref (q 0)), (1, .int a1), (2, .int a2), (3, .int a3), (4, .int a4)] → va_P D vwCl (kW cB N q σ) H → va_D A (kW cB N q σ) → va_S A s.heap H locs → k70 a1 a2 a3 a4 σ = some ρ → W p l e (rm_kk_readParts rmv) s m args below meth c H locs 0 0 (MQ below (cQ D (gTy cB cI cJ) A (kW cB N q ρ.2) (some (.int (bI ρ.1)))) args s 0 0 A) (F0 m 70 ls [])) (hl : lv_has ls 5 [(0, .ref (q 0)), (1, .int a1), (2, .int a2), (3, .int a3), (4, .int a4)]) (hP : va_P D vwCl (kW cB N q σ) H) (hD : va_D A (kW cB N q σ)) (hS : va_S A s.heap H locs) (hf : kk_readParts_b70 N rv k70 a1 a2 a3 a4 σ = some ρ) : W p l e (rm_kk_readParts rmv) s m args below meth c H locs 0 0 (MQ below (cQ D (gTy cB cI cJ) A (kW cB N q ρ.2) (some (.int (bI ρ.1)))) args s 0 0 A) (F0 m 70 ls []) := by
  unfold kk_readParts_b70 at hf
  obtain ⟨hx, hb, hml, hown, hT, hrt, hlk, hK, hA, hG, hE⟩ := id G
  refine lv_iload hx hb dX0_readParts_70 (lv_at hl 4 rfl) ?_
  refine lv_iload_n hx hb dX0_readParts_72 rfl (lv_at hl 3 rfl) ?_
  refine lv_icmp_ge (tgt := 117) hx hb dX0_readParts_73 (by decide) (fun c7 => ?_) (fun c7 => ?_)
  · have hf := (if_pos c7).symm.trans hf
    refine lv_aload_n hx hb dX0_readParts_117 rfl (lv_at hl 0 rfl) ?_
    refine gk_X0_target G hP dX0_readParts_118 ?_
    refine lv_iload_n hx hb dX0_readParts_121 rfl (lv_at hl 2 rfl) ?_
    refine lv_if_eq (tgt := 130) hx hb dX0_readParts_122 (by decide) (fun c8 => ?_) (fun c8 => ?_)
    · have hf := (if_pos c8).symm.trans hf
      refine lv_bipush (v := (93 : Int32)) hx hb dX0_readParts_130 (by decide) ?_
      exact W.eq (g2 := F0 m 132 ls [.int (93 : Int32), .ref (q 3)]) rfl (kk_readParts_t132 hrv G (lv_sub hl [] rfl) hP hD hS hf)
    · have hf := (if_neg c8).symm.trans hf
      refine lv_bipush (v := (125 : Int32)) hx hb dX0_readParts_125 (by decide) ?_
      refine lv_goto (tgt := 132) hx hb dX0_readParts_127 (by decide) ?_
      exact W.eq (g2 := F0 m 132 ls [.int (125 : Int32), .ref (q 3)]) rfl (kk_readParts_t132 hrv G (lv_sub hl [] rfl) hP hD hS hf)
  · have hf := (if_neg c7).symm.trans hf
    refine lv_iload hx hb dX0_readParts_76 (lv_at hl 4 rfl) ?_
    refine lv_if_le (tgt := 90) hx hb dX0_readParts_78 (by decide) (fun c9 => ?_) (fun c9 => ?_)
    · have hf := (if_pos c9).symm.trans hf
      exact W.eq (g2 := F0 m 90 ls []) rfl (kk_readParts_t90 hrv G hk70 (lv_sub hl [0, 1, 2, 3, 4] rfl) hP hD hS hf)
    · have hf := (if_neg c9).symm.trans hf
      refine lv_aload_n hx hb dX0_readParts_81 rfl (lv_at hl 0 rfl) ?_
      refine gk_X0_target G hP dX0_readParts_82 ?_
      refine lv_bipush (v := (44 : Int32)) hx hb dX0_readParts_85 (by decide) ?_
      obtain ⟨x10, hx10, hf⟩ := bd_some hf
      refine vK_target (As := [.int (44 : Int32)]) (rest := []) (τ := x10) G kX0_98 rfl (c_rr_put hx10) hP hD hS ⟨rfl, rfl, Nat.le_trans (m := 16) (Nat.le_of_ble_eq_true rfl) (Nat.le_add_left 16 _), Nat.le_trans (m := 400) (Nat.le_of_ble_eq_true rfl) (Nat.le_add_left 400 _)⟩ ⟨Nat.zero_le _, Nat.zero_le _⟩ rfl hl.1 (Nat.le_of_ble_eq_true rfl) dX0_readParts_87 (fun H locs hP hD hS => ?_)
      refine W.eq (g2 := F0 m 90 ls []) rfl ?_
      exact W.eq (g2 := F0 m 90 ls []) rfl (kk_readParts_t90 hrv G hk70 (lv_sub hl [0, 1, 2, 3, 4] rfl) hP hD hS hf)
set_option maxHeartbeats 4000000 in
set_option maxRecDepth 100000 in
theorem kk_readParts_u70 {p : Program} {l : Launch} {e : Env} {s : State} {m : MethodId} {args : Array Value} {below : List Frame} {meth : Method} {c : Code} {D : va_G} {aK aV : Nat → Nat} {A : Nat → Prop} {cB cI cJ : ClassId} {q : Nat → Nat} {N : Nat} {ρ : Bool × KSt} {rv : Int32 → KSt → Option (Bool × KSt)} {rmv : Room} (hrv : (∀ {a : Int32} {σ : KSt} {x : Bool × KSt}, rv a σ = some x → CT l D (gTy cB cI cJ) aK aV yX0_readItem (wM yX0_readItem cX0_readItem 3 (some .boolean)) rmv 0 0 [.ref (q 0), .int a] (kW cB N q σ) (some (.int (bI x.1))) (kW cB N q x.2)) ∧ rmv.cells = 0 ∧ rmv.slots = 0) (G : CX p s m args meth c D (gTy cB cI cJ) aK aV A RX0 cX0_readParts 5 (some .boolean)) : ∀ (n : Nat) {a1 : Int32} {a2 : Int32} {a3 : Int32} {a4 : Int32} {σ : KSt} {H : Heap} {locs : List Loc} {ls : Array Slot} (hl : lv_has ls 5 [(0, .ref (q 0)), (1, .int a1), (2, .int a2), (3, .int a3), (4, .int a4)]) (hP : va_P D vwCl (kW cB N q σ) H) (hD : va_D A (kW cB N q σ)) (hS : va_S A s.heap H locs) (hf : kk_readParts_L70 N rv n a1 a2 a3 a4 σ = some ρ), W p l e (rm_kk_readParts rmv) s m args below meth c H locs 0 0 (MQ below (cQ D (gTy cB cI cJ) A (kW cB N q ρ.2) (some (.int (bI ρ.1)))) args s 0 0 A) (F0 m 70 ls []) := by
  intro n
  induction n with
  | zero =>
    intros
    rename_i hf
    cases hf
  | succ n ih =>
    intro a1 a2 a3 a4 σ H locs ls hl hP hD hS hf
    exact kk_readParts_t70 hrv G (fun _ _ _ _ _ H locs ls hl hP hD hS hf => ih hl hP hD hS hf) hl hP hD hS hf
set_option maxHeartbeats 4000000 in
set_option maxRecDepth 100000 in
theorem kk_readParts_t64 {p : Program} {l : Launch} {e : Env} {s : State} {m : MethodId} {args : Array Value} {below : List Frame} {meth : Method} {c : Code} {D : va_G} {aK aV : Nat → Nat} {A : Nat → Prop} {cB cI cJ : ClassId} {q : Nat → Nat} {N : Nat} {H : Heap} {locs : List Loc} {ls : Array Slot} {ρ : Bool × KSt} {rv : Int32 → KSt → Option (Bool × KSt)} {rmv : Room} (hrv : (∀ {a : Int32} {σ : KSt} {x : Bool × KSt}, rv a σ = some x → CT l D (gTy cB cI cJ) aK aV yX0_readItem (wM yX0_readItem cX0_readItem 3 (some .boolean)) rmv 0 0 [.ref (q 0), .int a] (kW cB N q σ) (some (.int (bI x.1))) (kW cB N q x.2)) ∧ rmv.cells = 0 ∧ rmv.slots = 0) {a1 : Int32} {a2 : Int32} {a3 : Int32} {s0 : Int32} {σ : KSt} (G : CX p s m args meth c D (gTy cB cI cJ) aK aV A RX0 cX0_readParts 5 (some .boolean)) (hl : lv_has ls 5 [(0, .ref (q 0)), (1, .int a1), (2, .int a2), (3, .int a3)]) (hP : va_P D vwCl (kW cB N q σ) H) (hD : va_D A (kW cB N q σ)) (hS : va_S A s.heap H locs) (hf : kk_readParts_b64 N rv a1 a2 a3 s0 σ = some ρ) : W p l e (rm_kk_readParts rmv) s m args below meth c H locs 0 0 (MQ below (cQ D (gTy cB cI cJ) A (kW cB N q ρ.2) (some (.int (bI ρ.1)))) args s 0 0 A) (F0 m 64 ls [.int s0, .ref (q 3)]) := by
  unfold kk_readParts_b64 at hf
  obtain ⟨hx, hb, hml, hown, hT, hrt, hlk, hK, hA, hG, hE⟩ := id G
  obtain ⟨x6, hx6, hf⟩ := bd_some hf
  refine vK_target (As := [.int s0]) (rest := []) (τ := x6) G kX0_98 rfl (c_rr_put hx6) hP hD hS ⟨rfl, rfl, Nat.le_trans (m := 16) (Nat.le_of_ble_eq_true rfl) (Nat.le_add_left 16 _), Nat.le_trans (m := 400) (Nat.le_of_ble_eq_true rfl) (Nat.le_add_left 400 _)⟩ ⟨Nat.zero_le _, Nat.zero_le _⟩ rfl hl.1 (Nat.le_of_ble_eq_true rfl) dX0_readParts_64 (fun H locs hP hD hS => ?_)
  refine W.eq (g2 := F0 m 67 ls []) rfl ?_
  refine lv_iconst (v := (0 : Int32)) hx hb dX0_readParts_67 (by decide) ?_
  refine lv_istore (lv' := [(4, .int (0 : Int32)), (0, .ref (q 0)), (1, .int a1), (2, .int a2), (3, .int a3)]) hx hb dX0_readParts_68 hl (by decide) rfl (fun ls hl => ?_)
  exact W.eq (g2 := F0 m 70 ls []) rfl (kk_readParts_u70 hrv G FU (lv_sub hl [1, 2, 3, 4, 0] rfl) hP hD hS hf)
set_option maxHeartbeats 4000000 in
set_option maxRecDepth 100000 in
theorem kk_readParts_t48 {p : Program} {l : Launch} {e : Env} {s : State} {m : MethodId} {args : Array Value} {below : List Frame} {meth : Method} {c : Code} {D : va_G} {aK aV : Nat → Nat} {A : Nat → Prop} {cB cI cJ : ClassId} {q : Nat → Nat} {N : Nat} {H : Heap} {locs : List Loc} {ls : Array Slot} {ρ : Bool × KSt} {rv : Int32 → KSt → Option (Bool × KSt)} {rmv : Room} (hrv : (∀ {a : Int32} {σ : KSt} {x : Bool × KSt}, rv a σ = some x → CT l D (gTy cB cI cJ) aK aV yX0_readItem (wM yX0_readItem cX0_readItem 3 (some .boolean)) rmv 0 0 [.ref (q 0), .int a] (kW cB N q σ) (some (.int (bI x.1))) (kW cB N q x.2)) ∧ rmv.cells = 0 ∧ rmv.slots = 0) {a1 : Int32} {a2 : Int32} {s0 : Int32} {σ : KSt} (G : CX p s m args meth c D (gTy cB cI cJ) aK aV A RX0 cX0_readParts 5 (some .boolean)) (hl : lv_has ls 5 [(0, .ref (q 0)), (1, .int a1), (2, .int a2)]) (hP : va_P D vwCl (kW cB N q σ) H) (hD : va_D A (kW cB N q σ)) (hS : va_S A s.heap H locs) (hf : kk_readParts_b48 N rv a1 a2 s0 σ = some ρ) : W p l e (rm_kk_readParts rmv) s m args below meth c H locs 0 0 (MQ below (cQ D (gTy cB cI cJ) A (kW cB N q ρ.2) (some (.int (bI ρ.1)))) args s 0 0 A) (F0 m 48 ls [.int s0]) := by
  unfold kk_readParts_b48 at hf
  obtain ⟨hx, hb, hml, hown, hT, hrt, hlk, hK, hA, hG, hE⟩ := id G
  refine lv_istore_n (lv' := [(3, .int s0), (0, .ref (q 0)), (1, .int a1), (2, .int a2)]) hx hb dX0_readParts_48 rfl hl (by decide) rfl (fun ls hl => ?_)
  refine lv_aload_n hx hb dX0_readParts_49 rfl (lv_at hl 1 rfl) ?_
  refine gk_X0_target G hP dX0_readParts_50 ?_
  refine lv_iload_n hx hb dX0_readParts_53 rfl (lv_at hl 3 rfl) ?_
  refine lv_if_eq (tgt := 62) hx hb dX0_readParts_54 (by decide) (fun c5 => ?_) (fun c5 => ?_)
  · have hf := (if_pos c5).symm.trans hf
    refine lv_bipush (v := (91 : Int32)) hx hb dX0_readParts_62 (by decide) ?_
    exact W.eq (g2 := F0 m 64 ls [.int (91 : Int32), .ref (q 3)]) rfl (kk_readParts_t64 hrv G (lv_sub hl [1, 2, 3, 0] rfl) hP hD hS hf)
  · have hf := (if_neg c5).symm.trans hf
    refine lv_bipush (v := (123 : Int32)) hx hb dX0_readParts_57 (by decide) ?_
    refine lv_goto (tgt := 64) hx hb dX0_readParts_59 (by decide) ?_
    exact W.eq (g2 := F0 m 64 ls [.int (123 : Int32), .ref (q 3)]) rfl (kk_readParts_t64 hrv G (lv_sub hl [1, 2, 3, 0] rfl) hP hD hS hf)
set_option maxHeartbeats 4000000 in
set_option maxRecDepth 100000 in
theorem kk_readParts_t13 {p : Program} {l : Launch} {e : Env} {s : State} {m : MethodId} {args : Array Value} {below : List Frame} {meth : Method} {c : Code} {D : va_G} {aK aV : Nat → Nat} {A : Nat → Prop} {cB cI cJ : ClassId} {q : Nat → Nat} {N : Nat} {H : Heap} {locs : List Loc} {ls : Array Slot} {ρ : Bool × KSt} {rv : Int32 → KSt → Option (Bool × KSt)} {rmv : Room} (hrv : (∀ {a : Int32} {σ : KSt} {x : Bool × KSt}, rv a σ = some x → CT l D (gTy cB cI cJ) aK aV yX0_readItem (wM yX0_readItem cX0_readItem 3 (some .boolean)) rmv 0 0 [.ref (q 0), .int a] (kW cB N q σ) (some (.int (bI x.1))) (kW cB N q x.2)) ∧ rmv.cells = 0 ∧ rmv.slots = 0) {a1 : Int32} {s0 : Int32} {σ : KSt} (G : CX p s m args meth c D (gTy cB cI cJ) aK aV A RX0 cX0_readParts 5 (some .boolean)) (hl : lv_has ls 5 [(0, .ref (q 0)), (1, .int a1)]) (hP : va_P D vwCl (kW cB N q σ) H) (hD : va_D A (kW cB N q σ)) (hS : va_S A s.heap H locs) (hf : kk_readParts_b13 N rv a1 s0 σ = some ρ) : W p l e (rm_kk_readParts rmv) s m args below meth c H locs 0 0 (MQ below (cQ D (gTy cB cI cJ) A (kW cB N q ρ.2) (some (.int (bI ρ.1)))) args s 0 0 A) (F0 m 13 ls [.int s0]) := by
  unfold kk_readParts_b13 at hf
  obtain ⟨hx, hb, hml, hown, hT, hrt, hlk, hK, hA, hG, hE⟩ := id G
  refine lv_istore_n (lv' := [(2, .int s0), (0, .ref (q 0)), (1, .int a1)]) hx hb dX0_readParts_13 rfl hl (by decide) rfl (fun ls hl => ?_)
  refine lv_aload_n hx hb dX0_readParts_14 rfl (lv_at hl 1 rfl) ?_
  refine gk_X0_number (v := (kf_number σ)) G hP dX0_readParts_15 rfl ?_
  refine lv_aload_n hx hb dX0_readParts_18 rfl (lv_at hl 1 rfl) ?_
  refine gk_X0_tape G hP dX0_readParts_19 ?_
  obtain ⟨x2, hx2, hf⟩ := bd_some hf
  refine vK_tape (As := []) (rest := [.long (kf_number σ)]) (τ := x2.2) G kX0_26 rfl (c_rr_size hx2) hP hD hS ⟨rfl, rfl, Nat.le_trans (m := 16) (Nat.le_of_ble_eq_true rfl) (Nat.le_add_left 16 _), Nat.le_trans (m := 400) (Nat.le_of_ble_eq_true rfl) (Nat.le_add_left 400 _)⟩ ⟨Nat.zero_le _, Nat.zero_le _⟩ rfl hl.1 (Nat.le_of_ble_eq_true rfl) dX0_readParts_22 (fun H locs hP hD hS => ?_)
  refine W.eq (g2 := F0 m 25 ls [.int x2.1, .long (kf_number σ)]) rfl ?_
  refine ct_s0 (As := [.long (kf_number σ), .int x2.1]) (rest := []) G kX0_94 (c_eX0_isWithin (kf_number σ) x2.1) hP hD hS ⟨rfl, rfl, Nat.le_trans (m := 16) (Nat.le_of_ble_eq_true rfl) (Nat.le_add_left 16 _), Nat.le_trans (m := 400) (Nat.le_of_ble_eq_true rfl) (Nat.le_add_left 400 _)⟩ ⟨Nat.zero_le _, Nat.zero_le _⟩ rfl hl.1 (Nat.le_of_ble_eq_true rfl) dX0_readParts_25 (fun H locs hP hS => ?_)
  refine W.eq (g2 := F0 m 28 ls [.int (bI (eX0_isWithin (kf_number σ) x2.1))]) rfl ?_
  refine lv_if_eq (tgt := 39) hx hb dX0_readParts_28 (by decide) (fun c3 => ?_) (fun c3 => ?_)
  · have hf := (if_neg (bI_0 c3)).symm.trans hf
    refine lv_aload_n hx hb dX0_readParts_39 rfl (lv_at hl 1 rfl) ?_
    refine gk_X0_tape G hP dX0_readParts_40 ?_
    obtain ⟨x4, hx4, hf⟩ := bd_some hf
    refine vK_tape (As := []) (rest := []) (τ := x4.2) G kX0_26 (kG_tape_tape _ _) (c_rr_size hx4) hP hD hS ⟨rfl, rfl, Nat.le_trans (m := 16) (Nat.le_of_ble_eq_true rfl) (Nat.le_add_left 16 _), Nat.le_trans (m := 400) (Nat.le_of_ble_eq_true rfl) (Nat.le_add_left 400 _)⟩ ⟨Nat.zero_le _, Nat.zero_le _⟩ rfl hl.1 (Nat.le_of_ble_eq_true rfl) dX0_readParts_43 (fun H locs hP hD hS => ?_)
    refine W.eq (g2 := F0 m 46 ls [.int x4.1]) rfl ?_
    refine lv_iconst (v := (1 : Int32)) hx hb dX0_readParts_46 (by decide) ?_
    refine lv_iadd hx hb dX0_readParts_47 ?_
    exact W.eq (g2 := F0 m 48 ls [.int (x4.1 + (1 : Int32))]) rfl (kk_readParts_t48 hrv G (lv_sub hl [1, 2, 0] rfl) hP hD hS hf)
  · have hf := (if_pos (bI_n c3)).symm.trans hf
    refine lv_aload_n hx hb dX0_readParts_31 rfl (lv_at hl 1 rfl) ?_
    refine gk_X0_number (v := (kf_number σ)) G hP dX0_readParts_32 (kG_number_tape _ _) ?_
    refine lv_l2i (v := (Int64.toInt32 (kf_number σ))) hx hb dX0_readParts_35 rfl ?_
    refine lv_goto (tgt := 48) hx hb dX0_readParts_36 (by decide) ?_
    exact W.eq (g2 := F0 m 48 ls [.int (Int64.toInt32 (kf_number σ))]) rfl (kk_readParts_t48 hrv G (lv_sub hl [1, 2, 0] rfl) hP hD hS hf)
set_option maxHeartbeats 4000000 in
set_option maxRecDepth 100000 in
theorem kk_readParts_t0e {p : Program} {l : Launch} {e : Env} {s : State} {m : MethodId} {args : Array Value} {below : List Frame} {meth : Method} {c : Code} {D : va_G} {aK aV : Nat → Nat} {A : Nat → Prop} {cB cI cJ : ClassId} {q : Nat → Nat} {N : Nat} {H : Heap} {locs : List Loc} {ls : Array Slot} {ρ : Bool × KSt} {rv : Int32 → KSt → Option (Bool × KSt)} {rmv : Room} (hrv : (∀ {a : Int32} {σ : KSt} {x : Bool × KSt}, rv a σ = some x → CT l D (gTy cB cI cJ) aK aV yX0_readItem (wM yX0_readItem cX0_readItem 3 (some .boolean)) rmv 0 0 [.ref (q 0), .int a] (kW cB N q σ) (some (.int (bI x.1))) (kW cB N q x.2)) ∧ rmv.cells = 0 ∧ rmv.slots = 0) {p0 : Int32} {σ : KSt} (G : CX p s m args meth c D (gTy cB cI cJ) aK aV A RX0 cX0_readParts 5 (some .boolean)) (hl : lv_has ls 5 [(0, .ref (q 0)), (1, .int p0)]) (hP : va_P D vwCl (kW cB N q σ) H) (hD : va_D A (kW cB N q σ)) (hS : va_S A s.heap H locs) (hf : kk_readParts N rv p0 σ = some ρ) : W p l e (rm_kk_readParts rmv) s m args below meth c H locs 0 0 (MQ below (cQ D (gTy cB cI cJ) A (kW cB N q ρ.2) (some (.int (bI ρ.1)))) args s 0 0 A) (F0 m 0 ls []) := by
  unfold kk_readParts at hf
  obtain ⟨hx, hb, hml, hown, hT, hrt, hlk, hK, hA, hG, hE⟩ := id G
  refine lv_aload_n hx hb dX0_readParts_0 rfl (lv_at hl 0 rfl) ?_
  refine gk_X0_type (v := (kf_type σ)) G hP dX0_readParts_1 rfl ?_
  refine lv_iconst (v := (5 : Int32)) hx hb dX0_readParts_4 (by decide) ?_
  refine lv_icmp_ne (tgt := 12) hx hb dX0_readParts_5 (by decide) (fun c1 => ?_) (fun c1 => ?_)
  · have hf := (if_neg c1).symm.trans hf
    refine lv_iconst (v := (0 : Int32)) hx hb dX0_readParts_12 (by decide) ?_
    exact W.eq (g2 := F0 m 13 ls [.int (0 : Int32)]) rfl (kk_readParts_t13 hrv G (lv_sub hl [0, 1] rfl) hP hD hS hf)
  · have hf := (if_pos c1).symm.trans hf
    refine lv_iconst (v := (1 : Int32)) hx hb dX0_readParts_8 (by decide) ?_
    refine lv_goto (tgt := 13) hx hb dX0_readParts_9 (by decide) ?_
    exact W.eq (g2 := F0 m 13 ls [.int (1 : Int32)]) rfl (kk_readParts_t13 hrv G (lv_sub hl [0, 1] rfl) hP hD hS hf)
set_option maxHeartbeats 4000000 in
set_option maxRecDepth 100000 in
theorem c_kk_readParts {l : Launch} {D : va_G} {aK aV : Nat → Nat} {cB cI cJ : ClassId} {q : Nat → Nat} {N : Nat} {rv : Int32 → KSt → Option (Bool × KSt)} {rmv : Room} (hrv : (∀ {a : Int32} {σ : KSt} {x : Bool × KSt}, rv a σ = some x → CT l D (gTy cB cI cJ) aK aV yX0_readItem (wM yX0_readItem cX0_readItem 3 (some .boolean)) rmv 0 0 [.ref (q 0), .int a] (kW cB N q σ) (some (.int (bI x.1))) (kW cB N q x.2)) ∧ rmv.cells = 0 ∧ rmv.slots = 0) {ρ : Bool × KSt} {p0 : Int32} {σ : KSt} (hf : kk_readParts N rv p0 σ = some ρ) : CT l D (gTy cB cI cJ) aK aV yX0_readParts (wM yX0_readParts cX0_readParts 5 (some .boolean)) (rm_kk_readParts rmv) 0 0 [.ref (q 0), .int p0] (kW cB N q σ) (some (.int (bI ρ.1))) (kW cB N q ρ.2) := by
  refine CT.of (by decide) rfl ?_
  intro p e s m below meth c A G hnm hP hD hS
  have hl := lv_entry [.ref (q 0), .int p0] (n := 5) (Nat.le_of_ble_eq_true rfl)
  rw [lg_entry_eq]
  generalize (lg_sl [.ref (q 0), .int p0] ++ List.replicate (5 - (lg_sl [.ref (q 0), .int p0]).length) Slot.unset).toArray = ls at hl ⊢
  exact kk_readParts_t0e hrv G hl hP hD hS hf
def kk_itemOf_b106 (N : Nat) (rv : Int32 → KSt → Option (Bool × KSt)) (σ : KSt) : Option (Bool × KSt) := (if (kf_number σ) = (20 : Int64) then bd (rr_putWord N 0  (kf_target σ)) (fun (x17 : RSt) => some (true, (ks_target σ x17))) else (if (kf_number σ) = (21 : Int64) then bd (rr_putWord N 1  (kf_target σ)) (fun (x16 : RSt) => some (true, (ks_target σ x16))) else bd (rr_putWord N 2  (kf_target σ)) (fun (x15 : RSt) => some (true, (ks_target σ x15)))))
def kk_itemOf_b81 (N : Nat) (rv : Int32 → KSt → Option (Bool × KSt)) (a1 : Int32) (a2 : Int32) (σ : KSt) : Option (Bool × KSt) := (if (kf_depthLimit σ) ≤ a1 then bd (kk_refuse N (4 : Int32) a2 σ) (fun (x19 : Bool × KSt) => some (x19.1, x19.2)) else bd (kk_readParts N rv (a1 + (1 : Int32)) σ) (fun (x20 : Bool × KSt) => some (x20.1, x20.2)))
def kk_itemOf (N : Nat) (rv : Int32 → KSt → Option (Bool × KSt)) (p0 : Int32) (σ : KSt) : Option (Bool × KSt) := lt (kf_place σ) (fun (v1 : Int32) => bd (kk_readHead N (0 : Int32) σ) (fun (x2 : Bool × KSt) => (if x2.1 = true then (if (kf_type x2.2) = (0 : Int32) then bd (kk_putDecimal N (kf_number x2.2) x2.2) (fun (x5 : KSt) => some (true, x5)) else (if (kf_type x2.2) = (1 : Int32) then bd (kk_putNegative N (kf_number x2.2) x2.2) (fun (x7 : KSt) => some (true, x7)) else (if (kf_type x2.2) = (2 : Int32) then kk_itemOf_b106 N rv  x2.2 else (if (kf_type x2.2) = (3 : Int32) then bd (kk_readText N  x2.2) (fun (x10 : Bool × KSt) => some (x10.1, x10.2)) else (if (kf_type x2.2) = (4 : Int32) then kk_itemOf_b81 N rv p0 v1 x2.2 else (if (kf_type x2.2) = (5 : Int32) then kk_itemOf_b81 N rv p0 v1 x2.2 else kk_itemOf_b106 N rv  x2.2)))))) else some (false, x2.2))))
abbrev rm_kk_itemOf (rmv : Room) : Room := { frames := rmv.frames + 32, cells := 0, slots := 0, locals := rmv.locals + 800 }
set_option maxHeartbeats 4000000 in
set_option maxRecDepth 100000 in
theorem kk_itemOf_t106 {p : Program} {l : Launch} {e : Env} {s : State} {m : MethodId} {args : Array Value} {below : List Frame} {meth : Method} {c : Code} {D : va_G} {aK aV : Nat → Nat} {A : Nat → Prop} {cB cI cJ : ClassId} {q : Nat → Nat} {N : Nat} {H : Heap} {locs : List Loc} {ls : Array Slot} {ρ : Bool × KSt} {rv : Int32 → KSt → Option (Bool × KSt)} {rmv : Room} (hrv : (∀ {a : Int32} {σ : KSt} {x : Bool × KSt}, rv a σ = some x → CT l D (gTy cB cI cJ) aK aV yX0_readItem (wM yX0_readItem cX0_readItem 3 (some .boolean)) rmv 0 0 [.ref (q 0), .int a] (kW cB N q σ) (some (.int (bI x.1))) (kW cB N q x.2)) ∧ rmv.cells = 0 ∧ rmv.slots = 0) {σ : KSt} (G : CX p s m args meth c D (gTy cB cI cJ) aK aV A RX0 cX0_readItem 3 (some .boolean)) (hl : lv_has ls 3 [(0, .ref (q 0))]) (hP : va_P D vwCl (kW cB N q σ) H) (hD : va_D A (kW cB N q σ)) (hS : va_S A s.heap H locs) (hf : kk_itemOf_b106 N rv σ = some ρ) : W p l e (rm_kk_itemOf rmv) s m args below meth c H locs 0 0 (MQ below (cQ D (gTy cB cI cJ) A (kW cB N q ρ.2) (some (.int (bI ρ.1)))) args s 0 0 A) (F0 m 106 ls []) := by
  unfold kk_itemOf_b106 at hf
  obtain ⟨hx, hb, hml, hown, hT, hrt, hlk, hK, hA, hG, hE⟩ := id G
  refine lv_aload_n hx hb dX0_readItem_106 rfl (lv_at hl 0 rfl) ?_
  refine gk_X0_target G hP dX0_readItem_107 ?_
  refine lv_aload_n hx hb dX0_readItem_110 rfl (lv_at hl 0 rfl) ?_
  refine gk_X0_number (v := (kf_number σ)) G hP dX0_readItem_111 rfl ?_
  refine lv_ldc2 (v := (20 : Int64)) hx hb hown (hT _ wc_X0_61) dX0_readItem_114 ?_
  refine W.lcmp hx hb dX0_readItem_117 ?_
  refine lv_if_ne (tgt := 126) hx hb dX0_readItem_118 (by decide) (fun c13 => ?_) (fun c13 => ?_)
  · have hf := (if_neg (fun z => c13 ((lg_cmp_eq _ _).mpr z))).symm.trans hf
    refine lv_aload_n hx hb dX0_readItem_126 rfl (lv_at hl 0 rfl) ?_
    refine gk_X0_number (v := (kf_number σ)) G hP dX0_readItem_127 rfl ?_
    refine lv_ldc2 (v := (21 : Int64)) hx hb hown (hT _ wc_X0_65) dX0_readItem_130 ?_
    refine W.lcmp hx hb dX0_readItem_133 ?_
    refine lv_if_ne (tgt := 142) hx hb dX0_readItem_134 (by decide) (fun c14 => ?_) (fun c14 => ?_)
    · have hf := (if_neg (fun z => c14 ((lg_cmp_eq _ _).mpr z))).symm.trans hf
      refine va_ldcS hx hb hown (hG.1 _ (List.mem_of_getElem? (i := 6) rfl)) dX0_readItem_142 ?_
      obtain ⟨x15, hx15, hf⟩ := bd_some hf
      refine vK_target (As := [.ref (aK 2)]) (rest := []) (τ := x15) G kX0_71 rfl (c_rr_putWord (by decide) hx15) hP hD hS ⟨rfl, rfl, Nat.le_trans (m := 32) (Nat.le_of_ble_eq_true rfl) (Nat.le_add_left 32 _), Nat.le_trans (m := 800) (Nat.le_of_ble_eq_true rfl) (Nat.le_add_left 800 _)⟩ ⟨Nat.zero_le _, Nat.zero_le _⟩ rfl hl.1 (Nat.le_of_ble_eq_true rfl) dX0_readItem_144 (fun H locs hP hD hS => ?_)
      refine W.eq (g2 := F0 m 147 ls []) rfl ?_
      refine lv_iconst (v := (1 : Int32)) hx hb dX0_readItem_147 (by decide) ?_
      cases hf
      exact ct_iret G (bI_nar true) hP hD hS dX0_readItem_148
    · have hf := (if_pos ((lg_cmp_eq _ _).mp c14)).symm.trans hf
      refine va_ldcS hx hb hown (hG.1 _ (List.mem_of_getElem? (i := 5) rfl)) dX0_readItem_137 ?_
      refine lv_goto (tgt := 144) hx hb dX0_readItem_139 (by decide) ?_
      obtain ⟨x16, hx16, hf⟩ := bd_some hf
      refine vK_target (As := [.ref (aK 1)]) (rest := []) (τ := x16) G kX0_71 rfl (c_rr_putWord (by decide) hx16) hP hD hS ⟨rfl, rfl, Nat.le_trans (m := 32) (Nat.le_of_ble_eq_true rfl) (Nat.le_add_left 32 _), Nat.le_trans (m := 800) (Nat.le_of_ble_eq_true rfl) (Nat.le_add_left 800 _)⟩ ⟨Nat.zero_le _, Nat.zero_le _⟩ rfl hl.1 (Nat.le_of_ble_eq_true rfl) dX0_readItem_144 (fun H locs hP hD hS => ?_)
      refine W.eq (g2 := F0 m 147 ls []) rfl ?_
      refine lv_iconst (v := (1 : Int32)) hx hb dX0_readItem_147 (by decide) ?_
      cases hf
      exact ct_iret G (bI_nar true) hP hD hS dX0_readItem_148
  · have hf := (if_pos ((lg_cmp_eq _ _).mp c13)).symm.trans hf
    refine va_ldcS hx hb hown (hG.1 _ (List.mem_of_getElem? (i := 4) rfl)) dX0_readItem_121 ?_
    refine lv_goto (tgt := 144) hx hb dX0_readItem_123 (by decide) ?_
    obtain ⟨x17, hx17, hf⟩ := bd_some hf
    refine vK_target (As := [.ref (aK 0)]) (rest := []) (τ := x17) G kX0_71 rfl (c_rr_putWord (by decide) hx17) hP hD hS ⟨rfl, rfl, Nat.le_trans (m := 32) (Nat.le_of_ble_eq_true rfl) (Nat.le_add_left 32 _), Nat.le_trans (m := 800) (Nat.le_of_ble_eq_true rfl) (Nat.le_add_left 800 _)⟩ ⟨Nat.zero_le _, Nat.zero_le _⟩ rfl hl.1 (Nat.le_of_ble_eq_true rfl) dX0_readItem_144 (fun H locs hP hD hS => ?_)
    refine W.eq (g2 := F0 m 147 ls []) rfl ?_
    refine lv_iconst (v := (1 : Int32)) hx hb dX0_readItem_147 (by decide) ?_
    cases hf
    exact ct_iret G (bI_nar true) hP hD hS dX0_readItem_148
set_option maxHeartbeats 4000000 in
set_option maxRecDepth 100000 in
theorem kk_itemOf_t81 {p : Program} {l : Launch} {e : Env} {s : State} {m : MethodId} {args : Array Value} {below : List Frame} {meth : Method} {c : Code} {D : va_G} {aK aV : Nat → Nat} {A : Nat → Prop} {cB cI cJ : ClassId} {q : Nat → Nat} {N : Nat} {H : Heap} {locs : List Loc} {ls : Array Slot} {ρ : Bool × KSt} {rv : Int32 → KSt → Option (Bool × KSt)} {rmv : Room} (hrv : (∀ {a : Int32} {σ : KSt} {x : Bool × KSt}, rv a σ = some x → CT l D (gTy cB cI cJ) aK aV yX0_readItem (wM yX0_readItem cX0_readItem 3 (some .boolean)) rmv 0 0 [.ref (q 0), .int a] (kW cB N q σ) (some (.int (bI x.1))) (kW cB N q x.2)) ∧ rmv.cells = 0 ∧ rmv.slots = 0) {a1 : Int32} {a2 : Int32} {σ : KSt} (G : CX p s m args meth c D (gTy cB cI cJ) aK aV A RX0 cX0_readItem 3 (some .boolean)) (hl : lv_has ls 3 [(0, .ref (q 0)), (1, .int a1), (2, .int a2)]) (hP : va_P D vwCl (kW cB N q σ) H) (hD : va_D A (kW cB N q σ)) (hS : va_S A s.heap H locs) (hf : kk_itemOf_b81 N rv a1 a2 σ = some ρ) : W p l e (rm_kk_itemOf rmv) s m args below meth c H locs 0 0 (MQ below (cQ D (gTy cB cI cJ) A (kW cB N q ρ.2) (some (.int (bI ρ.1)))) args s 0 0 A) (F0 m 81 ls []) := by
  unfold kk_itemOf_b81 at hf
  obtain ⟨hx, hb, hml, hown, hT, hrt, hlk, hK, hA, hG, hE⟩ := id G
  refine lv_iload_n hx hb dX0_readItem_81 rfl (lv_at hl 1 rfl) ?_
  refine lv_aload_n hx hb dX0_readItem_82 rfl (lv_at hl 0 rfl) ?_
  refine gk_X0_depthLimit (v := (kf_depthLimit σ)) G hP dX0_readItem_83 rfl ?_
  refine lv_icmp_ge (tgt := 99) hx hb dX0_readItem_86 (by decide) (fun c18 => ?_) (fun c18 => ?_)
  · have hf := (if_pos c18).symm.trans hf
    refine lv_aload_n hx hb dX0_readItem_99 rfl (lv_at hl 0 rfl) ?_
    refine lv_iconst (v := (4 : Int32)) hx hb dX0_readItem_100 (by decide) ?_
    refine lv_iload_n hx hb dX0_readItem_101 rfl (lv_at hl 2 rfl) ?_
    obtain ⟨x19, hx19, hf⟩ := bd_some hf
    refine uK (As := [.int (4 : Int32), .int a2]) (rest := []) G kX0_32 (c_kk_refuse hx19) hP hD hS ⟨rfl, rfl, Nat.le_trans (m := 32) (Nat.le_of_ble_eq_true rfl) (Nat.le_add_left 32 _), Nat.le_trans (m := 800) (Nat.le_of_ble_eq_true rfl) (Nat.le_add_left 800 _)⟩ ⟨Nat.zero_le _, Nat.zero_le _⟩ rfl hl.1 (Nat.le_of_ble_eq_true rfl) dX0_readItem_102 (fun H locs hP hD hS => ?_)
    refine W.eq (g2 := F0 m 105 ls [.int (bI x19.1)]) rfl ?_
    cases hf
    exact ct_iret G (bI_nar x19.1) hP hD hS dX0_readItem_105
  · have hf := (if_neg c18).symm.trans hf
    refine lv_aload_n hx hb dX0_readItem_89 rfl (lv_at hl 0 rfl) ?_
    refine lv_iload_n hx hb dX0_readItem_90 rfl (lv_at hl 1 rfl) ?_
    refine lv_iconst (v := (1 : Int32)) hx hb dX0_readItem_91 (by decide) ?_
    refine lv_iadd hx hb dX0_readItem_92 ?_
    obtain ⟨x20, hx20, hf⟩ := bd_some hf
    refine vK (As := [.int (a1 + (1 : Int32))]) (rest := []) G kX0_54 (c_kk_readParts hrv hx20) hP hD hS ⟨rfl, rfl, (by show rmv.frames + 16 + 1 ≤ rmv.frames + 32; omega), (by show 8 + (5 + 11) + (rmv.locals + 400) ≤ rmv.locals + 800; omega)⟩ ⟨Nat.zero_le _, Nat.zero_le _⟩ rfl hl.1 (Nat.le_of_ble_eq_true rfl) dX0_readItem_93 (fun H locs hP hD hS => ?_)
    refine W.eq (g2 := F0 m 96 ls [.int (bI x20.1)]) rfl ?_
    refine lv_goto (tgt := 105) hx hb dX0_readItem_96 (by decide) ?_
    cases hf
    exact ct_iret G (bI_nar x20.1) hP hD hS dX0_readItem_105
set_option maxHeartbeats 4000000 in
set_option maxRecDepth 100000 in
theorem kk_itemOf_t0e {p : Program} {l : Launch} {e : Env} {s : State} {m : MethodId} {args : Array Value} {below : List Frame} {meth : Method} {c : Code} {D : va_G} {aK aV : Nat → Nat} {A : Nat → Prop} {cB cI cJ : ClassId} {q : Nat → Nat} {N : Nat} {H : Heap} {locs : List Loc} {ls : Array Slot} {ρ : Bool × KSt} {rv : Int32 → KSt → Option (Bool × KSt)} {rmv : Room} (hrv : (∀ {a : Int32} {σ : KSt} {x : Bool × KSt}, rv a σ = some x → CT l D (gTy cB cI cJ) aK aV yX0_readItem (wM yX0_readItem cX0_readItem 3 (some .boolean)) rmv 0 0 [.ref (q 0), .int a] (kW cB N q σ) (some (.int (bI x.1))) (kW cB N q x.2)) ∧ rmv.cells = 0 ∧ rmv.slots = 0) {p0 : Int32} {σ : KSt} (G : CX p s m args meth c D (gTy cB cI cJ) aK aV A RX0 cX0_readItem 3 (some .boolean)) (hl : lv_has ls 3 [(0, .ref (q 0)), (1, .int p0)]) (hP : va_P D vwCl (kW cB N q σ) H) (hD : va_D A (kW cB N q σ)) (hS : va_S A s.heap H locs) (hf : kk_itemOf N rv p0 σ = some ρ) : W p l e (rm_kk_itemOf rmv) s m args below meth c H locs 0 0 (MQ below (cQ D (gTy cB cI cJ) A (kW cB N q ρ.2) (some (.int (bI ρ.1)))) args s 0 0 A) (F0 m 0 ls []) := by
  unfold kk_itemOf at hf
  obtain ⟨hx, hb, hml, hown, hT, hrt, hlk, hK, hA, hG, hE⟩ := id G
  refine lv_aload_n hx hb dX0_readItem_0 rfl (lv_at hl 0 rfl) ?_
  refine gk_X0_place (v := (kf_place σ)) G hP dX0_readItem_1 rfl ?_
  refine lv_topi (fun v1 ev1 => ?_)
  have hf := lt_eq hf ev1
  refine lv_istore_n (lv' := [(2, .int v1), (0, .ref (q 0)), (1, .int p0)]) hx hb dX0_readItem_4 rfl hl (by decide) rfl (fun ls hl => ?_)
  refine lv_aload_n hx hb dX0_readItem_5 rfl (lv_at hl 1 rfl) ?_
  refine lv_iconst (v := (0 : Int32)) hx hb dX0_readItem_6 (by decide) ?_
  obtain ⟨x2, hx2, hf⟩ := bd_some hf
  refine vK (As := [.int (0 : Int32)]) (rest := []) G kX0_36 (c_kk_readHead hx2) hP hD hS ⟨rfl, rfl, Nat.le_trans (m := 32) (Nat.le_of_ble_eq_true rfl) (Nat.le_add_left 32 _), Nat.le_trans (m := 800) (Nat.le_of_ble_eq_true rfl) (Nat.le_add_left 800 _)⟩ ⟨Nat.zero_le _, Nat.zero_le _⟩ rfl hl.1 (Nat.le_of_ble_eq_true rfl) dX0_readItem_7 (fun H locs hP hD hS => ?_)
  refine W.eq (g2 := F0 m 10 ls [.int (bI x2.1)]) rfl ?_
  refine lv_if_ne (tgt := 15) hx hb dX0_readItem_10 (by decide) (fun c3 => ?_) (fun c3 => ?_)
  · have hf := (if_pos (bI_n c3)).symm.trans hf
    refine lv_aload_n hx hb dX0_readItem_15 rfl (lv_at hl 1 rfl) ?_
    refine gk_X0_type (v := (kf_type x2.2)) G hP dX0_readItem_16 rfl ?_
    by_cases c4 : (kf_type x2.2) = (0 : Int32)
    · have hf := (if_pos c4).symm.trans hf
      refine lv_tableIn (off := 37) (tgt := 56) hx hb dX0_readItem_19 (by rw [c4]; decide +kernel) (by rw [c4]; decide +kernel) (by rw [c4]; decide +kernel) (by decide) ?_
      refine lv_aload_n hx hb dX0_readItem_56 rfl (lv_at hl 1 rfl) ?_
      refine lv_aload_n hx hb dX0_readItem_57 rfl (lv_at hl 1 rfl) ?_
      refine gk_X0_number (v := (kf_number x2.2)) G hP dX0_readItem_58 rfl ?_
      obtain ⟨x5, hx5, hf⟩ := bd_some hf
      refine vK (As := [.long (kf_number x2.2)]) (rest := []) G kX0_40 (c_kk_putDecimal hx5) hP hD hS ⟨rfl, rfl, Nat.le_trans (m := 32) (Nat.le_of_ble_eq_true rfl) (Nat.le_add_left 32 _), Nat.le_trans (m := 800) (Nat.le_of_ble_eq_true rfl) (Nat.le_add_left 800 _)⟩ ⟨Nat.zero_le _, Nat.zero_le _⟩ rfl hl.1 (Nat.le_of_ble_eq_true rfl) dX0_readItem_61 (fun H locs hP hD hS => ?_)
      refine W.eq (g2 := F0 m 64 ls []) rfl ?_
      refine lv_iconst (v := (1 : Int32)) hx hb dX0_readItem_64 (by decide) ?_
      cases hf
      exact ct_iret G (bI_nar true) hP hD hS dX0_readItem_65
    · have hf := (if_neg c4).symm.trans hf
      by_cases c6 : (kf_type x2.2) = (1 : Int32)
      · have hf := (if_pos c6).symm.trans hf
        refine lv_tableIn (off := 47) (tgt := 66) hx hb dX0_readItem_19 (by rw [c6]; decide +kernel) (by rw [c6]; decide +kernel) (by rw [c6]; decide +kernel) (by decide) ?_
        refine lv_aload_n hx hb dX0_readItem_66 rfl (lv_at hl 1 rfl) ?_
        refine lv_aload_n hx hb dX0_readItem_67 rfl (lv_at hl 1 rfl) ?_
        refine gk_X0_number (v := (kf_number x2.2)) G hP dX0_readItem_68 rfl ?_
        obtain ⟨x7, hx7, hf⟩ := bd_some hf
        refine vK (As := [.long (kf_number x2.2)]) (rest := []) G kX0_44 (c_kk_putNegative hx7) hP hD hS ⟨rfl, rfl, Nat.le_trans (m := 32) (Nat.le_of_ble_eq_true rfl) (Nat.le_add_left 32 _), Nat.le_trans (m := 800) (Nat.le_of_ble_eq_true rfl) (Nat.le_add_left 800 _)⟩ ⟨Nat.zero_le _, Nat.zero_le _⟩ rfl hl.1 (Nat.le_of_ble_eq_true rfl) dX0_readItem_71 (fun H locs hP hD hS => ?_)
        refine W.eq (g2 := F0 m 74 ls []) rfl ?_
        refine lv_iconst (v := (1 : Int32)) hx hb dX0_readItem_74 (by decide) ?_
        cases hf
        exact ct_iret G (bI_nar true) hP hD hS dX0_readItem_75
      · have hf := (if_neg c6).symm.trans hf
        by_cases c8 : (kf_type x2.2) = (2 : Int32)
        · have hf := (if_pos c8).symm.trans hf
          refine lv_tableIn (off := 87) (tgt := 106) hx hb dX0_readItem_19 (by rw [c8]; decide +kernel) (by rw [c8]; decide +kernel) (by rw [c8]; decide +kernel) (by decide) ?_
          exact W.eq (g2 := F0 m 106 ls []) rfl (kk_itemOf_t106 hrv G (lv_sub hl [1] rfl) hP hD hS hf)
        · have hf := (if_neg c8).symm.trans hf
          by_cases c9 : (kf_type x2.2) = (3 : Int32)
          · have hf := (if_pos c9).symm.trans hf
            refine lv_tableIn (off := 57) (tgt := 76) hx hb dX0_readItem_19 (by rw [c9]; decide +kernel) (by rw [c9]; decide +kernel) (by rw [c9]; decide +kernel) (by decide) ?_
            refine lv_aload_n hx hb dX0_readItem_76 rfl (lv_at hl 1 rfl) ?_
            obtain ⟨x10, hx10, hf⟩ := bd_some hf
            refine vK (As := []) (rest := []) G kX0_47 (c_kk_readText hx10) hP hD hS ⟨rfl, rfl, Nat.le_trans (m := 32) (Nat.le_of_ble_eq_true rfl) (Nat.le_add_left 32 _), Nat.le_trans (m := 800) (Nat.le_of_ble_eq_true rfl) (Nat.le_add_left 800 _)⟩ ⟨Nat.zero_le _, Nat.zero_le _⟩ rfl hl.1 (Nat.le_of_ble_eq_true rfl) dX0_readItem_77 (fun H locs hP hD hS => ?_)
            refine W.eq (g2 := F0 m 80 ls [.int (bI x10.1)]) rfl ?_
            cases hf
            exact ct_iret G (bI_nar x10.1) hP hD hS dX0_readItem_80
          · have hf := (if_neg c9).symm.trans hf
            by_cases c11 : (kf_type x2.2) = (4 : Int32)
            · have hf := (if_pos c11).symm.trans hf
              refine lv_tableIn (off := 62) (tgt := 81) hx hb dX0_readItem_19 (by rw [c11]; decide +kernel) (by rw [c11]; decide +kernel) (by rw [c11]; decide +kernel) (by decide) ?_
              exact W.eq (g2 := F0 m 81 ls []) rfl (kk_itemOf_t81 hrv G (lv_sub hl [1, 2, 0] rfl) hP hD hS hf)
            · have hf := (if_neg c11).symm.trans hf
              by_cases c12 : (kf_type x2.2) = (5 : Int32)
              · have hf := (if_pos c12).symm.trans hf
                refine lv_tableIn (off := 62) (tgt := 81) hx hb dX0_readItem_19 (by rw [c12]; decide +kernel) (by rw [c12]; decide +kernel) (by rw [c12]; decide +kernel) (by decide) ?_
                exact W.eq (g2 := F0 m 81 ls []) rfl (kk_itemOf_t81 hrv G (lv_sub hl [1, 2, 0] rfl) hP hD hS hf)
              · have hf := (if_neg c12).symm.trans hf
                have nc4 := sw_n c4 (by decide : ((0 : Int32)).toInt = 0)
                have nc6 := sw_n c6 (by decide : ((1 : Int32)).toInt = 1)
                have nc8 := sw_n c8 (by decide : ((2 : Int32)).toInt = 2)
                have nc9 := sw_n c9 (by decide : ((3 : Int32)).toInt = 3)
                have nc11 := sw_n c11 (by decide : ((4 : Int32)).toInt = 4)
                have nc12 := sw_n c12 (by decide : ((5 : Int32)).toInt = 5)
                refine lv_tableOut (tgt := 106) hx hb dX0_readItem_19 (by omega) (by decide) ?_
                exact W.eq (g2 := F0 m 106 ls []) rfl (kk_itemOf_t106 hrv G (lv_sub hl [1] rfl) hP hD hS hf)
  · have hf := (if_neg (bI_0 c3)).symm.trans hf
    refine lv_iconst (v := (0 : Int32)) hx hb dX0_readItem_13 (by decide) ?_
    cases hf
    exact ct_iret G (bI_nar false) hP hD hS dX0_readItem_14
set_option maxHeartbeats 4000000 in
set_option maxRecDepth 100000 in
theorem c_kk_itemOf {l : Launch} {D : va_G} {aK aV : Nat → Nat} {cB cI cJ : ClassId} {q : Nat → Nat} {N : Nat} {rv : Int32 → KSt → Option (Bool × KSt)} {rmv : Room} (hrv : (∀ {a : Int32} {σ : KSt} {x : Bool × KSt}, rv a σ = some x → CT l D (gTy cB cI cJ) aK aV yX0_readItem (wM yX0_readItem cX0_readItem 3 (some .boolean)) rmv 0 0 [.ref (q 0), .int a] (kW cB N q σ) (some (.int (bI x.1))) (kW cB N q x.2)) ∧ rmv.cells = 0 ∧ rmv.slots = 0) {ρ : Bool × KSt} {p0 : Int32} {σ : KSt} (hf : kk_itemOf N rv p0 σ = some ρ) : CT l D (gTy cB cI cJ) aK aV yX0_readItem (wM yX0_readItem cX0_readItem 3 (some .boolean)) (rm_kk_itemOf rmv) 0 0 [.ref (q 0), .int p0] (kW cB N q σ) (some (.int (bI ρ.1))) (kW cB N q ρ.2) := by
  refine CT.of (by decide) rfl ?_
  intro p e s m below meth c A G hnm hP hD hS
  have hl := lv_entry [.ref (q 0), .int p0] (n := 3) (Nat.le_of_ble_eq_true rfl)
  rw [lg_entry_eq]
  generalize (lg_sl [.ref (q 0), .int p0] ++ List.replicate (3 - (lg_sl [.ref (q 0), .int p0]).length) Slot.unset).toArray = ls at hl ⊢
  exact kk_itemOf_t0e hrv G hl hP hD hS hf
