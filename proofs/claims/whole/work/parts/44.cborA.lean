/-! CBORREADER: leaves (printed by program wip/gen) -/
def kk_refuse (N : Nat) (p0 : Int32) (p1 : Int32) (σ : KSt) : Option (Bool × KSt) := some (false, (ks_faultPlace (ks_faultKind σ p0) p1))
abbrev rm_kk_refuse : Room := { frames := 0, cells := 0, slots := 0, locals := 0 }
set_option maxHeartbeats 4000000 in
set_option maxRecDepth 100000 in
theorem kk_refuse_t0e {p : Program} {l : Launch} {e : Env} {s : State} {m : MethodId} {args : Array Value} {below : List Frame} {meth : Method} {c : Code} {D : va_G} {aK aV : Nat → Nat} {A : Nat → Prop} {cB cI cJ : ClassId} {q : Nat → Nat} {N : Nat} {H : Heap} {locs : List Loc} {ls : Array Slot} {ρ : Bool × KSt} {p0 : Int32} {p1 : Int32} {σ : KSt} (G : CX p s m args meth c D (gTy cB cI cJ) aK aV A RX2 cX2_refuse 3 (some .boolean)) (hl : lv_has ls 3 [(0, .ref (q 0)), (1, .int p0), (2, .int p1)]) (hP : va_P D vwCl (kW cB N q σ) H) (hD : va_D A (kW cB N q σ)) (hS : va_S A s.heap H locs) (hf : kk_refuse N p0 p1 σ = some ρ) : W p l e (rm_kk_refuse) s m args below meth c H locs 0 0 (MQ below (cQ D (gTy cB cI cJ) A (kW cB N q ρ.2) (some (.int (bI ρ.1)))) args s 0 0 A) (F0 m 0 ls []) := by
  unfold kk_refuse at hf
  obtain ⟨hx, hb, hml, hown, hT, hrt, hlk, hK, hA, hG, hE⟩ := id G
  refine lv_aload_n hx hb dX2_refuse_0 rfl (lv_at hl 0 rfl) ?_
  refine lv_iload_n hx hb dX2_refuse_1 rfl (lv_at hl 1 rfl) ?_
  refine pk_X2_faultKind (v := p0) G hP hD hS dX2_refuse_2 (fun H locs hP hD hS => ?_)
  refine lv_aload_n hx hb dX2_refuse_5 rfl (lv_at hl 0 rfl) ?_
  refine lv_iload_n hx hb dX2_refuse_6 rfl (lv_at hl 2 rfl) ?_
  refine pk_X2_faultPlace (v := p1) G hP hD hS dX2_refuse_7 (fun H locs hP hD hS => ?_)
  refine lv_iconst (v := (0 : Int32)) hx hb dX2_refuse_10 (by decide) ?_
  cases hf
  exact ct_iret G (bI_nar false) hP hD hS dX2_refuse_11
set_option maxHeartbeats 4000000 in
set_option maxRecDepth 100000 in
theorem c_kk_refuse {l : Launch} {D : va_G} {aK aV : Nat → Nat} {cB cI cJ : ClassId} {q : Nat → Nat} {N : Nat} {ρ : Bool × KSt} {p0 : Int32} {p1 : Int32} {σ : KSt} (hf : kk_refuse N p0 p1 σ = some ρ) : CT l D (gTy cB cI cJ) aK aV yX2_refuse (wM yX2_refuse cX2_refuse 3 (some .boolean)) (rm_kk_refuse) 0 0 [.ref (q 0), .int p0, .int p1] (kW cB N q σ) (some (.int (bI ρ.1))) (kW cB N q ρ.2) := by
  refine CT.of (by decide) rfl ?_
  intro p e s m below meth c A G hnm hP hD hS
  have hl := lv_entry [.ref (q 0), .int p0, .int p1] (n := 3) (Nat.le_of_ble_eq_true rfl)
  rw [lg_entry_eq]
  generalize (lg_sl [.ref (q 0), .int p0, .int p1] ++ List.replicate (3 - (lg_sl [.ref (q 0), .int p0, .int p1]).length) Slot.unset).toArray = ls at hl ⊢
  exact kk_refuse_t0e G hl hP hD hS hf
def kk_faultKind (N : Nat) (σ : KSt) : Option (Int32 × KSt) := some ((kf_faultKind σ), σ)
abbrev rm_kk_faultKind : Room := { frames := 0, cells := 0, slots := 0, locals := 0 }
set_option maxHeartbeats 4000000 in
set_option maxRecDepth 100000 in
theorem kk_faultKind_t0e {p : Program} {l : Launch} {e : Env} {s : State} {m : MethodId} {args : Array Value} {below : List Frame} {meth : Method} {c : Code} {D : va_G} {aK aV : Nat → Nat} {A : Nat → Prop} {cB cI cJ : ClassId} {q : Nat → Nat} {N : Nat} {H : Heap} {locs : List Loc} {ls : Array Slot} {ρ : Int32 × KSt} {σ : KSt} (G : CX p s m args meth c D (gTy cB cI cJ) aK aV A RX2 cX2_faultKind 1 (some .int)) (hl : lv_has ls 1 [(0, .ref (q 0))]) (hP : va_P D vwCl (kW cB N q σ) H) (hD : va_D A (kW cB N q σ)) (hS : va_S A s.heap H locs) (hf : kk_faultKind N σ = some ρ) : W p l e (rm_kk_faultKind) s m args below meth c H locs 0 0 (MQ below (cQ D (gTy cB cI cJ) A (kW cB N q ρ.2) (some (.int ρ.1))) args s 0 0 A) (F0 m 0 ls []) := by
  unfold kk_faultKind at hf
  obtain ⟨hx, hb, hml, hown, hT, hrt, hlk, hK, hA, hG, hE⟩ := id G
  refine lv_aload_n hx hb dX2_faultKind_0 rfl (lv_at hl 0 rfl) ?_
  refine gk_X2_faultKind (v := (kf_faultKind σ)) G hP dX2_faultKind_1 rfl ?_
  cases hf
  exact ct_iret G rfl hP hD hS dX2_faultKind_4
set_option maxHeartbeats 4000000 in
set_option maxRecDepth 100000 in
theorem c_kk_faultKind {l : Launch} {D : va_G} {aK aV : Nat → Nat} {cB cI cJ : ClassId} {q : Nat → Nat} {N : Nat} {ρ : Int32 × KSt} {σ : KSt} (hf : kk_faultKind N σ = some ρ) : CT l D (gTy cB cI cJ) aK aV yX2_faultKind (wM yX2_faultKind cX2_faultKind 1 (some .int)) (rm_kk_faultKind) 0 0 [.ref (q 0)] (kW cB N q σ) (some (.int ρ.1)) (kW cB N q ρ.2) := by
  refine CT.of (by decide) rfl ?_
  intro p e s m below meth c A G hnm hP hD hS
  have hl := lv_entry [.ref (q 0)] (n := 1) (Nat.le_of_ble_eq_true rfl)
  rw [lg_entry_eq]
  generalize (lg_sl [.ref (q 0)] ++ List.replicate (1 - (lg_sl [.ref (q 0)]).length) Slot.unset).toArray = ls at hl ⊢
  exact kk_faultKind_t0e G hl hP hD hS hf
def kk_faultPlace (N : Nat) (σ : KSt) : Option (Int32 × KSt) := some ((kf_faultPlace σ), σ)
abbrev rm_kk_faultPlace : Room := { frames := 0, cells := 0, slots := 0, locals := 0 }
set_option maxHeartbeats 4000000 in
set_option maxRecDepth 100000 in
theorem kk_faultPlace_t0e {p : Program} {l : Launch} {e : Env} {s : State} {m : MethodId} {args : Array Value} {below : List Frame} {meth : Method} {c : Code} {D : va_G} {aK aV : Nat → Nat} {A : Nat → Prop} {cB cI cJ : ClassId} {q : Nat → Nat} {N : Nat} {H : Heap} {locs : List Loc} {ls : Array Slot} {ρ : Int32 × KSt} {σ : KSt} (G : CX p s m args meth c D (gTy cB cI cJ) aK aV A RX2 cX2_faultPlace 1 (some .int)) (hl : lv_has ls 1 [(0, .ref (q 0))]) (hP : va_P D vwCl (kW cB N q σ) H) (hD : va_D A (kW cB N q σ)) (hS : va_S A s.heap H locs) (hf : kk_faultPlace N σ = some ρ) : W p l e (rm_kk_faultPlace) s m args below meth c H locs 0 0 (MQ below (cQ D (gTy cB cI cJ) A (kW cB N q ρ.2) (some (.int ρ.1))) args s 0 0 A) (F0 m 0 ls []) := by
  unfold kk_faultPlace at hf
  obtain ⟨hx, hb, hml, hown, hT, hrt, hlk, hK, hA, hG, hE⟩ := id G
  refine lv_aload_n hx hb dX2_faultPlace_0 rfl (lv_at hl 0 rfl) ?_
  refine gk_X2_faultPlace (v := (kf_faultPlace σ)) G hP dX2_faultPlace_1 rfl ?_
  cases hf
  exact ct_iret G rfl hP hD hS dX2_faultPlace_4
set_option maxHeartbeats 4000000 in
set_option maxRecDepth 100000 in
theorem c_kk_faultPlace {l : Launch} {D : va_G} {aK aV : Nat → Nat} {cB cI cJ : ClassId} {q : Nat → Nat} {N : Nat} {ρ : Int32 × KSt} {σ : KSt} (hf : kk_faultPlace N σ = some ρ) : CT l D (gTy cB cI cJ) aK aV yX2_faultPlace (wM yX2_faultPlace cX2_faultPlace 1 (some .int)) (rm_kk_faultPlace) 0 0 [.ref (q 0)] (kW cB N q σ) (some (.int ρ.1)) (kW cB N q ρ.2) := by
  refine CT.of (by decide) rfl ?_
  intro p e s m below meth c A G hnm hP hD hS
  have hl := lv_entry [.ref (q 0)] (n := 1) (Nat.le_of_ble_eq_true rfl)
  rw [lg_entry_eq]
  generalize (lg_sl [.ref (q 0)] ++ List.replicate (1 - (lg_sl [.ref (q 0)]).length) Slot.unset).toArray = ls at hl ⊢
  exact kk_faultPlace_t0e G hl hP hD hS hf
def kk_readEnd (N : Nat) (σ : KSt) : Option (Bool × KSt) := bd (rr_size 4000  (kf_tape σ)) (fun (x1 : Int32 × RSt) => (if (kf_place σ) = x1.1 then some (true, (ks_tape σ x1.2)) else bd (kk_refuse N (1 : Int32) (kf_place σ) (ks_tape σ x1.2)) (fun (x3 : Bool × KSt) => (if x3.1 = true then some (true, x3.2) else some (false, x3.2)))))
abbrev rm_kk_readEnd : Room := { frames := 1, cells := 0, slots := 0, locals := 22 }
set_option maxHeartbeats 4000000 in
set_option maxRecDepth 100000 in
theorem kk_readEnd_t0e {p : Program} {l : Launch} {e : Env} {s : State} {m : MethodId} {args : Array Value} {below : List Frame} {meth : Method} {c : Code} {D : va_G} {aK aV : Nat → Nat} {A : Nat → Prop} {cB cI cJ : ClassId} {q : Nat → Nat} {N : Nat} {H : Heap} {locs : List Loc} {ls : Array Slot} {ρ : Bool × KSt} {σ : KSt} (G : CX p s m args meth c D (gTy cB cI cJ) aK aV A RX0 cX0_readEnd 1 (some .boolean)) (hl : lv_has ls 1 [(0, .ref (q 0))]) (hP : va_P D vwCl (kW cB N q σ) H) (hD : va_D A (kW cB N q σ)) (hS : va_S A s.heap H locs) (hf : kk_readEnd N σ = some ρ) : W p l e (rm_kk_readEnd) s m args below meth c H locs 0 0 (MQ below (cQ D (gTy cB cI cJ) A (kW cB N q ρ.2) (some (.int (bI ρ.1)))) args s 0 0 A) (F0 m 0 ls []) := by
  unfold kk_readEnd at hf
  obtain ⟨hx, hb, hml, hown, hT, hrt, hlk, hK, hA, hG, hE⟩ := id G
  refine lv_aload_n hx hb dX0_readEnd_0 rfl (lv_at hl 0 rfl) ?_
  refine gk_X0_place (v := (kf_place σ)) G hP dX0_readEnd_1 rfl ?_
  refine lv_aload_n hx hb dX0_readEnd_4 rfl (lv_at hl 0 rfl) ?_
  refine gk_X0_tape G hP dX0_readEnd_5 ?_
  obtain ⟨x1, hx1, hf⟩ := bd_some hf
  refine vK_tape (As := []) (rest := [.int (kf_place σ)]) (τ := x1.2) G kX0_26 rfl (c_rr_size hx1) hP hD hS ⟨rfl, rfl, Nat.le_of_ble_eq_true rfl, Nat.le_of_ble_eq_true rfl⟩ ⟨Nat.zero_le _, Nat.zero_le _⟩ rfl hl.1 (Nat.le_of_ble_eq_true rfl) dX0_readEnd_8 (fun H locs hP hD hS => ?_)
  refine W.eq (g2 := F0 m 11 ls [.int x1.1, .int (kf_place σ)]) rfl ?_
  refine lv_icmp_eq (tgt := 26) hx hb dX0_readEnd_11 (by decide) (fun c2 => ?_) (fun c2 => ?_)
  · have hf := (if_pos c2).symm.trans hf
    refine lv_iconst (v := (1 : Int32)) hx hb dX0_readEnd_26 (by decide) ?_
    refine lv_goto (tgt := 31) hx hb dX0_readEnd_27 (by decide) ?_
    cases hf
    exact ct_iret G (bI_nar true) hP hD hS dX0_readEnd_31
  · have hf := (if_neg c2).symm.trans hf
    refine lv_aload_n hx hb dX0_readEnd_14 rfl (lv_at hl 0 rfl) ?_
    refine lv_iconst (v := (1 : Int32)) hx hb dX0_readEnd_15 (by decide) ?_
    refine lv_aload_n hx hb dX0_readEnd_16 rfl (lv_at hl 0 rfl) ?_
    refine gk_X0_place (v := (kf_place σ)) G hP dX0_readEnd_17 (kG_place_tape _ _) ?_
    obtain ⟨x3, hx3, hf⟩ := bd_some hf
    refine uK (As := [.int (1 : Int32), .int (kf_place σ)]) (rest := []) G kX0_32 (c_kk_refuse hx3) hP hD hS ⟨rfl, rfl, Nat.le_of_ble_eq_true rfl, Nat.le_of_ble_eq_true rfl⟩ ⟨Nat.zero_le _, Nat.zero_le _⟩ rfl hl.1 (Nat.le_of_ble_eq_true rfl) dX0_readEnd_20 (fun H locs hP hD hS => ?_)
    refine W.eq (g2 := F0 m 23 ls [.int (bI x3.1)]) rfl ?_
    refine lv_if_eq (tgt := 30) hx hb dX0_readEnd_23 (by decide) (fun c4 => ?_) (fun c4 => ?_)
    · have hf := (if_neg (bI_0 c4)).symm.trans hf
      refine lv_iconst (v := (0 : Int32)) hx hb dX0_readEnd_30 (by decide) ?_
      cases hf
      exact ct_iret G (bI_nar false) hP hD hS dX0_readEnd_31
    · have hf := (if_pos (bI_n c4)).symm.trans hf
      refine lv_iconst (v := (1 : Int32)) hx hb dX0_readEnd_26 (by decide) ?_
      refine lv_goto (tgt := 31) hx hb dX0_readEnd_27 (by decide) ?_
      cases hf
      exact ct_iret G (bI_nar true) hP hD hS dX0_readEnd_31
set_option maxHeartbeats 4000000 in
set_option maxRecDepth 100000 in
theorem c_kk_readEnd {l : Launch} {D : va_G} {aK aV : Nat → Nat} {cB cI cJ : ClassId} {q : Nat → Nat} {N : Nat} {ρ : Bool × KSt} {σ : KSt} (hf : kk_readEnd N σ = some ρ) : CT l D (gTy cB cI cJ) aK aV yX0_readEnd (wM yX0_readEnd cX0_readEnd 1 (some .boolean)) (rm_kk_readEnd) 0 0 [.ref (q 0)] (kW cB N q σ) (some (.int (bI ρ.1))) (kW cB N q ρ.2) := by
  refine CT.of (by decide) rfl ?_
  intro p e s m below meth c A G hnm hP hD hS
  have hl := lv_entry [.ref (q 0)] (n := 1) (Nat.le_of_ble_eq_true rfl)
  rw [lg_entry_eq]
  generalize (lg_sl [.ref (q 0)] ++ List.replicate (1 - (lg_sl [.ref (q 0)]).length) Slot.unset).toArray = ls at hl ⊢
  exact kk_readEnd_t0e G hl hP hD hS hf
def kk_faultOfFirst_b102 (N : Nat) (a1 : Int32) (σ : KSt) : Option (Int32 × KSt) := (if a1 = (31 : Int32) then some ((6 : Int32), σ) else some ((0 : Int32), σ))
def kk_faultOfFirst_b79 (N : Nat) (a1 : Int32) (σ : KSt) : Option (Int32 × KSt) := (if (kf_type σ) = (7 : Int32) then (if a1 < (20 : Int32) then some ((2 : Int32), σ) else (if a1 ≤ (22 : Int32) then kk_faultOfFirst_b102 N a1 σ else some ((2 : Int32), σ))) else kk_faultOfFirst_b102 N a1 σ)
def kk_faultOfFirst_b48 (N : Nat) (a1 : Int32) (a2 : Int32) (σ : KSt) : Option (Int32 × KSt) := (if (kf_type σ) = (2 : Int32) then some ((2 : Int32), σ) else (if (kf_type σ) = (6 : Int32) then some ((2 : Int32), σ) else (if a2 = 0 then kk_faultOfFirst_b79 N a1 σ else (if (kf_type σ) = (3 : Int32) then kk_faultOfFirst_b79 N a1 σ else some ((2 : Int32), σ)))))
def kk_faultOfFirst_b29 (N : Nat) (a1 : Int32) (a2 : Int32) (s0 : Int32) (σ : KSt) : Option (Int32 × KSt) := (if a1 ≤ (27 : Int32) then kk_faultOfFirst_b48 N a1 a2 σ else (if a1 < (31 : Int32) then some ((1 : Int32), σ) else (if s0 = 0 then kk_faultOfFirst_b48 N a1 a2 σ else some ((1 : Int32), σ))))
def kk_faultOfFirst (N : Nat) (p0 : Int32) (p1 : Int32) (σ : KSt) : Option (Int32 × KSt) := (if (kf_type σ) = 0 then kk_faultOfFirst_b29 N p0 p1 (1 : Int32) σ else (if (kf_type σ) = (1 : Int32) then kk_faultOfFirst_b29 N p0 p1 (1 : Int32) σ else (if (kf_type σ) = (7 : Int32) then kk_faultOfFirst_b29 N p0 p1 (1 : Int32) σ else kk_faultOfFirst_b29 N p0 p1 (0 : Int32) σ)))
abbrev rm_kk_faultOfFirst : Room := { frames := 0, cells := 0, slots := 0, locals := 0 }
set_option maxHeartbeats 4000000 in
set_option maxRecDepth 100000 in
theorem kk_faultOfFirst_t102 {p : Program} {l : Launch} {e : Env} {s : State} {m : MethodId} {args : Array Value} {below : List Frame} {meth : Method} {c : Code} {D : va_G} {aK aV : Nat → Nat} {A : Nat → Prop} {cB cI cJ : ClassId} {q : Nat → Nat} {N : Nat} {H : Heap} {locs : List Loc} {ls : Array Slot} {ρ : Int32 × KSt} {a1 : Int32} {σ : KSt} (G : CX p s m args meth c D (gTy cB cI cJ) aK aV A RX0 cX0_faultOfFirst 4 (some .int)) (hl : lv_has ls 4 [(1, .int a1)]) (hP : va_P D vwCl (kW cB N q σ) H) (hD : va_D A (kW cB N q σ)) (hS : va_S A s.heap H locs) (hf : kk_faultOfFirst_b102 N a1 σ = some ρ) : W p l e (rm_kk_faultOfFirst) s m args below meth c H locs 0 0 (MQ below (cQ D (gTy cB cI cJ) A (kW cB N q ρ.2) (some (.int ρ.1))) args s 0 0 A) (F0 m 102 ls []) := by
  unfold kk_faultOfFirst_b102 at hf
  obtain ⟨hx, hb, hml, hown, hT, hrt, hlk, hK, hA, hG, hE⟩ := id G
  refine lv_iload_n hx hb dX0_faultOfFirst_102 rfl (lv_at hl 0 rfl) ?_
  refine lv_bipush (v := (31 : Int32)) hx hb dX0_faultOfFirst_103 (by decide) ?_
  refine lv_icmp_ne (tgt := 113) hx hb dX0_faultOfFirst_105 (by decide) (fun c14 => ?_) (fun c14 => ?_)
  · have hf := (if_neg c14).symm.trans hf
    refine lv_iconst (v := (0 : Int32)) hx hb dX0_faultOfFirst_113 (by decide) ?_
    cases hf
    exact ct_iret G rfl hP hD hS dX0_faultOfFirst_114
  · have hf := (if_pos c14).symm.trans hf
    refine lv_bipush (v := (6 : Int32)) hx hb dX0_faultOfFirst_108 (by decide) ?_
    refine lv_goto (tgt := 114) hx hb dX0_faultOfFirst_110 (by decide) ?_
    cases hf
    exact ct_iret G rfl hP hD hS dX0_faultOfFirst_114
set_option maxHeartbeats 4000000 in
set_option maxRecDepth 100000 in
theorem kk_faultOfFirst_t79 {p : Program} {l : Launch} {e : Env} {s : State} {m : MethodId} {args : Array Value} {below : List Frame} {meth : Method} {c : Code} {D : va_G} {aK aV : Nat → Nat} {A : Nat → Prop} {cB cI cJ : ClassId} {q : Nat → Nat} {N : Nat} {H : Heap} {locs : List Loc} {ls : Array Slot} {ρ : Int32 × KSt} {a1 : Int32} {σ : KSt} (G : CX p s m args meth c D (gTy cB cI cJ) aK aV A RX0 cX0_faultOfFirst 4 (some .int)) (hl : lv_has ls 4 [(0, .ref (q 0)), (1, .int a1)]) (hP : va_P D vwCl (kW cB N q σ) H) (hD : va_D A (kW cB N q σ)) (hS : va_S A s.heap H locs) (hf : kk_faultOfFirst_b79 N a1 σ = some ρ) : W p l e (rm_kk_faultOfFirst) s m args below meth c H locs 0 0 (MQ below (cQ D (gTy cB cI cJ) A (kW cB N q ρ.2) (some (.int ρ.1))) args s 0 0 A) (F0 m 79 ls []) := by
  unfold kk_faultOfFirst_b79 at hf
  obtain ⟨hx, hb, hml, hown, hT, hrt, hlk, hK, hA, hG, hE⟩ := id G
  refine lv_aload_n hx hb dX0_faultOfFirst_79 rfl (lv_at hl 0 rfl) ?_
  refine gk_X0_type (v := (kf_type σ)) G hP dX0_faultOfFirst_80 rfl ?_
  refine lv_bipush (v := (7 : Int32)) hx hb dX0_faultOfFirst_83 (by decide) ?_
  refine lv_icmp_ne (tgt := 102) hx hb dX0_faultOfFirst_85 (by decide) (fun c11 => ?_) (fun c11 => ?_)
  · have hf := (if_neg c11).symm.trans hf
    exact W.eq (g2 := F0 m 102 ls []) rfl (kk_faultOfFirst_t102 G (lv_sub hl [1] rfl) hP hD hS hf)
  · have hf := (if_pos c11).symm.trans hf
    refine lv_iload_n hx hb dX0_faultOfFirst_88 rfl (lv_at hl 1 rfl) ?_
    refine lv_bipush (v := (20 : Int32)) hx hb dX0_faultOfFirst_89 (by decide) ?_
    refine lv_icmp_lt (tgt := 100) hx hb dX0_faultOfFirst_91 (by decide) (fun c12 => ?_) (fun c12 => ?_)
    · have hf := (if_pos c12).symm.trans hf
      refine lv_iconst (v := (2 : Int32)) hx hb dX0_faultOfFirst_100 (by decide) ?_
      cases hf
      exact ct_iret G rfl hP hD hS dX0_faultOfFirst_101
    · have hf := (if_neg c12).symm.trans hf
      refine lv_iload_n hx hb dX0_faultOfFirst_94 rfl (lv_at hl 1 rfl) ?_
      refine lv_bipush (v := (22 : Int32)) hx hb dX0_faultOfFirst_95 (by decide) ?_
      refine lv_icmp_le (tgt := 102) hx hb dX0_faultOfFirst_97 (by decide) (fun c13 => ?_) (fun c13 => ?_)
      · have hf := (if_pos c13).symm.trans hf
        exact W.eq (g2 := F0 m 102 ls []) rfl (kk_faultOfFirst_t102 G (lv_sub hl [1] rfl) hP hD hS hf)
      · have hf := (if_neg c13).symm.trans hf
        refine lv_iconst (v := (2 : Int32)) hx hb dX0_faultOfFirst_100 (by decide) ?_
        cases hf
        exact ct_iret G rfl hP hD hS dX0_faultOfFirst_101
set_option maxHeartbeats 4000000 in
set_option maxRecDepth 100000 in
theorem kk_faultOfFirst_t48 {p : Program} {l : Launch} {e : Env} {s : State} {m : MethodId} {args : Array Value} {below : List Frame} {meth : Method} {c : Code} {D : va_G} {aK aV : Nat → Nat} {A : Nat → Prop} {cB cI cJ : ClassId} {q : Nat → Nat} {N : Nat} {H : Heap} {locs : List Loc} {ls : Array Slot} {ρ : Int32 × KSt} {a1 : Int32} {a2 : Int32} {σ : KSt} (G : CX p s m args meth c D (gTy cB cI cJ) aK aV A RX0 cX0_faultOfFirst 4 (some .int)) (hl : lv_has ls 4 [(0, .ref (q 0)), (1, .int a1), (2, .int a2)]) (hP : va_P D vwCl (kW cB N q σ) H) (hD : va_D A (kW cB N q σ)) (hS : va_S A s.heap H locs) (hf : kk_faultOfFirst_b48 N a1 a2 σ = some ρ) : W p l e (rm_kk_faultOfFirst) s m args below meth c H locs 0 0 (MQ below (cQ D (gTy cB cI cJ) A (kW cB N q ρ.2) (some (.int ρ.1))) args s 0 0 A) (F0 m 48 ls []) := by
  unfold kk_faultOfFirst_b48 at hf
  obtain ⟨hx, hb, hml, hown, hT, hrt, hlk, hK, hA, hG, hE⟩ := id G
  refine lv_aload_n hx hb dX0_faultOfFirst_48 rfl (lv_at hl 0 rfl) ?_
  refine gk_X0_type (v := (kf_type σ)) G hP dX0_faultOfFirst_49 rfl ?_
  refine lv_iconst (v := (2 : Int32)) hx hb dX0_faultOfFirst_52 (by decide) ?_
  refine lv_icmp_eq (tgt := 77) hx hb dX0_faultOfFirst_53 (by decide) (fun c7 => ?_) (fun c7 => ?_)
  · have hf := (if_pos c7).symm.trans hf
    refine lv_iconst (v := (2 : Int32)) hx hb dX0_faultOfFirst_77 (by decide) ?_
    cases hf
    exact ct_iret G rfl hP hD hS dX0_faultOfFirst_78
  · have hf := (if_neg c7).symm.trans hf
    refine lv_aload_n hx hb dX0_faultOfFirst_56 rfl (lv_at hl 0 rfl) ?_
    refine gk_X0_type (v := (kf_type σ)) G hP dX0_faultOfFirst_57 rfl ?_
    refine lv_bipush (v := (6 : Int32)) hx hb dX0_faultOfFirst_60 (by decide) ?_
    refine lv_icmp_eq (tgt := 77) hx hb dX0_faultOfFirst_62 (by decide) (fun c8 => ?_) (fun c8 => ?_)
    · have hf := (if_pos c8).symm.trans hf
      refine lv_iconst (v := (2 : Int32)) hx hb dX0_faultOfFirst_77 (by decide) ?_
      cases hf
      exact ct_iret G rfl hP hD hS dX0_faultOfFirst_78
    · have hf := (if_neg c8).symm.trans hf
      refine lv_iload_n hx hb dX0_faultOfFirst_65 rfl (lv_at hl 2 rfl) ?_
      refine lv_if_eq (tgt := 79) hx hb dX0_faultOfFirst_66 (by decide) (fun c9 => ?_) (fun c9 => ?_)
      · have hf := (if_pos c9).symm.trans hf
        exact W.eq (g2 := F0 m 79 ls []) rfl (kk_faultOfFirst_t79 G (lv_sub hl [0, 1] rfl) hP hD hS hf)
      · have hf := (if_neg c9).symm.trans hf
        refine lv_aload_n hx hb dX0_faultOfFirst_69 rfl (lv_at hl 0 rfl) ?_
        refine gk_X0_type (v := (kf_type σ)) G hP dX0_faultOfFirst_70 rfl ?_
        refine lv_iconst (v := (3 : Int32)) hx hb dX0_faultOfFirst_73 (by decide) ?_
        refine lv_icmp_eq (tgt := 79) hx hb dX0_faultOfFirst_74 (by decide) (fun c10 => ?_) (fun c10 => ?_)
        · have hf := (if_pos c10).symm.trans hf
          exact W.eq (g2 := F0 m 79 ls []) rfl (kk_faultOfFirst_t79 G (lv_sub hl [0, 1] rfl) hP hD hS hf)
        · have hf := (if_neg c10).symm.trans hf
          refine lv_iconst (v := (2 : Int32)) hx hb dX0_faultOfFirst_77 (by decide) ?_
          cases hf
          exact ct_iret G rfl hP hD hS dX0_faultOfFirst_78
set_option maxHeartbeats 4000000 in
set_option maxRecDepth 100000 in
theorem kk_faultOfFirst_t29 {p : Program} {l : Launch} {e : Env} {s : State} {m : MethodId} {args : Array Value} {below : List Frame} {meth : Method} {c : Code} {D : va_G} {aK aV : Nat → Nat} {A : Nat → Prop} {cB cI cJ : ClassId} {q : Nat → Nat} {N : Nat} {H : Heap} {locs : List Loc} {ls : Array Slot} {ρ : Int32 × KSt} {a1 : Int32} {a2 : Int32} {s0 : Int32} {σ : KSt} (G : CX p s m args meth c D (gTy cB cI cJ) aK aV A RX0 cX0_faultOfFirst 4 (some .int)) (hl : lv_has ls 4 [(0, .ref (q 0)), (1, .int a1), (2, .int a2)]) (hP : va_P D vwCl (kW cB N q σ) H) (hD : va_D A (kW cB N q σ)) (hS : va_S A s.heap H locs) (hf : kk_faultOfFirst_b29 N a1 a2 s0 σ = some ρ) : W p l e (rm_kk_faultOfFirst) s m args below meth c H locs 0 0 (MQ below (cQ D (gTy cB cI cJ) A (kW cB N q ρ.2) (some (.int ρ.1))) args s 0 0 A) (F0 m 29 ls [.int s0]) := by
  unfold kk_faultOfFirst_b29 at hf
  obtain ⟨hx, hb, hml, hown, hT, hrt, hlk, hK, hA, hG, hE⟩ := id G
  refine lv_istore_n (lv' := [(3, .int s0), (0, .ref (q 0)), (1, .int a1), (2, .int a2)]) hx hb dX0_faultOfFirst_29 rfl hl (by decide) rfl (fun ls hl => ?_)
  refine lv_iload_n hx hb dX0_faultOfFirst_30 rfl (lv_at hl 2 rfl) ?_
  refine lv_bipush (v := (27 : Int32)) hx hb dX0_faultOfFirst_31 (by decide) ?_
  refine lv_icmp_le (tgt := 48) hx hb dX0_faultOfFirst_33 (by decide) (fun c4 => ?_) (fun c4 => ?_)
  · have hf := (if_pos c4).symm.trans hf
    exact W.eq (g2 := F0 m 48 ls []) rfl (kk_faultOfFirst_t48 G (lv_sub hl [1, 2, 3] rfl) hP hD hS hf)
  · have hf := (if_neg c4).symm.trans hf
    refine lv_iload_n hx hb dX0_faultOfFirst_36 rfl (lv_at hl 2 rfl) ?_
    refine lv_bipush (v := (31 : Int32)) hx hb dX0_faultOfFirst_37 (by decide) ?_
    refine lv_icmp_lt (tgt := 46) hx hb dX0_faultOfFirst_39 (by decide) (fun c5 => ?_) (fun c5 => ?_)
    · have hf := (if_pos c5).symm.trans hf
      refine lv_iconst (v := (1 : Int32)) hx hb dX0_faultOfFirst_46 (by decide) ?_
      cases hf
      exact ct_iret G rfl hP hD hS dX0_faultOfFirst_47
    · have hf := (if_neg c5).symm.trans hf
      refine lv_iload_n hx hb dX0_faultOfFirst_42 rfl (lv_at hl 0 rfl) ?_
      refine lv_if_eq (tgt := 48) hx hb dX0_faultOfFirst_43 (by decide) (fun c6 => ?_) (fun c6 => ?_)
      · have hf := (if_pos c6).symm.trans hf
        exact W.eq (g2 := F0 m 48 ls []) rfl (kk_faultOfFirst_t48 G (lv_sub hl [1, 2, 3] rfl) hP hD hS hf)
      · have hf := (if_neg c6).symm.trans hf
        refine lv_iconst (v := (1 : Int32)) hx hb dX0_faultOfFirst_46 (by decide) ?_
        cases hf
        exact ct_iret G rfl hP hD hS dX0_faultOfFirst_47
set_option maxHeartbeats 4000000 in
set_option maxRecDepth 100000 in
theorem kk_faultOfFirst_t0e {p : Program} {l : Launch} {e : Env} {s : State} {m : MethodId} {args : Array Value} {below : List Frame} {meth : Method} {c : Code} {D : va_G} {aK aV : Nat → Nat} {A : Nat → Prop} {cB cI cJ : ClassId} {q : Nat → Nat} {N : Nat} {H : Heap} {locs : List Loc} {ls : Array Slot} {ρ : Int32 × KSt} {p0 : Int32} {p1 : Int32} {σ : KSt} (G : CX p s m args meth c D (gTy cB cI cJ) aK aV A RX0 cX0_faultOfFirst 4 (some .int)) (hl : lv_has ls 4 [(0, .ref (q 0)), (1, .int p0), (2, .int p1)]) (hP : va_P D vwCl (kW cB N q σ) H) (hD : va_D A (kW cB N q σ)) (hS : va_S A s.heap H locs) (hf : kk_faultOfFirst N p0 p1 σ = some ρ) : W p l e (rm_kk_faultOfFirst) s m args below meth c H locs 0 0 (MQ below (cQ D (gTy cB cI cJ) A (kW cB N q ρ.2) (some (.int ρ.1))) args s 0 0 A) (F0 m 0 ls []) := by
  unfold kk_faultOfFirst at hf
  obtain ⟨hx, hb, hml, hown, hT, hrt, hlk, hK, hA, hG, hE⟩ := id G
  refine lv_aload_n hx hb dX0_faultOfFirst_0 rfl (lv_at hl 0 rfl) ?_
  refine gk_X0_type (v := (kf_type σ)) G hP dX0_faultOfFirst_1 rfl ?_
  refine lv_if_eq (tgt := 24) hx hb dX0_faultOfFirst_4 (by decide) (fun c1 => ?_) (fun c1 => ?_)
  · have hf := (if_pos c1).symm.trans hf
    refine lv_iconst (v := (1 : Int32)) hx hb dX0_faultOfFirst_24 (by decide) ?_
    refine lv_goto (tgt := 29) hx hb dX0_faultOfFirst_25 (by decide) ?_
    exact W.eq (g2 := F0 m 29 ls [.int (1 : Int32)]) rfl (kk_faultOfFirst_t29 G (lv_sub hl [0, 1, 2] rfl) hP hD hS hf)
  · have hf := (if_neg c1).symm.trans hf
    refine lv_aload_n hx hb dX0_faultOfFirst_7 rfl (lv_at hl 0 rfl) ?_
    refine gk_X0_type (v := (kf_type σ)) G hP dX0_faultOfFirst_8 rfl ?_
    refine lv_iconst (v := (1 : Int32)) hx hb dX0_faultOfFirst_11 (by decide) ?_
    refine lv_icmp_eq (tgt := 24) hx hb dX0_faultOfFirst_12 (by decide) (fun c2 => ?_) (fun c2 => ?_)
    · have hf := (if_pos c2).symm.trans hf
      refine lv_iconst (v := (1 : Int32)) hx hb dX0_faultOfFirst_24 (by decide) ?_
      refine lv_goto (tgt := 29) hx hb dX0_faultOfFirst_25 (by decide) ?_
      exact W.eq (g2 := F0 m 29 ls [.int (1 : Int32)]) rfl (kk_faultOfFirst_t29 G (lv_sub hl [0, 1, 2] rfl) hP hD hS hf)
    · have hf := (if_neg c2).symm.trans hf
      refine lv_aload_n hx hb dX0_faultOfFirst_15 rfl (lv_at hl 0 rfl) ?_
      refine gk_X0_type (v := (kf_type σ)) G hP dX0_faultOfFirst_16 rfl ?_
      refine lv_bipush (v := (7 : Int32)) hx hb dX0_faultOfFirst_19 (by decide) ?_
      refine lv_icmp_ne (tgt := 28) hx hb dX0_faultOfFirst_21 (by decide) (fun c3 => ?_) (fun c3 => ?_)
      · have hf := (if_neg c3).symm.trans hf
        refine lv_iconst (v := (0 : Int32)) hx hb dX0_faultOfFirst_28 (by decide) ?_
        exact W.eq (g2 := F0 m 29 ls [.int (0 : Int32)]) rfl (kk_faultOfFirst_t29 G (lv_sub hl [0, 1, 2] rfl) hP hD hS hf)
      · have hf := (if_pos c3).symm.trans hf
        refine lv_iconst (v := (1 : Int32)) hx hb dX0_faultOfFirst_24 (by decide) ?_
        refine lv_goto (tgt := 29) hx hb dX0_faultOfFirst_25 (by decide) ?_
        exact W.eq (g2 := F0 m 29 ls [.int (1 : Int32)]) rfl (kk_faultOfFirst_t29 G (lv_sub hl [0, 1, 2] rfl) hP hD hS hf)
set_option maxHeartbeats 4000000 in
set_option maxRecDepth 100000 in
theorem c_kk_faultOfFirst {l : Launch} {D : va_G} {aK aV : Nat → Nat} {cB cI cJ : ClassId} {q : Nat → Nat} {N : Nat} {ρ : Int32 × KSt} {p0 : Int32} {p1 : Int32} {σ : KSt} (hf : kk_faultOfFirst N p0 p1 σ = some ρ) : CT l D (gTy cB cI cJ) aK aV yX0_faultOfFirst (wM yX0_faultOfFirst cX0_faultOfFirst 4 (some .int)) (rm_kk_faultOfFirst) 0 0 [.ref (q 0), .int p0, .int p1] (kW cB N q σ) (some (.int ρ.1)) (kW cB N q ρ.2) := by
  refine CT.of (by decide) rfl ?_
  intro p e s m below meth c A G hnm hP hD hS
  have hl := lv_entry [.ref (q 0), .int p0, .int p1] (n := 4) (Nat.le_of_ble_eq_true rfl)
  rw [lg_entry_eq]
  generalize (lg_sl [.ref (q 0), .int p0, .int p1] ++ List.replicate (4 - (lg_sl [.ref (q 0), .int p0, .int p1]).length) Slot.unset).toArray = ls at hl ⊢
  exact kk_faultOfFirst_t0e G hl hP hD hS hf
def kk_numberBehind_b5 (N : Nat) (k5 : Int32 → Int64 → Int32 → KSt → Option (Int64 × KSt)) (a1 : Int32) (a2 : Int64) (a4 : Int32) (σ : KSt) : Option (Int64 × KSt) := (if a1 < a4 then some (a2, σ) else bd (rr_at 4000 ((kf_place σ) + a4) (kf_tape σ)) (fun (x2 : Int32 × RSt) => lt ((a2 <<< (Int32.toInt64 (8 : Int32) &&& 63)) ||| (Int32.toInt64 x2.1)) (fun (v3 : Int64) => lt (a4 + (1 : Int32)) (fun (v4 : Int32) => k5 a1 v3 v4 (ks_tape σ x2.2)))))
def kk_numberBehind_L5 (N : Nat) : Nat → Int32 → Int64 → Int32 → KSt → Option (Int64 × KSt)
  | 0, _, _, _, _ => none
  | n + 1, a1, a2, a4, σ => kk_numberBehind_b5 N (kk_numberBehind_L5 N n) a1 a2 a4 σ
def kk_numberBehind (N : Nat) (p0 : Int32) (σ : KSt) : Option (Int64 × KSt) := kk_numberBehind_L5 N FU p0 (0 : Int64) (1 : Int32) σ
abbrev rm_kk_numberBehind : Room := { frames := 1, cells := 0, slots := 0, locals := 21 }
set_option maxHeartbeats 4000000 in
set_option maxRecDepth 100000 in
theorem kk_numberBehind_t5 {p : Program} {l : Launch} {e : Env} {s : State} {m : MethodId} {args : Array Value} {below : List Frame} {meth : Method} {c : Code} {D : va_G} {aK aV : Nat → Nat} {A : Nat → Prop} {cB cI cJ : ClassId} {q : Nat → Nat} {N : Nat} {H : Heap} {locs : List Loc} {ls : Array Slot} {ρ : Int64 × KSt} {k5 : Int32 → Int64 → Int32 → KSt → Option (Int64 × KSt)} {a1 : Int32} {a2 : Int64} {a4 : Int32} {σ : KSt} (G : CX p s m args meth c D (gTy cB cI cJ) aK aV A RX0 cX0_numberBehind 5 (some .long)) (hk5 : ∀ (a1 : Int32) (a2 : Int64) (a4 : Int32) (σ : KSt) (H : Heap) (locs : List Loc) (ls : Array Slot), lv_has ls 5 [(0, .ref (q 0)), (1, .int a1), (2, .long a2), (4, .int a4)] → va_P D vwCl (kW cB N q σ) H → va_D A (kW cB N q σ) → va_S A s.heap H locs → k5 a1 a2 a4 σ = some ρ → W p l e (rm_kk_numberBehind) s m args below meth c H locs 0 0 (MQ below (cQ D (gTy cB cI cJ) A (kW cB N q ρ.2) (some (.long ρ.1))) args s 0 0 A) (F0 m 5 ls [])) (hl : lv_has ls 5 [(0, .ref (q 0)), (1, .int a1), (2, .long a2), (4, .int a4)]) (hP : va_P D vwCl (kW cB N q σ) H) (hD : va_D A (kW cB N q σ)) (hS : va_S A s.heap H locs) (hf : kk_numberBehind_b5 N k5 a1 a2 a4 σ = some ρ) : W p l e (rm_kk_numberBehind) s m args below meth c H locs 0 0 (MQ below (cQ D (gTy cB cI cJ) A (kW cB N q ρ.2) (some (.long ρ.1))) args s 0 0 A) (F0 m 5 ls []) := by
  unfold kk_numberBehind_b5 at hf
  obtain ⟨hx, hb, hml, hown, hT, hrt, hlk, hK, hA, hG, hE⟩ := id G
  refine lv_iload hx hb dX0_numberBehind_5 (lv_at hl 3 rfl) ?_
  refine lv_iload_n hx hb dX0_numberBehind_7 rfl (lv_at hl 1 rfl) ?_
  refine lv_icmp_gt (tgt := 38) hx hb dX0_numberBehind_8 (by decide) (fun c1 => ?_) (fun c1 => ?_)
  · have hf := (if_pos c1).symm.trans hf
    refine lv_lload_n hx hb dX0_numberBehind_38 rfl (lv_at hl 2 rfl) ?_
    cases hf
    exact ct_lret G hP hD hS dX0_numberBehind_39
  · have hf := (if_neg c1).symm.trans hf
    refine lv_lload_n hx hb dX0_numberBehind_11 rfl (lv_at hl 2 rfl) ?_
    refine lv_bipush (v := (8 : Int32)) hx hb dX0_numberBehind_12 (by decide) ?_
    refine lv_lshl (v := (a2 <<< (Int32.toInt64 (8 : Int32) &&& 63))) hx hb dX0_numberBehind_14 rfl ?_
    refine lv_aload_n hx hb dX0_numberBehind_15 rfl (lv_at hl 0 rfl) ?_
    refine gk_X0_tape G hP dX0_numberBehind_16 ?_
    refine lv_aload_n hx hb dX0_numberBehind_19 rfl (lv_at hl 0 rfl) ?_
    refine gk_X0_place (v := (kf_place σ)) G hP dX0_numberBehind_20 rfl ?_
    refine lv_iload hx hb dX0_numberBehind_23 (lv_at hl 3 rfl) ?_
    refine lv_iadd hx hb dX0_numberBehind_25 ?_
    obtain ⟨x2, hx2, hf⟩ := bd_some hf
    refine vK_tape (As := [.int ((kf_place σ) + a4)]) (rest := [.long (a2 <<< (Int32.toInt64 (8 : Int32) &&& 63))]) (τ := x2.2) G kX0_75 rfl (c_rr_at hx2) hP hD hS ⟨rfl, rfl, Nat.le_of_ble_eq_true rfl, Nat.le_of_ble_eq_true rfl⟩ ⟨Nat.zero_le _, Nat.zero_le _⟩ rfl hl.1 (Nat.le_of_ble_eq_true rfl) dX0_numberBehind_26 (fun H locs hP hD hS => ?_)
    refine W.eq (g2 := F0 m 29 ls [.int x2.1, .long (a2 <<< (Int32.toInt64 (8 : Int32) &&& 63))]) rfl ?_
    refine lv_i2l (v := (Int32.toInt64 x2.1)) hx hb dX0_numberBehind_29 rfl ?_
    refine lv_lor hx hb dX0_numberBehind_30 ?_
    refine lv_topl (fun v3 ev3 => ?_)
    have hf := lt_eq hf ev3
    refine lv_lstore_n (lv' := [(2, .long v3), (0, .ref (q 0)), (1, .int a1), (4, .int a4)]) hx hb dX0_numberBehind_31 rfl hl (by decide) rfl (fun ls hl => ?_)
    obtain ⟨v4, ev4⟩ : ∃ y : Int32, y = (a4 + (1 : Int32)) := ⟨_, rfl⟩
    have hf := lt_eq hf ev4
    refine lv_iinc (v := v4) (lv' := [(4, .int v4), (2, .long v3), (0, .ref (q 0)), (1, .int a1)]) hx hb dX0_numberBehind_32 hl (k := 3) rfl (by rw [ev4]; rfl) (by decide) rfl (fun ls hl => ?_)
    refine lv_goto (tgt := 5) hx hb dX0_numberBehind_35 (by decide) ?_
    exact W.eq (g2 := F0 m 5 ls []) rfl (hk5 _ _ _ _ _ _ _ (lv_sub hl [2, 3, 1, 0] rfl) hP hD hS hf)
set_option maxHeartbeats 4000000 in
set_option maxRecDepth 100000 in
theorem kk_numberBehind_u5 {p : Program} {l : Launch} {e : Env} {s : State} {m : MethodId} {args : Array Value} {below : List Frame} {meth : Method} {c : Code} {D : va_G} {aK aV : Nat → Nat} {A : Nat → Prop} {cB cI cJ : ClassId} {q : Nat → Nat} {N : Nat} {ρ : Int64 × KSt} (G : CX p s m args meth c D (gTy cB cI cJ) aK aV A RX0 cX0_numberBehind 5 (some .long)) : ∀ (n : Nat) {a1 : Int32} {a2 : Int64} {a4 : Int32} {σ : KSt} {H : Heap} {locs : List Loc} {ls : Array Slot} (hl : lv_has ls 5 [(0, .ref (q 0)), (1, .int a1), (2, .long a2), (4, .int a4)]) (hP : va_P D vwCl (kW cB N q σ) H) (hD : va_D A (kW cB N q σ)) (hS : va_S A s.heap H locs) (hf : kk_numberBehind_L5 N n a1 a2 a4 σ = some ρ), W p l e (rm_kk_numberBehind) s m args below meth c H locs 0 0 (MQ below (cQ D (gTy cB cI cJ) A (kW cB N q ρ.2) (some (.long ρ.1))) args s 0 0 A) (F0 m 5 ls []) := by
  intro n
  induction n with
  | zero =>
    intros
    rename_i hf
    cases hf
  | succ n ih =>
    intro a1 a2 a4 σ H locs ls hl hP hD hS hf
    exact kk_numberBehind_t5 G (fun _ _ _ _ H locs ls hl hP hD hS hf => ih hl hP hD hS hf) hl hP hD hS hf
set_option maxHeartbeats 4000000 in
set_option maxRecDepth 100000 in
theorem kk_numberBehind_t0e {p : Program} {l : Launch} {e : Env} {s : State} {m : MethodId} {args : Array Value} {below : List Frame} {meth : Method} {c : Code} {D : va_G} {aK aV : Nat → Nat} {A : Nat → Prop} {cB cI cJ : ClassId} {q : Nat → Nat} {N : Nat} {H : Heap} {locs : List Loc} {ls : Array Slot} {ρ : Int64 × KSt} {p0 : Int32} {σ : KSt} (G : CX p s m args meth c D (gTy cB cI cJ) aK aV A RX0 cX0_numberBehind 5 (some .long)) (hl : lv_has ls 5 [(0, .ref (q 0)), (1, .int p0)]) (hP : va_P D vwCl (kW cB N q σ) H) (hD : va_D A (kW cB N q σ)) (hS : va_S A s.heap H locs) (hf : kk_numberBehind N p0 σ = some ρ) : W p l e (rm_kk_numberBehind) s m args below meth c H locs 0 0 (MQ below (cQ D (gTy cB cI cJ) A (kW cB N q ρ.2) (some (.long ρ.1))) args s 0 0 A) (F0 m 0 ls []) := by
  unfold kk_numberBehind at hf
  obtain ⟨hx, hb, hml, hown, hT, hrt, hlk, hK, hA, hG, hE⟩ := id G
  refine lv_lconst (v := (0 : Int64)) hx hb dX0_numberBehind_0 (by decide) ?_
  refine lv_lstore_n (lv' := [(2, .long (0 : Int64)), (0, .ref (q 0)), (1, .int p0)]) hx hb dX0_numberBehind_1 rfl hl (by decide) rfl (fun ls hl => ?_)
  refine lv_iconst (v := (1 : Int32)) hx hb dX0_numberBehind_2 (by decide) ?_
  refine lv_istore (lv' := [(4, .int (1 : Int32)), (2, .long (0 : Int64)), (0, .ref (q 0)), (1, .int p0)]) hx hb dX0_numberBehind_3 hl (by decide) rfl (fun ls hl => ?_)
  exact W.eq (g2 := F0 m 5 ls []) rfl (kk_numberBehind_u5 G FU (lv_sub hl [2, 3, 1, 0] rfl) hP hD hS hf)
set_option maxHeartbeats 4000000 in
set_option maxRecDepth 100000 in
theorem c_kk_numberBehind {l : Launch} {D : va_G} {aK aV : Nat → Nat} {cB cI cJ : ClassId} {q : Nat → Nat} {N : Nat} {ρ : Int64 × KSt} {p0 : Int32} {σ : KSt} (hf : kk_numberBehind N p0 σ = some ρ) : CT l D (gTy cB cI cJ) aK aV yX0_numberBehind (wM yX0_numberBehind cX0_numberBehind 5 (some .long)) (rm_kk_numberBehind) 0 0 [.ref (q 0), .int p0] (kW cB N q σ) (some (.long ρ.1)) (kW cB N q ρ.2) := by
  refine CT.of (by decide) rfl ?_
  intro p e s m below meth c A G hnm hP hD hS
  have hl := lv_entry [.ref (q 0), .int p0] (n := 5) (Nat.le_of_ble_eq_true rfl)
  rw [lg_entry_eq]
  generalize (lg_sl [.ref (q 0), .int p0] ++ List.replicate (5 - (lg_sl [.ref (q 0), .int p0]).length) Slot.unset).toArray = ls at hl ⊢
  exact kk_numberBehind_t0e G hl hP hD hS hf
def kk_readHead_b149 (N : Nat) (a5 : Int32) (σ : KSt) : Option (Bool × KSt) := some (true, (ks_place σ ((kf_place σ) + ((1 : Int32) + a5))))
def kk_readHead_b119 (N : Nat) (a3 : Int32) (a5 : Int32) (s0 : Int64) (σ : KSt) : Option (Bool × KSt) := (if a5 ≤ 0 then kk_readHead_b149 N a5 (ks_number σ s0) else (if (eX4_shortestInfo s0) = a3 then kk_readHead_b149 N a5 (ks_number σ s0) else bd (kk_refuse N (6 : Int32) (kf_place σ) (ks_number σ s0)) (fun (x18 : Bool × KSt) => some (x18.1, x18.2))))
def kk_readHead (N : Nat) (p0 : Int32) (σ : KSt) : Option (Bool × KSt) := bd (rr_at 4000 (kf_place σ) (kf_tape σ)) (fun (x1 : Int32 × RSt) => (if x1.1 = (-1 : Int32) then bd (rr_size 4000  x1.2) (fun (x14 : Int32 × RSt) => bd (kk_refuse N (1 : Int32) x14.1 (ks_tape (ks_tape σ x1.2) x14.2)) (fun (x15 : Bool × KSt) => some (x15.1, x15.2))) else lt (x1.1 &&& (31 : Int32)) (fun (v3 : Int32) => bd (kk_faultOfFirst N v3 p0 (ks_type (ks_tape σ x1.2) (x1.1 >>> ((5 : Int32) &&& 31)))) (fun (x4 : Int32 × KSt) => (if x4.1 = 0 then lt (eX4_bytesBehind v3) (fun (v6 : Int32) => bd (rr_size 4000  (kf_tape x4.2)) (fun (x7 : Int32 × RSt) => (if v6 < (x7.1 - (kf_place x4.2)) then (if v6 = 0 then kk_readHead_b119 N v3 v6 (Int32.toInt64 v3) (ks_tape x4.2 x7.2) else bd (kk_numberBehind N v6 (ks_tape x4.2 x7.2)) (fun (x10 : Int64 × KSt) => kk_readHead_b119 N v3 v6 x10.1 x10.2)) else bd (rr_size 4000  x7.2) (fun (x11 : Int32 × RSt) => bd (kk_refuse N (1 : Int32) x11.1 (ks_tape (ks_tape x4.2 x7.2) x11.2)) (fun (x12 : Bool × KSt) => some (x12.1, x12.2)))))) else bd (kk_refuse N x4.1 (kf_place x4.2) x4.2) (fun (x13 : Bool × KSt) => some (x13.1, x13.2)))))))
abbrev rm_kk_readHead : Room := { frames := 2, cells := 0, slots := 0, locals := 45 }
set_option maxHeartbeats 4000000 in
set_option maxRecDepth 100000 in
theorem kk_readHead_t149 {p : Program} {l : Launch} {e : Env} {s : State} {m : MethodId} {args : Array Value} {below : List Frame} {meth : Method} {c : Code} {D : va_G} {aK aV : Nat → Nat} {A : Nat → Prop} {cB cI cJ : ClassId} {q : Nat → Nat} {N : Nat} {H : Heap} {locs : List Loc} {ls : Array Slot} {ρ : Bool × KSt} {a5 : Int32} {σ : KSt} (G : CX p s m args meth c D (gTy cB cI cJ) aK aV A RX0 cX0_readHead 6 (some .boolean)) (hl : lv_has ls 6 [(0, .ref (q 0)), (5, .int a5)]) (hP : va_P D vwCl (kW cB N q σ) H) (hD : va_D A (kW cB N q σ)) (hS : va_S A s.heap H locs) (hf : kk_readHead_b149 N a5 σ = some ρ) : W p l e (rm_kk_readHead) s m args below meth c H locs 0 0 (MQ below (cQ D (gTy cB cI cJ) A (kW cB N q ρ.2) (some (.int (bI ρ.1)))) args s 0 0 A) (F0 m 149 ls []) := by
  unfold kk_readHead_b149 at hf
  obtain ⟨hx, hb, hml, hown, hT, hrt, hlk, hK, hA, hG, hE⟩ := id G
  refine lv_aload_n hx hb dX0_readHead_149 rfl (lv_at hl 0 rfl) ?_
  refine lv_dup hx hb dX0_readHead_150 rfl ?_
  refine gk_X0_place (v := (kf_place σ)) G hP dX0_readHead_151 rfl ?_
  refine lv_iconst (v := (1 : Int32)) hx hb dX0_readHead_154 (by decide) ?_
  refine lv_iload hx hb dX0_readHead_155 (lv_at hl 1 rfl) ?_
  refine lv_iadd hx hb dX0_readHead_157 ?_
  refine lv_iadd hx hb dX0_readHead_158 ?_
  refine pk_X0_place (v := ((kf_place σ) + ((1 : Int32) + a5))) G hP hD hS dX0_readHead_159 (fun H locs hP hD hS => ?_)
  refine lv_iconst (v := (1 : Int32)) hx hb dX0_readHead_162 (by decide) ?_
  cases hf
  exact ct_iret G (bI_nar true) hP hD hS dX0_readHead_163
set_option maxHeartbeats 4000000 in
set_option maxRecDepth 100000 in
theorem kk_readHead_t119 {p : Program} {l : Launch} {e : Env} {s : State} {m : MethodId} {args : Array Value} {below : List Frame} {meth : Method} {c : Code} {D : va_G} {aK aV : Nat → Nat} {A : Nat → Prop} {cB cI cJ : ClassId} {q : Nat → Nat} {N : Nat} {H : Heap} {locs : List Loc} {ls : Array Slot} {ρ : Bool × KSt} {a3 : Int32} {a5 : Int32} {s0 : Int64} {σ : KSt} (G : CX p s m args meth c D (gTy cB cI cJ) aK aV A RX0 cX0_readHead 6 (some .boolean)) (hl : lv_has ls 6 [(0, .ref (q 0)), (3, .int a3), (5, .int a5)]) (hP : va_P D vwCl (kW cB N q σ) H) (hD : va_D A (kW cB N q σ)) (hS : va_S A s.heap H locs) (hf : kk_readHead_b119 N a3 a5 s0 σ = some ρ) : W p l e (rm_kk_readHead) s m args below meth c H locs 0 0 (MQ below (cQ D (gTy cB cI cJ) A (kW cB N q ρ.2) (some (.int (bI ρ.1)))) args s 0 0 A) (F0 m 119 ls [.long s0, .ref (q 0)]) := by
  unfold kk_readHead_b119 at hf
  obtain ⟨hx, hb, hml, hown, hT, hrt, hlk, hK, hA, hG, hE⟩ := id G
  refine pk_X0_number (v := s0) G hP hD hS dX0_readHead_119 (fun H locs hP hD hS => ?_)
  refine lv_iload hx hb dX0_readHead_122 (lv_at hl 2 rfl) ?_
  refine lv_if_le (tgt := 149) hx hb dX0_readHead_124 (by decide) (fun c16 => ?_) (fun c16 => ?_)
  · have hf := (if_pos c16).symm.trans hf
    exact W.eq (g2 := F0 m 149 ls []) rfl (kk_readHead_t149 G (lv_sub hl [0, 2] rfl) hP hD hS hf)
  · have hf := (if_neg c16).symm.trans hf
    refine lv_aload_n hx hb dX0_readHead_127 rfl (lv_at hl 0 rfl) ?_
    refine gk_X0_number (v := s0) G hP dX0_readHead_128 (kG_number_number _ _) ?_
    refine ct_sn0 (As := [.long s0]) (rest := []) G kX0_90 (c_eX4_shortestInfo s0) hP hD hS ⟨rfl, rfl, Nat.le_of_ble_eq_true rfl, Nat.le_of_ble_eq_true rfl⟩ ⟨Nat.zero_le _, Nat.zero_le _⟩ rfl hl.1 (Nat.le_of_ble_eq_true rfl) dX0_readHead_131 (fun H locs hP hS => ?_)
    refine W.eq (g2 := F0 m 134 ls [.int (eX4_shortestInfo s0)]) rfl ?_
    refine lv_iload_n hx hb dX0_readHead_134 rfl (lv_at hl 1 rfl) ?_
    refine lv_icmp_eq (tgt := 149) hx hb dX0_readHead_135 (by decide) (fun c17 => ?_) (fun c17 => ?_)
    · have hf := (if_pos c17).symm.trans hf
      exact W.eq (g2 := F0 m 149 ls []) rfl (kk_readHead_t149 G (lv_sub hl [0, 2] rfl) hP hD hS hf)
    · have hf := (if_neg c17).symm.trans hf
      refine lv_aload_n hx hb dX0_readHead_138 rfl (lv_at hl 0 rfl) ?_
      refine lv_bipush (v := (6 : Int32)) hx hb dX0_readHead_139 (by decide) ?_
      refine lv_aload_n hx hb dX0_readHead_141 rfl (lv_at hl 0 rfl) ?_
      refine gk_X0_place (v := (kf_place σ)) G hP dX0_readHead_142 (kG_place_number _ _) ?_
      obtain ⟨x18, hx18, hf⟩ := bd_some hf
      refine uK (As := [.int (6 : Int32), .int (kf_place σ)]) (rest := []) G kX0_32 (c_kk_refuse hx18) hP hD hS ⟨rfl, rfl, Nat.le_of_ble_eq_true rfl, Nat.le_of_ble_eq_true rfl⟩ ⟨Nat.zero_le _, Nat.zero_le _⟩ rfl hl.1 (Nat.le_of_ble_eq_true rfl) dX0_readHead_145 (fun H locs hP hD hS => ?_)
      refine W.eq (g2 := F0 m 148 ls [.int (bI x18.1)]) rfl ?_
      cases hf
      exact ct_iret G (bI_nar x18.1) hP hD hS dX0_readHead_148
set_option maxHeartbeats 4000000 in
set_option maxRecDepth 100000 in
theorem kk_readHead_t0e {p : Program} {l : Launch} {e : Env} {s : State} {m : MethodId} {args : Array Value} {below : List Frame} {meth : Method} {c : Code} {D : va_G} {aK aV : Nat → Nat} {A : Nat → Prop} {cB cI cJ : ClassId} {q : Nat → Nat} {N : Nat} {H : Heap} {locs : List Loc} {ls : Array Slot} {ρ : Bool × KSt} {p0 : Int32} {σ : KSt} (G : CX p s m args meth c D (gTy cB cI cJ) aK aV A RX0 cX0_readHead 6 (some .boolean)) (hl : lv_has ls 6 [(0, .ref (q 0)), (1, .int p0)]) (hP : va_P D vwCl (kW cB N q σ) H) (hD : va_D A (kW cB N q σ)) (hS : va_S A s.heap H locs) (hf : kk_readHead N p0 σ = some ρ) : W p l e (rm_kk_readHead) s m args below meth c H locs 0 0 (MQ below (cQ D (gTy cB cI cJ) A (kW cB N q ρ.2) (some (.int (bI ρ.1)))) args s 0 0 A) (F0 m 0 ls []) := by
  unfold kk_readHead at hf
  obtain ⟨hx, hb, hml, hown, hT, hrt, hlk, hK, hA, hG, hE⟩ := id G
  refine lv_aload_n hx hb dX0_readHead_0 rfl (lv_at hl 0 rfl) ?_
  refine gk_X0_tape G hP dX0_readHead_1 ?_
  refine lv_aload_n hx hb dX0_readHead_4 rfl (lv_at hl 0 rfl) ?_
  refine gk_X0_place (v := (kf_place σ)) G hP dX0_readHead_5 rfl ?_
  obtain ⟨x1, hx1, hf⟩ := bd_some hf
  refine vK_tape (As := [.int (kf_place σ)]) (rest := []) (τ := x1.2) G kX0_75 rfl (c_rr_at hx1) hP hD hS ⟨rfl, rfl, Nat.le_of_ble_eq_true rfl, Nat.le_of_ble_eq_true rfl⟩ ⟨Nat.zero_le _, Nat.zero_le _⟩ rfl hl.1 (Nat.le_of_ble_eq_true rfl) dX0_readHead_8 (fun H locs hP hD hS => ?_)
  refine W.eq (g2 := F0 m 11 ls [.int x1.1]) rfl ?_
  refine lv_istore_n (lv' := [(2, .int x1.1), (0, .ref (q 0)), (1, .int p0)]) hx hb dX0_readHead_11 rfl hl (by decide) rfl (fun ls hl => ?_)
  refine lv_iload_n hx hb dX0_readHead_12 rfl (lv_at hl 0 rfl) ?_
  refine lv_iconst (v := (-1 : Int32)) hx hb dX0_readHead_13 (by decide) ?_
  refine lv_icmp_ne (tgt := 30) hx hb dX0_readHead_14 (by decide) (fun c2 => ?_) (fun c2 => ?_)
  · have hf := (if_neg c2).symm.trans hf
    refine lv_aload_n hx hb dX0_readHead_30 rfl (lv_at hl 1 rfl) ?_
    refine lv_iload_n hx hb dX0_readHead_31 rfl (lv_at hl 0 rfl) ?_
    refine lv_iconst (v := (5 : Int32)) hx hb dX0_readHead_32 (by decide) ?_
    refine lv_ishr hx hb dX0_readHead_33 ?_
    refine pk_X0_type (v := (x1.1 >>> ((5 : Int32) &&& 31))) G hP hD hS dX0_readHead_34 (fun H locs hP hD hS => ?_)
    refine lv_iload_n hx hb dX0_readHead_37 rfl (lv_at hl 0 rfl) ?_
    refine lv_bipush (v := (31 : Int32)) hx hb dX0_readHead_38 (by decide) ?_
    refine lv_iand hx hb dX0_readHead_40 ?_
    refine lv_topi (fun v3 ev3 => ?_)
    have hf := lt_eq hf ev3
    refine lv_istore_n (lv' := [(3, .int v3), (2, .int x1.1), (0, .ref (q 0)), (1, .int p0)]) hx hb dX0_readHead_41 rfl hl (by decide) rfl (fun ls hl => ?_)
    refine lv_aload_n hx hb dX0_readHead_42 rfl (lv_at hl 2 rfl) ?_
    refine lv_iload_n hx hb dX0_readHead_43 rfl (lv_at hl 0 rfl) ?_
    refine lv_iload_n hx hb dX0_readHead_44 rfl (lv_at hl 3 rfl) ?_
    obtain ⟨x4, hx4, hf⟩ := bd_some hf
    refine vK (As := [.int v3, .int p0]) (rest := []) G kX0_79 (c_kk_faultOfFirst hx4) hP hD hS ⟨rfl, rfl, Nat.le_of_ble_eq_true rfl, Nat.le_of_ble_eq_true rfl⟩ ⟨Nat.zero_le _, Nat.zero_le _⟩ rfl hl.1 (Nat.le_of_ble_eq_true rfl) dX0_readHead_45 (fun H locs hP hD hS => ?_)
    refine W.eq (g2 := F0 m 48 ls [.int x4.1]) rfl ?_
    refine lv_istore (lv' := [(4, .int x4.1), (3, .int v3), (2, .int x1.1), (0, .ref (q 0)), (1, .int p0)]) hx hb dX0_readHead_48 hl (by decide) rfl (fun ls hl => ?_)
    refine lv_iload hx hb dX0_readHead_50 (lv_at hl 0 rfl) ?_
    refine lv_if_eq (tgt := 66) hx hb dX0_readHead_52 (by decide) (fun c5 => ?_) (fun c5 => ?_)
    · have hf := (if_pos c5).symm.trans hf
      refine lv_iload_n hx hb dX0_readHead_66 rfl (lv_at hl 1 rfl) ?_
      refine ct_sn0 (As := [.int v3]) (rest := []) G kX0_83 (c_eX4_bytesBehind v3) hP hD hS ⟨rfl, rfl, Nat.le_of_ble_eq_true rfl, Nat.le_of_ble_eq_true rfl⟩ ⟨Nat.zero_le _, Nat.zero_le _⟩ rfl hl.1 (Nat.le_of_ble_eq_true rfl) dX0_readHead_67 (fun H locs hP hS => ?_)
      refine W.eq (g2 := F0 m 70 ls [.int (eX4_bytesBehind v3)]) rfl ?_
      refine lv_topi (fun v6 ev6 => ?_)
      have hf := lt_eq hf ev6
      refine lv_istore (lv' := [(5, .int v6), (4, .int x4.1), (3, .int v3), (2, .int x1.1), (0, .ref (q 0)), (1, .int p0)]) hx hb dX0_readHead_70 hl (by decide) rfl (fun ls hl => ?_)
      refine lv_iload hx hb dX0_readHead_72 (lv_at hl 0 rfl) ?_
      refine lv_aload_n hx hb dX0_readHead_74 rfl (lv_at hl 4 rfl) ?_
      refine gk_X0_tape G hP dX0_readHead_75 ?_
      obtain ⟨x7, hx7, hf⟩ := bd_some hf
      refine vK_tape (As := []) (rest := [.int v6]) (τ := x7.2) G kX0_26 rfl (c_rr_size hx7) hP hD hS ⟨rfl, rfl, Nat.le_of_ble_eq_true rfl, Nat.le_of_ble_eq_true rfl⟩ ⟨Nat.zero_le _, Nat.zero_le _⟩ rfl hl.1 (Nat.le_of_ble_eq_true rfl) dX0_readHead_78 (fun H locs hP hD hS => ?_)
      refine W.eq (g2 := F0 m 81 ls [.int x7.1, .int v6]) rfl ?_
      refine lv_aload_n hx hb dX0_readHead_81 rfl (lv_at hl 4 rfl) ?_
      refine gk_X0_place (v := (kf_place x4.2)) G hP dX0_readHead_82 (kG_place_tape _ _) ?_
      refine lv_isub hx hb dX0_readHead_85 ?_
      refine lv_icmp_lt (tgt := 102) hx hb dX0_readHead_86 (by decide) (fun c8 => ?_) (fun c8 => ?_)
      · have hf := (if_pos c8).symm.trans hf
        refine lv_aload_n hx hb dX0_readHead_102 rfl (lv_at hl 4 rfl) ?_
        refine lv_iload hx hb dX0_readHead_103 (lv_at hl 0 rfl) ?_
        refine lv_if_ne (tgt := 113) hx hb dX0_readHead_105 (by decide) (fun c9 => ?_) (fun c9 => ?_)
        · have hf := (if_neg c9).symm.trans hf
          refine lv_aload_n hx hb dX0_readHead_113 rfl (lv_at hl 4 rfl) ?_
          refine lv_iload hx hb dX0_readHead_114 (lv_at hl 0 rfl) ?_
          obtain ⟨x10, hx10, hf⟩ := bd_some hf
          refine vK (As := [.int v6]) (rest := [.ref (q 0)]) G kX0_86 (c_kk_numberBehind hx10) hP hD hS ⟨rfl, rfl, Nat.le_of_ble_eq_true rfl, Nat.le_of_ble_eq_true rfl⟩ ⟨Nat.zero_le _, Nat.zero_le _⟩ rfl hl.1 (Nat.le_of_ble_eq_true rfl) dX0_readHead_116 (fun H locs hP hD hS => ?_)
          refine W.eq (g2 := F0 m 119 ls [.long x10.1, .ref (q 0)]) rfl ?_
          exact W.eq (g2 := F0 m 119 ls [.long x10.1, .ref (q 0)]) rfl (kk_readHead_t119 G (lv_sub hl [4, 2, 0] rfl) hP hD hS hf)
        · have hf := (if_pos c9).symm.trans hf
          refine lv_iload_n hx hb dX0_readHead_108 rfl (lv_at hl 2 rfl) ?_
          refine lv_i2l (v := (Int32.toInt64 v3)) hx hb dX0_readHead_109 rfl ?_
          refine lv_goto (tgt := 119) hx hb dX0_readHead_110 (by decide) ?_
          exact W.eq (g2 := F0 m 119 ls [.long (Int32.toInt64 v3), .ref (q 0)]) rfl (kk_readHead_t119 G (lv_sub hl [4, 2, 0] rfl) hP hD hS hf)
      · have hf := (if_neg c8).symm.trans hf
        refine lv_aload_n hx hb dX0_readHead_89 rfl (lv_at hl 4 rfl) ?_
        refine lv_iconst (v := (1 : Int32)) hx hb dX0_readHead_90 (by decide) ?_
        refine lv_aload_n hx hb dX0_readHead_91 rfl (lv_at hl 4 rfl) ?_
        refine gk_X0_tape G hP dX0_readHead_92 ?_
        obtain ⟨x11, hx11, hf⟩ := bd_some hf
        refine vK_tape (As := []) (rest := [.int (1 : Int32), .ref (q 0)]) (τ := x11.2) G kX0_26 (kG_tape_tape _ _) (c_rr_size hx11) hP hD hS ⟨rfl, rfl, Nat.le_of_ble_eq_true rfl, Nat.le_of_ble_eq_true rfl⟩ ⟨Nat.zero_le _, Nat.zero_le _⟩ rfl hl.1 (Nat.le_of_ble_eq_true rfl) dX0_readHead_95 (fun H locs hP hD hS => ?_)
        refine W.eq (g2 := F0 m 98 ls [.int x11.1, .int (1 : Int32), .ref (q 0)]) rfl ?_
        obtain ⟨x12, hx12, hf⟩ := bd_some hf
        refine uK (As := [.int (1 : Int32), .int x11.1]) (rest := []) G kX0_32 (c_kk_refuse hx12) hP hD hS ⟨rfl, rfl, Nat.le_of_ble_eq_true rfl, Nat.le_of_ble_eq_true rfl⟩ ⟨Nat.zero_le _, Nat.zero_le _⟩ rfl hl.1 (Nat.le_of_ble_eq_true rfl) dX0_readHead_98 (fun H locs hP hD hS => ?_)
        refine W.eq (g2 := F0 m 101 ls [.int (bI x12.1)]) rfl ?_
        cases hf
        exact ct_iret G (bI_nar x12.1) hP hD hS dX0_readHead_101
    · have hf := (if_neg c5).symm.trans hf
      refine lv_aload_n hx hb dX0_readHead_55 rfl (lv_at hl 3 rfl) ?_
      refine lv_iload hx hb dX0_readHead_56 (lv_at hl 0 rfl) ?_
      refine lv_aload_n hx hb dX0_readHead_58 rfl (lv_at hl 3 rfl) ?_
      refine gk_X0_place (v := (kf_place x4.2)) G hP dX0_readHead_59 rfl ?_
      obtain ⟨x13, hx13, hf⟩ := bd_some hf
      refine uK (As := [.int x4.1, .int (kf_place x4.2)]) (rest := []) G kX0_32 (c_kk_refuse hx13) hP hD hS ⟨rfl, rfl, Nat.le_of_ble_eq_true rfl, Nat.le_of_ble_eq_true rfl⟩ ⟨Nat.zero_le _, Nat.zero_le _⟩ rfl hl.1 (Nat.le_of_ble_eq_true rfl) dX0_readHead_62 (fun H locs hP hD hS => ?_)
      refine W.eq (g2 := F0 m 65 ls [.int (bI x13.1)]) rfl ?_
      cases hf
      exact ct_iret G (bI_nar x13.1) hP hD hS dX0_readHead_65
  · have hf := (if_pos c2).symm.trans hf
    refine lv_aload_n hx hb dX0_readHead_17 rfl (lv_at hl 1 rfl) ?_
    refine lv_iconst (v := (1 : Int32)) hx hb dX0_readHead_18 (by decide) ?_
    refine lv_aload_n hx hb dX0_readHead_19 rfl (lv_at hl 1 rfl) ?_
    refine gk_X0_tape G hP dX0_readHead_20 ?_
    obtain ⟨x14, hx14, hf⟩ := bd_some hf
    refine vK_tape (As := []) (rest := [.int (1 : Int32), .ref (q 0)]) (τ := x14.2) G kX0_26 (kG_tape_tape _ _) (c_rr_size hx14) hP hD hS ⟨rfl, rfl, Nat.le_of_ble_eq_true rfl, Nat.le_of_ble_eq_true rfl⟩ ⟨Nat.zero_le _, Nat.zero_le _⟩ rfl hl.1 (Nat.le_of_ble_eq_true rfl) dX0_readHead_23 (fun H locs hP hD hS => ?_)
    refine W.eq (g2 := F0 m 26 ls [.int x14.1, .int (1 : Int32), .ref (q 0)]) rfl ?_
    obtain ⟨x15, hx15, hf⟩ := bd_some hf
    refine uK (As := [.int (1 : Int32), .int x14.1]) (rest := []) G kX0_32 (c_kk_refuse hx15) hP hD hS ⟨rfl, rfl, Nat.le_of_ble_eq_true rfl, Nat.le_of_ble_eq_true rfl⟩ ⟨Nat.zero_le _, Nat.zero_le _⟩ rfl hl.1 (Nat.le_of_ble_eq_true rfl) dX0_readHead_26 (fun H locs hP hD hS => ?_)
    refine W.eq (g2 := F0 m 29 ls [.int (bI x15.1)]) rfl ?_
    cases hf
    exact ct_iret G (bI_nar x15.1) hP hD hS dX0_readHead_29
set_option maxHeartbeats 4000000 in
set_option maxRecDepth 100000 in
theorem c_kk_readHead {l : Launch} {D : va_G} {aK aV : Nat → Nat} {cB cI cJ : ClassId} {q : Nat → Nat} {N : Nat} {ρ : Bool × KSt} {p0 : Int32} {σ : KSt} (hf : kk_readHead N p0 σ = some ρ) : CT l D (gTy cB cI cJ) aK aV yX0_readHead (wM yX0_readHead cX0_readHead 6 (some .boolean)) (rm_kk_readHead) 0 0 [.ref (q 0), .int p0] (kW cB N q σ) (some (.int (bI ρ.1))) (kW cB N q ρ.2) := by
  refine CT.of (by decide) rfl ?_
  intro p e s m below meth c A G hnm hP hD hS
  have hl := lv_entry [.ref (q 0), .int p0] (n := 6) (Nat.le_of_ble_eq_true rfl)
  rw [lg_entry_eq]
  generalize (lg_sl [.ref (q 0), .int p0] ++ List.replicate (6 - (lg_sl [.ref (q 0), .int p0]).length) Slot.unset).toArray = ls at hl ⊢
  exact kk_readHead_t0e G hl hP hD hS hf
def kk_putShortSign (N : Nat) (p0 : Int32) (σ : KSt) : Option (KSt) := lt (eX0_letterOf p0) (fun (v1 : Int32) => (if v1 = (-1 : Int32) then (if (32 : Int32) ≤ p0 then bd (rr_put N p0 (kf_target σ)) (fun (x4 : RSt) => some (ks_target σ x4)) else bd (rr_put N (92 : Int32) (kf_target σ)) (fun (x5 : RSt) => bd (rr_put N (117 : Int32) x5) (fun (x6 : RSt) => bd (rr_put N (48 : Int32) x6) (fun (x7 : RSt) => bd (rr_put N (48 : Int32) x7) (fun (x8 : RSt) => ck ((p0 >>> ((4 : Int32) &&& 31)) &&& (15 : Int32)) (sLn 3) (bd (rr_put N (sCh 3 ((p0 >>> ((4 : Int32) &&& 31)) &&& (15 : Int32))) x8) (fun (x10 : RSt) => ck (p0 &&& (15 : Int32)) (sLn 3) (bd (rr_put N (sCh 3 (p0 &&& (15 : Int32))) x10) (fun (x12 : RSt) => some (ks_target (ks_target (ks_target (ks_target (ks_target (ks_target σ x5) x6) x7) x8) x10) x12)))))))))) else bd (rr_put N (92 : Int32) (kf_target σ)) (fun (x13 : RSt) => bd (rr_put N v1 x13) (fun (x14 : RSt) => some (ks_target (ks_target σ x13) x14)))))
abbrev rm_kk_putShortSign : Room := { frames := 4, cells := 0, slots := 0, locals := 85 }
set_option maxHeartbeats 4000000 in
set_option maxRecDepth 100000 in
theorem kk_putShortSign_t0e {p : Program} {l : Launch} {e : Env} {s : State} {m : MethodId} {args : Array Value} {below : List Frame} {meth : Method} {c : Code} {D : va_G} {aK aV : Nat → Nat} {A : Nat → Prop} {cB cI cJ : ClassId} {q : Nat → Nat} {N : Nat} {H : Heap} {locs : List Loc} {ls : Array Slot} {ρ : KSt} {p0 : Int32} {σ : KSt} (G : CX p s m args meth c D (gTy cB cI cJ) aK aV A RX0 cX0_putShortSign 3 none) (hl : lv_has ls 3 [(0, .ref (q 0)), (1, .int p0)]) (hP : va_P D vwCl (kW cB N q σ) H) (hD : va_D A (kW cB N q σ)) (hS : va_S A s.heap H locs) (hf : kk_putShortSign N p0 σ = some ρ) : W p l e (rm_kk_putShortSign) s m args below meth c H locs 0 0 (MQ below (cQ D (gTy cB cI cJ) A (kW cB N q ρ) none) args s 0 0 A) (F0 m 0 ls []) := by
  unfold kk_putShortSign at hf
  obtain ⟨hx, hb, hml, hown, hT, hrt, hlk, hK, hA, hG, hE⟩ := id G
  refine lv_iload_n hx hb dX0_putShortSign_0 rfl (lv_at hl 1 rfl) ?_
  refine ct_s0 (As := [.int p0]) (rest := []) G kX0_118 (c_eX0_letterOf p0) hP hD hS ⟨rfl, rfl, Nat.le_of_ble_eq_true rfl, Nat.le_of_ble_eq_true rfl⟩ ⟨Nat.zero_le _, Nat.zero_le _⟩ rfl hl.1 (Nat.le_of_ble_eq_true rfl) dX0_putShortSign_1 (fun H locs hP hS => ?_)
  refine W.eq (g2 := F0 m 4 ls [.int (eX0_letterOf p0)]) rfl ?_
  refine lv_topi (fun v1 ev1 => ?_)
  have hf := lt_eq hf ev1
  refine lv_istore_n (lv' := [(2, .int v1), (0, .ref (q 0)), (1, .int p0)]) hx hb dX0_putShortSign_4 rfl hl (by decide) rfl (fun ls hl => ?_)
  refine lv_iload_n hx hb dX0_putShortSign_5 rfl (lv_at hl 0 rfl) ?_
  refine lv_iconst (v := (-1 : Int32)) hx hb dX0_putShortSign_6 (by decide) ?_
  refine lv_icmp_eq (tgt := 30) hx hb dX0_putShortSign_7 (by decide) (fun c2 => ?_) (fun c2 => ?_)
  · have hf := (if_pos c2).symm.trans hf
    refine lv_iload_n hx hb dX0_putShortSign_30 rfl (lv_at hl 2 rfl) ?_
    refine lv_bipush (v := (32 : Int32)) hx hb dX0_putShortSign_31 (by decide) ?_
    refine lv_icmp_ge (tgt := 109) hx hb dX0_putShortSign_33 (by decide) (fun c3 => ?_) (fun c3 => ?_)
    · have hf := (if_pos c3).symm.trans hf
      refine lv_aload_n hx hb dX0_putShortSign_109 rfl (lv_at hl 1 rfl) ?_
      refine gk_X0_target G hP dX0_putShortSign_110 ?_
      refine lv_iload_n hx hb dX0_putShortSign_113 rfl (lv_at hl 2 rfl) ?_
      obtain ⟨x4, hx4, hf⟩ := bd_some hf
      refine vK_target (As := [.int p0]) (rest := []) (τ := x4) G kX0_98 rfl (c_rr_put hx4) hP hD hS ⟨rfl, rfl, Nat.le_of_ble_eq_true rfl, Nat.le_of_ble_eq_true rfl⟩ ⟨Nat.zero_le _, Nat.zero_le _⟩ rfl hl.1 (Nat.le_of_ble_eq_true rfl) dX0_putShortSign_114 (fun H locs hP hD hS => ?_)
      refine W.eq (g2 := F0 m 117 ls []) rfl ?_
      cases hf
      exact ct_vret G hP hD hS dX0_putShortSign_117
    · have hf := (if_neg c3).symm.trans hf
      refine lv_aload_n hx hb dX0_putShortSign_36 rfl (lv_at hl 1 rfl) ?_
      refine gk_X0_target G hP dX0_putShortSign_37 ?_
      refine lv_bipush (v := (92 : Int32)) hx hb dX0_putShortSign_40 (by decide) ?_
      obtain ⟨x5, hx5, hf⟩ := bd_some hf
      refine vK_target (As := [.int (92 : Int32)]) (rest := []) (τ := x5) G kX0_98 rfl (c_rr_put hx5) hP hD hS ⟨rfl, rfl, Nat.le_of_ble_eq_true rfl, Nat.le_of_ble_eq_true rfl⟩ ⟨Nat.zero_le _, Nat.zero_le _⟩ rfl hl.1 (Nat.le_of_ble_eq_true rfl) dX0_putShortSign_42 (fun H locs hP hD hS => ?_)
      refine W.eq (g2 := F0 m 45 ls []) rfl ?_
      refine lv_aload_n hx hb dX0_putShortSign_45 rfl (lv_at hl 1 rfl) ?_
      refine gk_X0_target G hP dX0_putShortSign_46 ?_
      refine lv_bipush (v := (117 : Int32)) hx hb dX0_putShortSign_49 (by decide) ?_
      obtain ⟨x6, hx6, hf⟩ := bd_some hf
      refine vK_target (As := [.int (117 : Int32)]) (rest := []) (τ := x6) G kX0_98 (kG_target_target _ _) (c_rr_put hx6) hP hD hS ⟨rfl, rfl, Nat.le_of_ble_eq_true rfl, Nat.le_of_ble_eq_true rfl⟩ ⟨Nat.zero_le _, Nat.zero_le _⟩ rfl hl.1 (Nat.le_of_ble_eq_true rfl) dX0_putShortSign_51 (fun H locs hP hD hS => ?_)
      refine W.eq (g2 := F0 m 54 ls []) rfl ?_
      refine lv_aload_n hx hb dX0_putShortSign_54 rfl (lv_at hl 1 rfl) ?_
      refine gk_X0_target G hP dX0_putShortSign_55 ?_
      refine lv_bipush (v := (48 : Int32)) hx hb dX0_putShortSign_58 (by decide) ?_
      obtain ⟨x7, hx7, hf⟩ := bd_some hf
      refine vK_target (As := [.int (48 : Int32)]) (rest := []) (τ := x7) G kX0_98 (kG_target_target _ _) (c_rr_put hx7) hP hD hS ⟨rfl, rfl, Nat.le_of_ble_eq_true rfl, Nat.le_of_ble_eq_true rfl⟩ ⟨Nat.zero_le _, Nat.zero_le _⟩ rfl hl.1 (Nat.le_of_ble_eq_true rfl) dX0_putShortSign_60 (fun H locs hP hD hS => ?_)
      refine W.eq (g2 := F0 m 63 ls []) rfl ?_
      refine lv_aload_n hx hb dX0_putShortSign_63 rfl (lv_at hl 1 rfl) ?_
      refine gk_X0_target G hP dX0_putShortSign_64 ?_
      refine lv_bipush (v := (48 : Int32)) hx hb dX0_putShortSign_67 (by decide) ?_
      obtain ⟨x8, hx8, hf⟩ := bd_some hf
      refine vK_target (As := [.int (48 : Int32)]) (rest := []) (τ := x8) G kX0_98 (kG_target_target _ _) (c_rr_put hx8) hP hD hS ⟨rfl, rfl, Nat.le_of_ble_eq_true rfl, Nat.le_of_ble_eq_true rfl⟩ ⟨Nat.zero_le _, Nat.zero_le _⟩ rfl hl.1 (Nat.le_of_ble_eq_true rfl) dX0_putShortSign_69 (fun H locs hP hD hS => ?_)
      refine W.eq (g2 := F0 m 72 ls []) rfl ?_
      refine lv_aload_n hx hb dX0_putShortSign_72 rfl (lv_at hl 1 rfl) ?_
      refine gk_X0_target G hP dX0_putShortSign_73 ?_
      refine va_ldcS hx hb hown (hG.1 _ (List.mem_of_getElem? (i := 3) rfl)) dX0_putShortSign_76 ?_
      refine lv_iload_n hx hb dX0_putShortSign_78 rfl (lv_at hl 2 rfl) ?_
      refine lv_iconst (v := (4 : Int32)) hx hb dX0_putShortSign_79 (by decide) ?_
      refine lv_ishr hx hb dX0_putShortSign_80 ?_
      refine lv_bipush (v := (15 : Int32)) hx hb dX0_putShortSign_81 (by decide) ?_
      refine lv_iand hx hb dX0_putShortSign_83 ?_
      obtain ⟨hi9, hf⟩ := ck_some hf
      refine ct_cha (rest := [.ref (q 3)]) G kX0_123 (by decide) hi9 hP hD hS ⟨Nat.le_of_ble_eq_true rfl, Nat.le_of_ble_eq_true rfl⟩ ⟨Nat.zero_le _, Nat.zero_le _⟩ hl.1 (Nat.le_of_ble_eq_true rfl) dX0_putShortSign_84 (fun H locs hP hS => ?_)
      refine W.eq (g2 := F0 m 87 ls [.int (sCh 3 ((p0 >>> ((4 : Int32) &&& 31)) &&& (15 : Int32))), .ref (q 3)]) rfl ?_
      obtain ⟨x10, hx10, hf⟩ := bd_some hf
      refine vK_target (As := [.int (sCh 3 ((p0 >>> ((4 : Int32) &&& 31)) &&& (15 : Int32)))]) (rest := []) (τ := x10) G kX0_98 (kG_target_target _ _) (c_rr_put hx10) hP hD hS ⟨rfl, rfl, Nat.le_of_ble_eq_true rfl, Nat.le_of_ble_eq_true rfl⟩ ⟨Nat.zero_le _, Nat.zero_le _⟩ rfl hl.1 (Nat.le_of_ble_eq_true rfl) dX0_putShortSign_87 (fun H locs hP hD hS => ?_)
      refine W.eq (g2 := F0 m 90 ls []) rfl ?_
      refine lv_aload_n hx hb dX0_putShortSign_90 rfl (lv_at hl 1 rfl) ?_
      refine gk_X0_target G hP dX0_putShortSign_91 ?_
      refine va_ldcS hx hb hown (hG.1 _ (List.mem_of_getElem? (i := 3) rfl)) dX0_putShortSign_94 ?_
      refine lv_iload_n hx hb dX0_putShortSign_96 rfl (lv_at hl 2 rfl) ?_
      refine lv_bipush (v := (15 : Int32)) hx hb dX0_putShortSign_97 (by decide) ?_
      refine lv_iand hx hb dX0_putShortSign_99 ?_
      obtain ⟨hi11, hf⟩ := ck_some hf
      refine ct_cha (rest := [.ref (q 3)]) G kX0_123 (by decide) hi11 hP hD hS ⟨Nat.le_of_ble_eq_true rfl, Nat.le_of_ble_eq_true rfl⟩ ⟨Nat.zero_le _, Nat.zero_le _⟩ hl.1 (Nat.le_of_ble_eq_true rfl) dX0_putShortSign_100 (fun H locs hP hS => ?_)
      refine W.eq (g2 := F0 m 103 ls [.int (sCh 3 (p0 &&& (15 : Int32))), .ref (q 3)]) rfl ?_
      obtain ⟨x12, hx12, hf⟩ := bd_some hf
      refine vK_target (As := [.int (sCh 3 (p0 &&& (15 : Int32)))]) (rest := []) (τ := x12) G kX0_98 (kG_target_target _ _) (c_rr_put hx12) hP hD hS ⟨rfl, rfl, Nat.le_of_ble_eq_true rfl, Nat.le_of_ble_eq_true rfl⟩ ⟨Nat.zero_le _, Nat.zero_le _⟩ rfl hl.1 (Nat.le_of_ble_eq_true rfl) dX0_putShortSign_103 (fun H locs hP hD hS => ?_)
      refine W.eq (g2 := F0 m 106 ls []) rfl ?_
      refine lv_goto (tgt := 117) hx hb dX0_putShortSign_106 (by decide) ?_
      cases hf
      exact ct_vret G hP hD hS dX0_putShortSign_117
  · have hf := (if_neg c2).symm.trans hf
    refine lv_aload_n hx hb dX0_putShortSign_10 rfl (lv_at hl 1 rfl) ?_
    refine gk_X0_target G hP dX0_putShortSign_11 ?_
    refine lv_bipush (v := (92 : Int32)) hx hb dX0_putShortSign_14 (by decide) ?_
    obtain ⟨x13, hx13, hf⟩ := bd_some hf
    refine vK_target (As := [.int (92 : Int32)]) (rest := []) (τ := x13) G kX0_98 rfl (c_rr_put hx13) hP hD hS ⟨rfl, rfl, Nat.le_of_ble_eq_true rfl, Nat.le_of_ble_eq_true rfl⟩ ⟨Nat.zero_le _, Nat.zero_le _⟩ rfl hl.1 (Nat.le_of_ble_eq_true rfl) dX0_putShortSign_16 (fun H locs hP hD hS => ?_)
    refine W.eq (g2 := F0 m 19 ls []) rfl ?_
    refine lv_aload_n hx hb dX0_putShortSign_19 rfl (lv_at hl 1 rfl) ?_
    refine gk_X0_target G hP dX0_putShortSign_20 ?_
    refine lv_iload_n hx hb dX0_putShortSign_23 rfl (lv_at hl 0 rfl) ?_
    obtain ⟨x14, hx14, hf⟩ := bd_some hf
    refine vK_target (As := [.int v1]) (rest := []) (τ := x14) G kX0_98 (kG_target_target _ _) (c_rr_put hx14) hP hD hS ⟨rfl, rfl, Nat.le_of_ble_eq_true rfl, Nat.le_of_ble_eq_true rfl⟩ ⟨Nat.zero_le _, Nat.zero_le _⟩ rfl hl.1 (Nat.le_of_ble_eq_true rfl) dX0_putShortSign_24 (fun H locs hP hD hS => ?_)
    refine W.eq (g2 := F0 m 27 ls []) rfl ?_
    refine lv_goto (tgt := 117) hx hb dX0_putShortSign_27 (by decide) ?_
    cases hf
    exact ct_vret G hP hD hS dX0_putShortSign_117
set_option maxHeartbeats 4000000 in
set_option maxRecDepth 100000 in
theorem c_kk_putShortSign {l : Launch} {D : va_G} {aK aV : Nat → Nat} {cB cI cJ : ClassId} {q : Nat → Nat} {N : Nat} {ρ : KSt} {p0 : Int32} {σ : KSt} (hf : kk_putShortSign N p0 σ = some ρ) : CT l D (gTy cB cI cJ) aK aV yX0_putShortSign (wM yX0_putShortSign cX0_putShortSign 3 none) (rm_kk_putShortSign) 0 0 [.ref (q 0), .int p0] (kW cB N q σ) none (kW cB N q ρ) := by
  refine CT.of (by decide) rfl ?_
  intro p e s m below meth c A G hnm hP hD hS
  have hl := lv_entry [.ref (q 0), .int p0] (n := 3) (Nat.le_of_ble_eq_true rfl)
  rw [lg_entry_eq]
  generalize (lg_sl [.ref (q 0), .int p0] ++ List.replicate (3 - (lg_sl [.ref (q 0), .int p0]).length) Slot.unset).toArray = ls at hl ⊢
  exact kk_putShortSign_t0e G hl hP hD hS hf
def kk_putSign_b56 (N : Nat) (a1 : Int32) (σ : KSt) : Option (KSt) := some (ks_place σ ((kf_place σ) + a1))
def kk_putSign_b25 (N : Nat) (k25 : Int32 → Int32 → KSt → Option (KSt)) (a1 : Int32) (a2 : Int32) (σ : KSt) : Option (KSt) := (if a1 ≤ a2 then kk_putSign_b56 N a1 σ else bd (rr_at 4000 ((kf_place σ) + a2) (kf_tape σ)) (fun (x5 : Int32 × RSt) => bd (rr_put N x5.1 (kf_target σ)) (fun (x6 : RSt) => lt (a2 + (1 : Int32)) (fun (v7 : Int32) => k25 a1 v7 (ks_target (ks_tape σ x5.2) x6)))))
def kk_putSign_L25 (N : Nat) : Nat → Int32 → Int32 → KSt → Option (KSt)
  | 0, _, _, _ => none
  | n + 1, a1, a2, σ => kk_putSign_b25 N (kk_putSign_L25 N n) a1 a2 σ
def kk_putSign (N : Nat) (p0 : Int32) (σ : KSt) : Option (KSt) := (if p0 = (1 : Int32) then bd (rr_at 4000 (kf_place σ) (kf_tape σ)) (fun (x2 : Int32 × RSt) => bd (kk_putShortSign N x2.1 (ks_tape σ x2.2)) (fun (x3 : KSt) => kk_putSign_b56 N p0 x3)) else kk_putSign_L25 N FU p0 (0 : Int32) σ)
abbrev rm_kk_putSign : Room := { frames := 5, cells := 0, slots := 0, locals := 107 }
set_option maxHeartbeats 4000000 in
set_option maxRecDepth 100000 in
theorem kk_putSign_t56 {p : Program} {l : Launch} {e : Env} {s : State} {m : MethodId} {args : Array Value} {below : List Frame} {meth : Method} {c : Code} {D : va_G} {aK aV : Nat → Nat} {A : Nat → Prop} {cB cI cJ : ClassId} {q : Nat → Nat} {N : Nat} {H : Heap} {locs : List Loc} {ls : Array Slot} {ρ : KSt} {a1 : Int32} {σ : KSt} (G : CX p s m args meth c D (gTy cB cI cJ) aK aV A RX0 cX0_putSign 3 none) (hl : lv_has ls 3 [(0, .ref (q 0)), (1, .int a1)]) (hP : va_P D vwCl (kW cB N q σ) H) (hD : va_D A (kW cB N q σ)) (hS : va_S A s.heap H locs) (hf : kk_putSign_b56 N a1 σ = some ρ) : W p l e (rm_kk_putSign) s m args below meth c H locs 0 0 (MQ below (cQ D (gTy cB cI cJ) A (kW cB N q ρ) none) args s 0 0 A) (F0 m 56 ls []) := by
  unfold kk_putSign_b56 at hf
  obtain ⟨hx, hb, hml, hown, hT, hrt, hlk, hK, hA, hG, hE⟩ := id G
  refine lv_aload_n hx hb dX0_putSign_56 rfl (lv_at hl 0 rfl) ?_
  refine lv_dup hx hb dX0_putSign_57 rfl ?_
  refine gk_X0_place (v := (kf_place σ)) G hP dX0_putSign_58 rfl ?_
  refine lv_iload_n hx hb dX0_putSign_61 rfl (lv_at hl 1 rfl) ?_
  refine lv_iadd hx hb dX0_putSign_62 ?_
  refine pk_X0_place (v := ((kf_place σ) + a1)) G hP hD hS dX0_putSign_63 (fun H locs hP hD hS => ?_)
  cases hf
  exact ct_vret G hP hD hS dX0_putSign_66
set_option maxHeartbeats 4000000 in
set_option maxRecDepth 100000 in
theorem kk_putSign_t25 {p : Program} {l : Launch} {e : Env} {s : State} {m : MethodId} {args : Array Value} {below : List Frame} {meth : Method} {c : Code} {D : va_G} {aK aV : Nat → Nat} {A : Nat → Prop} {cB cI cJ : ClassId} {q : Nat → Nat} {N : Nat} {H : Heap} {locs : List Loc} {ls : Array Slot} {ρ : KSt} {k25 : Int32 → Int32 → KSt → Option (KSt)} {a1 : Int32} {a2 : Int32} {σ : KSt} (G : CX p s m args meth c D (gTy cB cI cJ) aK aV A RX0 cX0_putSign 3 none) (hk25 : ∀ (a1 : Int32) (a2 : Int32) (σ : KSt) (H : Heap) (locs : List Loc) (ls : Array Slot), lv_has ls 3 [(0, .ref (q 0)), (1, .int a1), (2, .int a2)] → va_P D vwCl (kW cB N q σ) H → va_D A (kW cB N q σ) → va_S A s.heap H locs → k25 a1 a2 σ = some ρ → W p l e (rm_kk_putSign) s m args below meth c H locs 0 0 (MQ below (cQ D (gTy cB cI cJ) A (kW cB N q ρ) none) args s 0 0 A) (F0 m 25 ls [])) (hl : lv_has ls 3 [(0, .ref (q 0)), (1, .int a1), (2, .int a2)]) (hP : va_P D vwCl (kW cB N q σ) H) (hD : va_D A (kW cB N q σ)) (hS : va_S A s.heap H locs) (hf : kk_putSign_b25 N k25 a1 a2 σ = some ρ) : W p l e (rm_kk_putSign) s m args below meth c H locs 0 0 (MQ below (cQ D (gTy cB cI cJ) A (kW cB N q ρ) none) args s 0 0 A) (F0 m 25 ls []) := by
  unfold kk_putSign_b25 at hf
  obtain ⟨hx, hb, hml, hown, hT, hrt, hlk, hK, hA, hG, hE⟩ := id G
  refine lv_iload_n hx hb dX0_putSign_25 rfl (lv_at hl 2 rfl) ?_
  refine lv_iload_n hx hb dX0_putSign_26 rfl (lv_at hl 1 rfl) ?_
  refine lv_icmp_ge (tgt := 56) hx hb dX0_putSign_27 (by decide) (fun c4 => ?_) (fun c4 => ?_)
  · have hf := (if_pos c4).symm.trans hf
    exact W.eq (g2 := F0 m 56 ls []) rfl (kk_putSign_t56 G (lv_sub hl [0, 1] rfl) hP hD hS hf)
  · have hf := (if_neg c4).symm.trans hf
    refine lv_aload_n hx hb dX0_putSign_30 rfl (lv_at hl 0 rfl) ?_
    refine gk_X0_target G hP dX0_putSign_31 ?_
    refine lv_aload_n hx hb dX0_putSign_34 rfl (lv_at hl 0 rfl) ?_
    refine gk_X0_tape G hP dX0_putSign_35 ?_
    refine lv_aload_n hx hb dX0_putSign_38 rfl (lv_at hl 0 rfl) ?_
    refine gk_X0_place (v := (kf_place σ)) G hP dX0_putSign_39 rfl ?_
    refine lv_iload_n hx hb dX0_putSign_42 rfl (lv_at hl 2 rfl) ?_
    refine lv_iadd hx hb dX0_putSign_43 ?_
    obtain ⟨x5, hx5, hf⟩ := bd_some hf
    refine vK_tape (As := [.int ((kf_place σ) + a2)]) (rest := [.ref (q 3)]) (τ := x5.2) G kX0_75 rfl (c_rr_at hx5) hP hD hS ⟨rfl, rfl, Nat.le_of_ble_eq_true rfl, Nat.le_of_ble_eq_true rfl⟩ ⟨Nat.zero_le _, Nat.zero_le _⟩ rfl hl.1 (Nat.le_of_ble_eq_true rfl) dX0_putSign_44 (fun H locs hP hD hS => ?_)
    refine W.eq (g2 := F0 m 47 ls [.int x5.1, .ref (q 3)]) rfl ?_
    obtain ⟨x6, hx6, hf⟩ := bd_some hf
    refine vK_target (As := [.int x5.1]) (rest := []) (τ := x6) G kX0_98 (kG_target_tape _ _) (c_rr_put hx6) hP hD hS ⟨rfl, rfl, Nat.le_of_ble_eq_true rfl, Nat.le_of_ble_eq_true rfl⟩ ⟨Nat.zero_le _, Nat.zero_le _⟩ rfl hl.1 (Nat.le_of_ble_eq_true rfl) dX0_putSign_47 (fun H locs hP hD hS => ?_)
    refine W.eq (g2 := F0 m 50 ls []) rfl ?_
    obtain ⟨v7, ev7⟩ : ∃ y : Int32, y = (a2 + (1 : Int32)) := ⟨_, rfl⟩
    have hf := lt_eq hf ev7
    refine lv_iinc (v := v7) (lv' := [(2, .int v7), (0, .ref (q 0)), (1, .int a1)]) hx hb dX0_putSign_50 hl (k := 2) rfl (by rw [ev7]; rfl) (by decide) rfl (fun ls hl => ?_)
    refine lv_goto (tgt := 25) hx hb dX0_putSign_53 (by decide) ?_
    exact W.eq (g2 := F0 m 25 ls []) rfl (hk25 _ _ _ _ _ _ (lv_sub hl [1, 2, 0] rfl) hP hD hS hf)
set_option maxHeartbeats 4000000 in
set_option maxRecDepth 100000 in
theorem kk_putSign_u25 {p : Program} {l : Launch} {e : Env} {s : State} {m : MethodId} {args : Array Value} {below : List Frame} {meth : Method} {c : Code} {D : va_G} {aK aV : Nat → Nat} {A : Nat → Prop} {cB cI cJ : ClassId} {q : Nat → Nat} {N : Nat} {ρ : KSt} (G : CX p s m args meth c D (gTy cB cI cJ) aK aV A RX0 cX0_putSign 3 none) : ∀ (n : Nat) {a1 : Int32} {a2 : Int32} {σ : KSt} {H : Heap} {locs : List Loc} {ls : Array Slot} (hl : lv_has ls 3 [(0, .ref (q 0)), (1, .int a1), (2, .int a2)]) (hP : va_P D vwCl (kW cB N q σ) H) (hD : va_D A (kW cB N q σ)) (hS : va_S A s.heap H locs) (hf : kk_putSign_L25 N n a1 a2 σ = some ρ), W p l e (rm_kk_putSign) s m args below meth c H locs 0 0 (MQ below (cQ D (gTy cB cI cJ) A (kW cB N q ρ) none) args s 0 0 A) (F0 m 25 ls []) := by
  intro n
  induction n with
  | zero =>
    intros
    rename_i hf
    cases hf
  | succ n ih =>
    intro a1 a2 σ H locs ls hl hP hD hS hf
    exact kk_putSign_t25 G (fun _ _ _ H locs ls hl hP hD hS hf => ih hl hP hD hS hf) hl hP hD hS hf
set_option maxHeartbeats 4000000 in
set_option maxRecDepth 100000 in
theorem kk_putSign_t0e {p : Program} {l : Launch} {e : Env} {s : State} {m : MethodId} {args : Array Value} {below : List Frame} {meth : Method} {c : Code} {D : va_G} {aK aV : Nat → Nat} {A : Nat → Prop} {cB cI cJ : ClassId} {q : Nat → Nat} {N : Nat} {H : Heap} {locs : List Loc} {ls : Array Slot} {ρ : KSt} {p0 : Int32} {σ : KSt} (G : CX p s m args meth c D (gTy cB cI cJ) aK aV A RX0 cX0_putSign 3 none) (hl : lv_has ls 3 [(0, .ref (q 0)), (1, .int p0)]) (hP : va_P D vwCl (kW cB N q σ) H) (hD : va_D A (kW cB N q σ)) (hS : va_S A s.heap H locs) (hf : kk_putSign N p0 σ = some ρ) : W p l e (rm_kk_putSign) s m args below meth c H locs 0 0 (MQ below (cQ D (gTy cB cI cJ) A (kW cB N q ρ) none) args s 0 0 A) (F0 m 0 ls []) := by
  unfold kk_putSign at hf
  obtain ⟨hx, hb, hml, hown, hT, hrt, hlk, hK, hA, hG, hE⟩ := id G
  refine lv_iload_n hx hb dX0_putSign_0 rfl (lv_at hl 1 rfl) ?_
  refine lv_iconst (v := (1 : Int32)) hx hb dX0_putSign_1 (by decide) ?_
  refine lv_icmp_ne (tgt := 23) hx hb dX0_putSign_2 (by decide) (fun c1 => ?_) (fun c1 => ?_)
  · have hf := (if_neg c1).symm.trans hf
    refine lv_iconst (v := (0 : Int32)) hx hb dX0_putSign_23 (by decide) ?_
    refine lv_istore_n (lv' := [(2, .int (0 : Int32)), (0, .ref (q 0)), (1, .int p0)]) hx hb dX0_putSign_24 rfl hl (by decide) rfl (fun ls hl => ?_)
    exact W.eq (g2 := F0 m 25 ls []) rfl (kk_putSign_u25 G FU (lv_sub hl [1, 2, 0] rfl) hP hD hS hf)
  · have hf := (if_pos c1).symm.trans hf
    refine lv_aload_n hx hb dX0_putSign_5 rfl (lv_at hl 0 rfl) ?_
    refine lv_aload_n hx hb dX0_putSign_6 rfl (lv_at hl 0 rfl) ?_
    refine gk_X0_tape G hP dX0_putSign_7 ?_
    refine lv_aload_n hx hb dX0_putSign_10 rfl (lv_at hl 0 rfl) ?_
    refine gk_X0_place (v := (kf_place σ)) G hP dX0_putSign_11 rfl ?_
    obtain ⟨x2, hx2, hf⟩ := bd_some hf
    refine vK_tape (As := [.int (kf_place σ)]) (rest := [.ref (q 0)]) (τ := x2.2) G kX0_75 rfl (c_rr_at hx2) hP hD hS ⟨rfl, rfl, Nat.le_of_ble_eq_true rfl, Nat.le_of_ble_eq_true rfl⟩ ⟨Nat.zero_le _, Nat.zero_le _⟩ rfl hl.1 (Nat.le_of_ble_eq_true rfl) dX0_putSign_14 (fun H locs hP hD hS => ?_)
    refine W.eq (g2 := F0 m 17 ls [.int x2.1, .ref (q 0)]) rfl ?_
    obtain ⟨x3, hx3, hf⟩ := bd_some hf
    refine vK (As := [.int x2.1]) (rest := []) G kX0_115 (c_kk_putShortSign hx3) hP hD hS ⟨rfl, rfl, Nat.le_of_ble_eq_true rfl, Nat.le_of_ble_eq_true rfl⟩ ⟨Nat.zero_le _, Nat.zero_le _⟩ rfl hl.1 (Nat.le_of_ble_eq_true rfl) dX0_putSign_17 (fun H locs hP hD hS => ?_)
    refine W.eq (g2 := F0 m 20 ls []) rfl ?_
    refine lv_goto (tgt := 56) hx hb dX0_putSign_20 (by decide) ?_
    exact W.eq (g2 := F0 m 56 ls []) rfl (kk_putSign_t56 G (lv_sub hl [0, 1] rfl) hP hD hS hf)
set_option maxHeartbeats 4000000 in
set_option maxRecDepth 100000 in
theorem c_kk_putSign {l : Launch} {D : va_G} {aK aV : Nat → Nat} {cB cI cJ : ClassId} {q : Nat → Nat} {N : Nat} {ρ : KSt} {p0 : Int32} {σ : KSt} (hf : kk_putSign N p0 σ = some ρ) : CT l D (gTy cB cI cJ) aK aV yX0_putSign (wM yX0_putSign cX0_putSign 3 none) (rm_kk_putSign) 0 0 [.ref (q 0), .int p0] (kW cB N q σ) none (kW cB N q ρ) := by
  refine CT.of (by decide) rfl ?_
  intro p e s m below meth c A G hnm hP hD hS
  have hl := lv_entry [.ref (q 0), .int p0] (n := 3) (Nat.le_of_ble_eq_true rfl)
  rw [lg_entry_eq]
  generalize (lg_sl [.ref (q 0), .int p0] ++ List.replicate (3 - (lg_sl [.ref (q 0), .int p0]).length) Slot.unset).toArray = ls at hl ⊢
  exact kk_putSign_t0e G hl hP hD hS hf
def kk_readText_b113 (N : Nat) (σ : KSt) : Option (Bool × KSt) := bd (rr_put N (34 : Int32) (kf_target σ)) (fun (x15 : RSt) => some (true, (ks_target σ x15)))
def kk_readText_b59 (N : Nat) (k59 : Int32 → Int32 → Int32 → KSt → Option (Bool × KSt)) (a1 : Int32) (a2 : Int32) (a3 : Int32) (σ : KSt) : Option (Bool × KSt) := (if a1 ≤ a3 then kk_readText_b113 N  σ else (if a2 ≤ (kf_place σ) then kk_readText_b113 N  σ else bd (rr_signLength 4000 (kf_place σ) a2 (kf_tape σ)) (fun (x10 : Int32 × RSt) => (if x10.1 = 0 then bd (kk_refuse N (3 : Int32) (kf_place σ) (ks_tape σ x10.2)) (fun (x14 : Bool × KSt) => some (x14.1, x14.2)) else bd (kk_putSign N x10.1 (ks_tape σ x10.2)) (fun (x12 : KSt) => lt (a3 + (1 : Int32)) (fun (v13 : Int32) => k59 a1 a2 v13 x12))))))
def kk_readText_L59 (N : Nat) : Nat → Int32 → Int32 → Int32 → KSt → Option (Bool × KSt)
  | 0, _, _, _, _ => none
  | n + 1, a1, a2, a3, σ => kk_readText_b59 N (kk_readText_L59 N n) a1 a2 a3 σ
def kk_readText (N : Nat) (σ : KSt) : Option (Bool × KSt) := bd (rr_size 4000  (kf_tape σ)) (fun (x1 : Int32 × RSt) => (if (eX0_isWithin (kf_number σ) (x1.1 - (kf_place σ))) = true then lt (Int64.toInt32 (kf_number σ)) (fun (v3 : Int32) => lt ((kf_place σ) + v3) (fun (v4 : Int32) => bd (rr_put N (34 : Int32) (kf_target σ)) (fun (x5 : RSt) => kk_readText_L59 N FU v3 v4 (0 : Int32) (ks_target (ks_tape σ x1.2) x5)))) else bd (rr_size 4000  x1.2) (fun (x6 : Int32 × RSt) => bd (kk_refuse N (1 : Int32) x6.1 (ks_tape (ks_tape σ x1.2) x6.2)) (fun (x7 : Bool × KSt) => some (x7.1, x7.2)))))
abbrev rm_kk_readText : Room := { frames := 6, cells := 0, slots := 0, locals := 129 }
set_option maxHeartbeats 4000000 in
set_option maxRecDepth 100000 in
theorem kk_readText_t113 {p : Program} {l : Launch} {e : Env} {s : State} {m : MethodId} {args : Array Value} {below : List Frame} {meth : Method} {c : Code} {D : va_G} {aK aV : Nat → Nat} {A : Nat → Prop} {cB cI cJ : ClassId} {q : Nat → Nat} {N : Nat} {H : Heap} {locs : List Loc} {ls : Array Slot} {ρ : Bool × KSt} {σ : KSt} (G : CX p s m args meth c D (gTy cB cI cJ) aK aV A RX0 cX0_readText 5 (some .boolean)) (hl : lv_has ls 5 [(0, .ref (q 0))]) (hP : va_P D vwCl (kW cB N q σ) H) (hD : va_D A (kW cB N q σ)) (hS : va_S A s.heap H locs) (hf : kk_readText_b113 N σ = some ρ) : W p l e (rm_kk_readText) s m args below meth c H locs 0 0 (MQ below (cQ D (gTy cB cI cJ) A (kW cB N q ρ.2) (some (.int (bI ρ.1)))) args s 0 0 A) (F0 m 113 ls []) := by
  unfold kk_readText_b113 at hf
  obtain ⟨hx, hb, hml, hown, hT, hrt, hlk, hK, hA, hG, hE⟩ := id G
  refine lv_aload_n hx hb dX0_readText_113 rfl (lv_at hl 0 rfl) ?_
  refine gk_X0_target G hP dX0_readText_114 ?_
  refine lv_bipush (v := (34 : Int32)) hx hb dX0_readText_117 (by decide) ?_
  obtain ⟨x15, hx15, hf⟩ := bd_some hf
  refine vK_target (As := [.int (34 : Int32)]) (rest := []) (τ := x15) G kX0_98 rfl (c_rr_put hx15) hP hD hS ⟨rfl, rfl, Nat.le_of_ble_eq_true rfl, Nat.le_of_ble_eq_true rfl⟩ ⟨Nat.zero_le _, Nat.zero_le _⟩ rfl hl.1 (Nat.le_of_ble_eq_true rfl) dX0_readText_119 (fun H locs hP hD hS => ?_)
  refine W.eq (g2 := F0 m 122 ls []) rfl ?_
  refine lv_iconst (v := (1 : Int32)) hx hb dX0_readText_122 (by decide) ?_
  cases hf
  exact ct_iret G (bI_nar true) hP hD hS dX0_readText_123
set_option maxHeartbeats 4000000 in
set_option maxRecDepth 100000 in
theorem kk_readText_t59 {p : Program} {l : Launch} {e : Env} {s : State} {m : MethodId} {args : Array Value} {below : List Frame} {meth : Method} {c : Code} {D : va_G} {aK aV : Nat → Nat} {A : Nat → Prop} {cB cI cJ : ClassId} {q : Nat → Nat} {N : Nat} {H : Heap} {locs : List Loc} {ls : Array Slot} {ρ : Bool × KSt} {k59 : Int32 → Int32 → Int32 → KSt → Option (Bool × KSt)} {a1 : Int32} {a2 : Int32} {a3 : Int32} {σ : KSt} (G : CX p s m args meth c D (gTy cB cI cJ) aK aV A RX0 cX0_readText 5 (some .boolean)) (hk59 : ∀ (a1 : Int32) (a2 : Int32) (a3 : Int32) (σ : KSt) (H : Heap) (locs : List Loc) (ls : Array Slot), lv_has ls 5 [(0, .ref (q 0)), (1, .int a1), (2, .int a2), (3, .int a3)] → va_P D vwCl (kW cB N q σ) H → va_D A (kW cB N q σ) → va_S A s.heap H locs → k59 a1 a2 a3 σ = some ρ → W p l e (rm_kk_readText) s m args below meth c H locs 0 0 (MQ below (cQ D (gTy cB cI cJ) A (kW cB N q ρ.2) (some (.int (bI ρ.1)))) args s 0 0 A) (F0 m 59 ls [])) (hl : lv_has ls 5 [(0, .ref (q 0)), (1, .int a1), (2, .int a2), (3, .int a3)]) (hP : va_P D vwCl (kW cB N q σ) H) (hD : va_D A (kW cB N q σ)) (hS : va_S A s.heap H locs) (hf : kk_readText_b59 N k59 a1 a2 a3 σ = some ρ) : W p l e (rm_kk_readText) s m args below meth c H locs 0 0 (MQ below (cQ D (gTy cB cI cJ) A (kW cB N q ρ.2) (some (.int (bI ρ.1)))) args s 0 0 A) (F0 m 59 ls []) := by
  unfold kk_readText_b59 at hf
  obtain ⟨hx, hb, hml, hown, hT, hrt, hlk, hK, hA, hG, hE⟩ := id G
  refine lv_iload_n hx hb dX0_readText_59 rfl (lv_at hl 3 rfl) ?_
  refine lv_iload_n hx hb dX0_readText_60 rfl (lv_at hl 1 rfl) ?_
  refine lv_icmp_ge (tgt := 113) hx hb dX0_readText_61 (by decide) (fun c8 => ?_) (fun c8 => ?_)
  · have hf := (if_pos c8).symm.trans hf
    exact W.eq (g2 := F0 m 113 ls []) rfl (kk_readText_t113 G (lv_sub hl [0] rfl) hP hD hS hf)
  · have hf := (if_neg c8).symm.trans hf
    refine lv_aload_n hx hb dX0_readText_64 rfl (lv_at hl 0 rfl) ?_
    refine gk_X0_place (v := (kf_place σ)) G hP dX0_readText_65 rfl ?_
    refine lv_iload_n hx hb dX0_readText_68 rfl (lv_at hl 2 rfl) ?_
    refine lv_icmp_ge (tgt := 113) hx hb dX0_readText_69 (by decide) (fun c9 => ?_) (fun c9 => ?_)
    · have hf := (if_pos c9).symm.trans hf
      exact W.eq (g2 := F0 m 113 ls []) rfl (kk_readText_t113 G (lv_sub hl [0] rfl) hP hD hS hf)
    · have hf := (if_neg c9).symm.trans hf
      refine lv_aload_n hx hb dX0_readText_72 rfl (lv_at hl 0 rfl) ?_
      refine gk_X0_tape G hP dX0_readText_73 ?_
      refine lv_aload_n hx hb dX0_readText_76 rfl (lv_at hl 0 rfl) ?_
      refine gk_X0_place (v := (kf_place σ)) G hP dX0_readText_77 rfl ?_
      refine lv_iload_n hx hb dX0_readText_80 rfl (lv_at hl 2 rfl) ?_
      obtain ⟨x10, hx10, hf⟩ := bd_some hf
      refine nK_tape (As := [.int (kf_place σ), .int a2]) (rest := []) (τ := x10.2) G kX0_108 rfl (c_rr_signLength hx10) hP hD hS ⟨rfl, rfl, Nat.le_of_ble_eq_true rfl, Nat.le_of_ble_eq_true rfl⟩ ⟨Nat.zero_le _, Nat.zero_le _⟩ rfl hl.1 (Nat.le_of_ble_eq_true rfl) dX0_readText_81 (fun H locs hP hD hS => ?_)
      refine W.eq (g2 := F0 m 84 ls [.int x10.1]) rfl ?_
      refine lv_istore (lv' := [(4, .int x10.1), (0, .ref (q 0)), (1, .int a1), (2, .int a2), (3, .int a3)]) hx hb dX0_readText_84 hl (by decide) rfl (fun ls hl => ?_)
      refine lv_iload hx hb dX0_readText_86 (lv_at hl 0 rfl) ?_
      refine lv_if_ne (tgt := 101) hx hb dX0_readText_88 (by decide) (fun c11 => ?_) (fun c11 => ?_)
      · have hf := (if_neg c11).symm.trans hf
        refine lv_aload_n hx hb dX0_readText_101 rfl (lv_at hl 1 rfl) ?_
        refine lv_iload hx hb dX0_readText_102 (lv_at hl 0 rfl) ?_
        obtain ⟨x12, hx12, hf⟩ := bd_some hf
        refine vK (As := [.int x10.1]) (rest := []) G kX0_112 (c_kk_putSign hx12) hP hD hS ⟨rfl, rfl, Nat.le_of_ble_eq_true rfl, Nat.le_of_ble_eq_true rfl⟩ ⟨Nat.zero_le _, Nat.zero_le _⟩ rfl hl.1 (Nat.le_of_ble_eq_true rfl) dX0_readText_104 (fun H locs hP hD hS => ?_)
        refine W.eq (g2 := F0 m 107 ls []) rfl ?_
        obtain ⟨v13, ev13⟩ : ∃ y : Int32, y = (a3 + (1 : Int32)) := ⟨_, rfl⟩
        have hf := lt_eq hf ev13
        refine lv_iinc (v := v13) (lv' := [(3, .int v13), (4, .int x10.1), (0, .ref (q 0)), (1, .int a1), (2, .int a2)]) hx hb dX0_readText_107 hl (k := 4) rfl (by rw [ev13]; rfl) (by decide) rfl (fun ls hl => ?_)
        refine lv_goto (tgt := 59) hx hb dX0_readText_110 (by decide) ?_
        exact W.eq (g2 := F0 m 59 ls []) rfl (hk59 _ _ _ _ _ _ _ (lv_sub hl [2, 3, 4, 0] rfl) hP hD hS hf)
      · have hf := (if_pos c11).symm.trans hf
        refine lv_aload_n hx hb dX0_readText_91 rfl (lv_at hl 1 rfl) ?_
        refine lv_iconst (v := (3 : Int32)) hx hb dX0_readText_92 (by decide) ?_
        refine lv_aload_n hx hb dX0_readText_93 rfl (lv_at hl 1 rfl) ?_
        refine gk_X0_place (v := (kf_place σ)) G hP dX0_readText_94 (kG_place_tape _ _) ?_
        obtain ⟨x14, hx14, hf⟩ := bd_some hf
        refine uK (As := [.int (3 : Int32), .int (kf_place σ)]) (rest := []) G kX0_32 (c_kk_refuse hx14) hP hD hS ⟨rfl, rfl, Nat.le_of_ble_eq_true rfl, Nat.le_of_ble_eq_true rfl⟩ ⟨Nat.zero_le _, Nat.zero_le _⟩ rfl hl.1 (Nat.le_of_ble_eq_true rfl) dX0_readText_97 (fun H locs hP hD hS => ?_)
        refine W.eq (g2 := F0 m 100 ls [.int (bI x14.1)]) rfl ?_
        cases hf
        exact ct_iret G (bI_nar x14.1) hP hD hS dX0_readText_100
set_option maxHeartbeats 4000000 in
set_option maxRecDepth 100000 in
theorem kk_readText_u59 {p : Program} {l : Launch} {e : Env} {s : State} {m : MethodId} {args : Array Value} {below : List Frame} {meth : Method} {c : Code} {D : va_G} {aK aV : Nat → Nat} {A : Nat → Prop} {cB cI cJ : ClassId} {q : Nat → Nat} {N : Nat} {ρ : Bool × KSt} (G : CX p s m args meth c D (gTy cB cI cJ) aK aV A RX0 cX0_readText 5 (some .boolean)) : ∀ (n : Nat) {a1 : Int32} {a2 : Int32} {a3 : Int32} {σ : KSt} {H : Heap} {locs : List Loc} {ls : Array Slot} (hl : lv_has ls 5 [(0, .ref (q 0)), (1, .int a1), (2, .int a2), (3, .int a3)]) (hP : va_P D vwCl (kW cB N q σ) H) (hD : va_D A (kW cB N q σ)) (hS : va_S A s.heap H locs) (hf : kk_readText_L59 N n a1 a2 a3 σ = some ρ), W p l e (rm_kk_readText) s m args below meth c H locs 0 0 (MQ below (cQ D (gTy cB cI cJ) A (kW cB N q ρ.2) (some (.int (bI ρ.1)))) args s 0 0 A) (F0 m 59 ls []) := by
  intro n
  induction n with
  | zero =>
    intros
    rename_i hf
    cases hf
  | succ n ih =>
    intro a1 a2 a3 σ H locs ls hl hP hD hS hf
    exact kk_readText_t59 G (fun _ _ _ _ H locs ls hl hP hD hS hf => ih hl hP hD hS hf) hl hP hD hS hf
set_option maxHeartbeats 4000000 in
set_option maxRecDepth 100000 in
theorem kk_readText_t0e {p : Program} {l : Launch} {e : Env} {s : State} {m : MethodId} {args : Array Value} {below : List Frame} {meth : Method} {c : Code} {D : va_G} {aK aV : Nat → Nat} {A : Nat → Prop} {cB cI cJ : ClassId} {q : Nat → Nat} {N : Nat} {H : Heap} {locs : List Loc} {ls : Array Slot} {ρ : Bool × KSt} {σ : KSt} (G : CX p s m args meth c D (gTy cB cI cJ) aK aV A RX0 cX0_readText 5 (some .boolean)) (hl : lv_has ls 5 [(0, .ref (q 0))]) (hP : va_P D vwCl (kW cB N q σ) H) (hD : va_D A (kW cB N q σ)) (hS : va_S A s.heap H locs) (hf : kk_readText N σ = some ρ) : W p l e (rm_kk_readText) s m args below meth c H locs 0 0 (MQ below (cQ D (gTy cB cI cJ) A (kW cB N q ρ.2) (some (.int (bI ρ.1)))) args s 0 0 A) (F0 m 0 ls []) := by
  unfold kk_readText at hf
  obtain ⟨hx, hb, hml, hown, hT, hrt, hlk, hK, hA, hG, hE⟩ := id G
  refine lv_aload_n hx hb dX0_readText_0 rfl (lv_at hl 0 rfl) ?_
  refine gk_X0_number (v := (kf_number σ)) G hP dX0_readText_1 rfl ?_
  refine lv_aload_n hx hb dX0_readText_4 rfl (lv_at hl 0 rfl) ?_
  refine gk_X0_tape G hP dX0_readText_5 ?_
  obtain ⟨x1, hx1, hf⟩ := bd_some hf
  refine vK_tape (As := []) (rest := [.long (kf_number σ)]) (τ := x1.2) G kX0_26 rfl (c_rr_size hx1) hP hD hS ⟨rfl, rfl, Nat.le_of_ble_eq_true rfl, Nat.le_of_ble_eq_true rfl⟩ ⟨Nat.zero_le _, Nat.zero_le _⟩ rfl hl.1 (Nat.le_of_ble_eq_true rfl) dX0_readText_8 (fun H locs hP hD hS => ?_)
  refine W.eq (g2 := F0 m 11 ls [.int x1.1, .long (kf_number σ)]) rfl ?_
  refine lv_aload_n hx hb dX0_readText_11 rfl (lv_at hl 0 rfl) ?_
  refine gk_X0_place (v := (kf_place σ)) G hP dX0_readText_12 (kG_place_tape _ _) ?_
  refine lv_isub hx hb dX0_readText_15 ?_
  refine ct_s0 (As := [.long (kf_number σ), .int (x1.1 - (kf_place σ))]) (rest := []) G kX0_94 (c_eX0_isWithin (kf_number σ) (x1.1 - (kf_place σ))) hP hD hS ⟨rfl, rfl, Nat.le_of_ble_eq_true rfl, Nat.le_of_ble_eq_true rfl⟩ ⟨Nat.zero_le _, Nat.zero_le _⟩ rfl hl.1 (Nat.le_of_ble_eq_true rfl) dX0_readText_16 (fun H locs hP hS => ?_)
  refine W.eq (g2 := F0 m 19 ls [.int (bI (eX0_isWithin (kf_number σ) (x1.1 - (kf_place σ))))]) rfl ?_
  refine lv_if_ne (tgt := 35) hx hb dX0_readText_19 (by decide) (fun c2 => ?_) (fun c2 => ?_)
  · have hf := (if_pos (bI_n c2)).symm.trans hf
    refine lv_aload_n hx hb dX0_readText_35 rfl (lv_at hl 0 rfl) ?_
    refine gk_X0_number (v := (kf_number σ)) G hP dX0_readText_36 (kG_number_tape _ _) ?_
    refine lv_l2i (v := (Int64.toInt32 (kf_number σ))) hx hb dX0_readText_39 rfl ?_
    refine lv_topi (fun v3 ev3 => ?_)
    have hf := lt_eq hf ev3
    refine lv_istore_n (lv' := [(1, .int v3), (0, .ref (q 0))]) hx hb dX0_readText_40 rfl hl (by decide) rfl (fun ls hl => ?_)
    refine lv_aload_n hx hb dX0_readText_41 rfl (lv_at hl 1 rfl) ?_
    refine gk_X0_place (v := (kf_place σ)) G hP dX0_readText_42 (kG_place_tape _ _) ?_
    refine lv_iload_n hx hb dX0_readText_45 rfl (lv_at hl 0 rfl) ?_
    refine lv_iadd hx hb dX0_readText_46 ?_
    refine lv_topi (fun v4 ev4 => ?_)
    have hf := lt_eq hf ev4
    refine lv_istore_n (lv' := [(2, .int v4), (1, .int v3), (0, .ref (q 0))]) hx hb dX0_readText_47 rfl hl (by decide) rfl (fun ls hl => ?_)
    refine lv_aload_n hx hb dX0_readText_48 rfl (lv_at hl 2 rfl) ?_
    refine gk_X0_target G hP dX0_readText_49 ?_
    refine lv_bipush (v := (34 : Int32)) hx hb dX0_readText_52 (by decide) ?_
    obtain ⟨x5, hx5, hf⟩ := bd_some hf
    refine vK_target (As := [.int (34 : Int32)]) (rest := []) (τ := x5) G kX0_98 (kG_target_tape _ _) (c_rr_put hx5) hP hD hS ⟨rfl, rfl, Nat.le_of_ble_eq_true rfl, Nat.le_of_ble_eq_true rfl⟩ ⟨Nat.zero_le _, Nat.zero_le _⟩ rfl hl.1 (Nat.le_of_ble_eq_true rfl) dX0_readText_54 (fun H locs hP hD hS => ?_)
    refine W.eq (g2 := F0 m 57 ls []) rfl ?_
    refine lv_iconst (v := (0 : Int32)) hx hb dX0_readText_57 (by decide) ?_
    refine lv_istore_n (lv' := [(3, .int (0 : Int32)), (2, .int v4), (1, .int v3), (0, .ref (q 0))]) hx hb dX0_readText_58 rfl hl (by decide) rfl (fun ls hl => ?_)
    exact W.eq (g2 := F0 m 59 ls []) rfl (kk_readText_u59 G FU (lv_sub hl [3, 2, 1, 0] rfl) hP hD hS hf)
  · have hf := (if_neg (bI_0 c2)).symm.trans hf
    refine lv_aload_n hx hb dX0_readText_22 rfl (lv_at hl 0 rfl) ?_
    refine lv_iconst (v := (1 : Int32)) hx hb dX0_readText_23 (by decide) ?_
    refine lv_aload_n hx hb dX0_readText_24 rfl (lv_at hl 0 rfl) ?_
    refine gk_X0_tape G hP dX0_readText_25 ?_
    obtain ⟨x6, hx6, hf⟩ := bd_some hf
    refine vK_tape (As := []) (rest := [.int (1 : Int32), .ref (q 0)]) (τ := x6.2) G kX0_26 (kG_tape_tape _ _) (c_rr_size hx6) hP hD hS ⟨rfl, rfl, Nat.le_of_ble_eq_true rfl, Nat.le_of_ble_eq_true rfl⟩ ⟨Nat.zero_le _, Nat.zero_le _⟩ rfl hl.1 (Nat.le_of_ble_eq_true rfl) dX0_readText_28 (fun H locs hP hD hS => ?_)
    refine W.eq (g2 := F0 m 31 ls [.int x6.1, .int (1 : Int32), .ref (q 0)]) rfl ?_
    obtain ⟨x7, hx7, hf⟩ := bd_some hf
    refine uK (As := [.int (1 : Int32), .int x6.1]) (rest := []) G kX0_32 (c_kk_refuse hx7) hP hD hS ⟨rfl, rfl, Nat.le_of_ble_eq_true rfl, Nat.le_of_ble_eq_true rfl⟩ ⟨Nat.zero_le _, Nat.zero_le _⟩ rfl hl.1 (Nat.le_of_ble_eq_true rfl) dX0_readText_31 (fun H locs hP hD hS => ?_)
    refine W.eq (g2 := F0 m 34 ls [.int (bI x7.1)]) rfl ?_
    cases hf
    exact ct_iret G (bI_nar x7.1) hP hD hS dX0_readText_34
set_option maxHeartbeats 4000000 in
set_option maxRecDepth 100000 in
theorem c_kk_readText {l : Launch} {D : va_G} {aK aV : Nat → Nat} {cB cI cJ : ClassId} {q : Nat → Nat} {N : Nat} {ρ : Bool × KSt} {σ : KSt} (hf : kk_readText N σ = some ρ) : CT l D (gTy cB cI cJ) aK aV yX0_readText (wM yX0_readText cX0_readText 5 (some .boolean)) (rm_kk_readText) 0 0 [.ref (q 0)] (kW cB N q σ) (some (.int (bI ρ.1))) (kW cB N q ρ.2) := by
  refine CT.of (by decide) rfl ?_
  intro p e s m below meth c A G hnm hP hD hS
  have hl := lv_entry [.ref (q 0)] (n := 5) (Nat.le_of_ble_eq_true rfl)
  rw [lg_entry_eq]
  generalize (lg_sl [.ref (q 0)] ++ List.replicate (5 - (lg_sl [.ref (q 0)]).length) Slot.unset).toArray = ls at hl ⊢
  exact kk_readText_t0e G hl hP hD hS hf
def kk_readKey (N : Nat) (σ : KSt) : Option (Bool × KSt) := bd (kk_readHead N (1 : Int32) σ) (fun (x1 : Bool × KSt) => (if x1.1 = true then bd (kk_readText N  x1.2) (fun (x3 : Bool × KSt) => (if x3.1 = true then bd (rr_put N (58 : Int32) (kf_target x3.2)) (fun (x5 : RSt) => some (true, (ks_target x3.2 x5))) else some (false, x3.2))) else some (false, x1.2)))
abbrev rm_kk_readKey : Room := { frames := 7, cells := 0, slots := 0, locals := 153 }
set_option maxHeartbeats 4000000 in
set_option maxRecDepth 100000 in
theorem kk_readKey_t0e {p : Program} {l : Launch} {e : Env} {s : State} {m : MethodId} {args : Array Value} {below : List Frame} {meth : Method} {c : Code} {D : va_G} {aK aV : Nat → Nat} {A : Nat → Prop} {cB cI cJ : ClassId} {q : Nat → Nat} {N : Nat} {H : Heap} {locs : List Loc} {ls : Array Slot} {ρ : Bool × KSt} {σ : KSt} (G : CX p s m args meth c D (gTy cB cI cJ) aK aV A RX0 cX0_readKey 1 (some .boolean)) (hl : lv_has ls 1 [(0, .ref (q 0))]) (hP : va_P D vwCl (kW cB N q σ) H) (hD : va_D A (kW cB N q σ)) (hS : va_S A s.heap H locs) (hf : kk_readKey N σ = some ρ) : W p l e (rm_kk_readKey) s m args below meth c H locs 0 0 (MQ below (cQ D (gTy cB cI cJ) A (kW cB N q ρ.2) (some (.int (bI ρ.1)))) args s 0 0 A) (F0 m 0 ls []) := by
  unfold kk_readKey at hf
  obtain ⟨hx, hb, hml, hown, hT, hrt, hlk, hK, hA, hG, hE⟩ := id G
  refine lv_aload_n hx hb dX0_readKey_0 rfl (lv_at hl 0 rfl) ?_
  refine lv_iconst (v := (1 : Int32)) hx hb dX0_readKey_1 (by decide) ?_
  obtain ⟨x1, hx1, hf⟩ := bd_some hf
  refine vK (As := [.int (1 : Int32)]) (rest := []) G kX0_36 (c_kk_readHead hx1) hP hD hS ⟨rfl, rfl, Nat.le_of_ble_eq_true rfl, Nat.le_of_ble_eq_true rfl⟩ ⟨Nat.zero_le _, Nat.zero_le _⟩ rfl hl.1 (Nat.le_of_ble_eq_true rfl) dX0_readKey_2 (fun H locs hP hD hS => ?_)
  refine W.eq (g2 := F0 m 5 ls [.int (bI x1.1)]) rfl ?_
  refine lv_if_eq (tgt := 15) hx hb dX0_readKey_5 (by decide) (fun c2 => ?_) (fun c2 => ?_)
  · have hf := (if_neg (bI_0 c2)).symm.trans hf
    refine lv_iconst (v := (0 : Int32)) hx hb dX0_readKey_15 (by decide) ?_
    cases hf
    exact ct_iret G (bI_nar false) hP hD hS dX0_readKey_16
  · have hf := (if_pos (bI_n c2)).symm.trans hf
    refine lv_aload_n hx hb dX0_readKey_8 rfl (lv_at hl 0 rfl) ?_
    obtain ⟨x3, hx3, hf⟩ := bd_some hf
    refine vK (As := []) (rest := []) G kX0_47 (c_kk_readText hx3) hP hD hS ⟨rfl, rfl, Nat.le_of_ble_eq_true rfl, Nat.le_of_ble_eq_true rfl⟩ ⟨Nat.zero_le _, Nat.zero_le _⟩ rfl hl.1 (Nat.le_of_ble_eq_true rfl) dX0_readKey_9 (fun H locs hP hD hS => ?_)
    refine W.eq (g2 := F0 m 12 ls [.int (bI x3.1)]) rfl ?_
    refine lv_if_ne (tgt := 17) hx hb dX0_readKey_12 (by decide) (fun c4 => ?_) (fun c4 => ?_)
    · have hf := (if_pos (bI_n c4)).symm.trans hf
      refine lv_aload_n hx hb dX0_readKey_17 rfl (lv_at hl 0 rfl) ?_
      refine gk_X0_target G hP dX0_readKey_18 ?_
      refine lv_bipush (v := (58 : Int32)) hx hb dX0_readKey_21 (by decide) ?_
      obtain ⟨x5, hx5, hf⟩ := bd_some hf
      refine vK_target (As := [.int (58 : Int32)]) (rest := []) (τ := x5) G kX0_98 rfl (c_rr_put hx5) hP hD hS ⟨rfl, rfl, Nat.le_of_ble_eq_true rfl, Nat.le_of_ble_eq_true rfl⟩ ⟨Nat.zero_le _, Nat.zero_le _⟩ rfl hl.1 (Nat.le_of_ble_eq_true rfl) dX0_readKey_23 (fun H locs hP hD hS => ?_)
      refine W.eq (g2 := F0 m 26 ls []) rfl ?_
      refine lv_iconst (v := (1 : Int32)) hx hb dX0_readKey_26 (by decide) ?_
      cases hf
      exact ct_iret G (bI_nar true) hP hD hS dX0_readKey_27
    · have hf := (if_neg (bI_0 c4)).symm.trans hf
      refine lv_iconst (v := (0 : Int32)) hx hb dX0_readKey_15 (by decide) ?_
      cases hf
      exact ct_iret G (bI_nar false) hP hD hS dX0_readKey_16
set_option maxHeartbeats 4000000 in
set_option maxRecDepth 100000 in
theorem c_kk_readKey {l : Launch} {D : va_G} {aK aV : Nat → Nat} {cB cI cJ : ClassId} {q : Nat → Nat} {N : Nat} {ρ : Bool × KSt} {σ : KSt} (hf : kk_readKey N σ = some ρ) : CT l D (gTy cB cI cJ) aK aV yX0_readKey (wM yX0_readKey cX0_readKey 1 (some .boolean)) (rm_kk_readKey) 0 0 [.ref (q 0)] (kW cB N q σ) (some (.int (bI ρ.1))) (kW cB N q ρ.2) := by
  refine CT.of (by decide) rfl ?_
  intro p e s m below meth c A G hnm hP hD hS
  have hl := lv_entry [.ref (q 0)] (n := 1) (Nat.le_of_ble_eq_true rfl)
  rw [lg_entry_eq]
  generalize (lg_sl [.ref (q 0)] ++ List.replicate (1 - (lg_sl [.ref (q 0)]).length) Slot.unset).toArray = ls at hl ⊢
  exact kk_readKey_t0e G hl hP hD hS hf
def kk_putDigits_b101 (N : Nat) (a3 : Int32) (σ : KSt) : Option (KSt) := bd (rr_put N ((48 : Int32) + a3) (kf_target σ)) (fun (x14 : RSt) => some (ks_target σ x14))
def kk_putDigits_b44 (N : Nat) (k44 : Int64 → Int32 → Int64 → Int64 → Int32 → KSt → Option (KSt)) (a1 : Int64) (a3 : Int32) (a4 : Int64) (a6 : Int64) (a8 : Int32) (σ : KSt) : Option (KSt) := (if (19 : Int32) ≤ a8 then kk_putDigits_b101 N a3 σ else (if a4 ≤ (0 : Int64) then kk_putDigits_b101 N a3 σ else (if a1 ≤ (0 : Int64) then kk_putDigits_b101 N a3 σ else cz a4 (bd (rr_put N ((48 : Int32) + (Int64.toInt32 (a6 / a4))) (kf_target σ)) (fun (x9 : RSt) => cz a4 (lt (a6 - a6 / a4 * a4) (fun (v11 : Int64) => lt (a4 / (10 : Int64)) (fun (v12 : Int64) => lt (a8 + (1 : Int32)) (fun (v13 : Int32) => k44 a1 a3 v12 v11 v13 (ks_target σ x9))))))))))
def kk_putDigits_L44 (N : Nat) : Nat → Int64 → Int32 → Int64 → Int64 → Int32 → KSt → Option (KSt)
  | 0, _, _, _, _, _, _ => none
  | n + 1, a1, a3, a4, a6, a8, σ => kk_putDigits_b44 N (kk_putDigits_L44 N n) a1 a3 a4 a6 a8 σ
def kk_putDigits_b6 (N : Nat) (k6 : Int64 → Int32 → Int64 → Int32 → KSt → Option (KSt)) (a1 : Int64) (a3 : Int32) (a4 : Int64) (a6 : Int32) (σ : KSt) : Option (KSt) := (if (19 : Int32) ≤ a6 then kk_putDigits_L44 N FU a1 a3 a4 a1 (0 : Int32) σ else (if (a1 / (10 : Int64)) < a4 then kk_putDigits_L44 N FU a1 a3 a4 a1 (0 : Int32) σ else lt (a4 * (10 : Int64)) (fun (v3 : Int64) => lt (a6 + (1 : Int32)) (fun (v4 : Int32) => k6 a1 a3 v3 v4 σ))))
def kk_putDigits_L6 (N : Nat) : Nat → Int64 → Int32 → Int64 → Int32 → KSt → Option (KSt)
  | 0, _, _, _, _, _ => none
  | n + 1, a1, a3, a4, a6, σ => kk_putDigits_b6 N (kk_putDigits_L6 N n) a1 a3 a4 a6 σ
def kk_putDigits (N : Nat) (p0 : Int64) (p1 : Int32) (σ : KSt) : Option (KSt) := kk_putDigits_L6 N FU p0 p1 (1 : Int64) (1 : Int32) σ
abbrev rm_kk_putDigits : Room := { frames := 1, cells := 0, slots := 0, locals := 21 }
set_option maxHeartbeats 4000000 in
set_option maxRecDepth 100000 in
theorem kk_putDigits_t101 {p : Program} {l : Launch} {e : Env} {s : State} {m : MethodId} {args : Array Value} {below : List Frame} {meth : Method} {c : Code} {D : va_G} {aK aV : Nat → Nat} {A : Nat → Prop} {cB cI cJ : ClassId} {q : Nat → Nat} {N : Nat} {H : Heap} {locs : List Loc} {ls : Array Slot} {ρ : KSt} {a3 : Int32} {σ : KSt} (G : CX p s m args meth c D (gTy cB cI cJ) aK aV A RX0 cX0_putDigits 9 none) (hl : lv_has ls 9 [(0, .ref (q 0)), (3, .int a3)]) (hP : va_P D vwCl (kW cB N q σ) H) (hD : va_D A (kW cB N q σ)) (hS : va_S A s.heap H locs) (hf : kk_putDigits_b101 N a3 σ = some ρ) : W p l e (rm_kk_putDigits) s m args below meth c H locs 0 0 (MQ below (cQ D (gTy cB cI cJ) A (kW cB N q ρ) none) args s 0 0 A) (F0 m 101 ls []) := by
  unfold kk_putDigits_b101 at hf
  obtain ⟨hx, hb, hml, hown, hT, hrt, hlk, hK, hA, hG, hE⟩ := id G
  refine lv_aload_n hx hb dX0_putDigits_101 rfl (lv_at hl 0 rfl) ?_
  refine gk_X0_target G hP dX0_putDigits_102 ?_
  refine lv_bipush (v := (48 : Int32)) hx hb dX0_putDigits_105 (by decide) ?_
  refine lv_iload_n hx hb dX0_putDigits_107 rfl (lv_at hl 1 rfl) ?_
  refine lv_iadd hx hb dX0_putDigits_108 ?_
  obtain ⟨x14, hx14, hf⟩ := bd_some hf
  refine vK_target (As := [.int ((48 : Int32) + a3)]) (rest := []) (τ := x14) G kX0_98 rfl (c_rr_put hx14) hP hD hS ⟨rfl, rfl, Nat.le_of_ble_eq_true rfl, Nat.le_of_ble_eq_true rfl⟩ ⟨Nat.zero_le _, Nat.zero_le _⟩ rfl hl.1 (Nat.le_of_ble_eq_true rfl) dX0_putDigits_109 (fun H locs hP hD hS => ?_)
  refine W.eq (g2 := F0 m 112 ls []) rfl ?_
  cases hf
  exact ct_vret G hP hD hS dX0_putDigits_112
set_option maxHeartbeats 4000000 in
set_option maxRecDepth 100000 in
theorem kk_putDigits_t44 {p : Program} {l : Launch} {e : Env} {s : State} {m : MethodId} {args : Array Value} {below : List Frame} {meth : Method} {c : Code} {D : va_G} {aK aV : Nat → Nat} {A : Nat → Prop} {cB cI cJ : ClassId} {q : Nat → Nat} {N : Nat} {H : Heap} {locs : List Loc} {ls : Array Slot} {ρ : KSt} {k44 : Int64 → Int32 → Int64 → Int64 → Int32 → KSt → Option (KSt)} {a1 : Int64} {a3 : Int32} {a4 : Int64} {a6 : Int64} {a8 : Int32} {σ : KSt} (G : CX p s m args meth c D (gTy cB cI cJ) aK aV A RX0 cX0_putDigits 9 none) (hk44 : ∀ (a1 : Int64) (a3 : Int32) (a4 : Int64) (a6 : Int64) (a8 : Int32) (σ : KSt) (H : Heap) (locs : List Loc) (ls : Array Slot), lv_has ls 9 [(0, .ref (q 0)), (1, .long a1), (3, .int a3), (4, .long a4), (6, .long a6), (8, .int a8)] → va_P D vwCl (kW cB N q σ) H → va_D A (kW cB N q σ) → va_S A s.heap H locs → k44 a1 a3 a4 a6 a8 σ = some ρ → W p l e (rm_kk_putDigits) s m args below meth c H locs 0 0 (MQ below (cQ D (gTy cB cI cJ) A (kW cB N q ρ) none) args s 0 0 A) (F0 m 44 ls [])) (hl : lv_has ls 9 [(0, .ref (q 0)), (1, .long a1), (3, .int a3), (4, .long a4), (6, .long a6), (8, .int a8)]) (hP : va_P D vwCl (kW cB N q σ) H) (hD : va_D A (kW cB N q σ)) (hS : va_S A s.heap H locs) (hf : kk_putDigits_b44 N k44 a1 a3 a4 a6 a8 σ = some ρ) : W p l e (rm_kk_putDigits) s m args below meth c H locs 0 0 (MQ below (cQ D (gTy cB cI cJ) A (kW cB N q ρ) none) args s 0 0 A) (F0 m 44 ls []) := by
  unfold kk_putDigits_b44 at hf
  obtain ⟨hx, hb, hml, hown, hT, hrt, hlk, hK, hA, hG, hE⟩ := id G
  refine lv_iload hx hb dX0_putDigits_44 (lv_at hl 5 rfl) ?_
  refine lv_bipush (v := (19 : Int32)) hx hb dX0_putDigits_46 (by decide) ?_
  refine lv_icmp_ge (tgt := 101) hx hb dX0_putDigits_48 (by decide) (fun c5 => ?_) (fun c5 => ?_)
  · have hf := (if_pos c5).symm.trans hf
    exact W.eq (g2 := F0 m 101 ls []) rfl (kk_putDigits_t101 G (lv_sub hl [0, 2] rfl) hP hD hS hf)
  · have hf := (if_neg c5).symm.trans hf
    refine lv_lload hx hb dX0_putDigits_51 (lv_at hl 3 rfl) ?_
    refine lv_lconst (v := (0 : Int64)) hx hb dX0_putDigits_53 (by decide) ?_
    refine W.lcmp hx hb dX0_putDigits_54 ?_
    refine lv_if_le (tgt := 101) hx hb dX0_putDigits_55 (by decide) (fun c6 => ?_) (fun c6 => ?_)
    · have hf := (if_pos ((lg_cmp_le _ _).mp c6)).symm.trans hf
      exact W.eq (g2 := F0 m 101 ls []) rfl (kk_putDigits_t101 G (lv_sub hl [0, 2] rfl) hP hD hS hf)
    · have hf := (if_neg (fun z => c6 ((lg_cmp_le _ _).mpr z))).symm.trans hf
      refine lv_lload_n hx hb dX0_putDigits_58 rfl (lv_at hl 1 rfl) ?_
      refine lv_lconst (v := (0 : Int64)) hx hb dX0_putDigits_59 (by decide) ?_
      refine W.lcmp hx hb dX0_putDigits_60 ?_
      refine lv_if_le (tgt := 101) hx hb dX0_putDigits_61 (by decide) (fun c7 => ?_) (fun c7 => ?_)
      · have hf := (if_pos ((lg_cmp_le _ _).mp c7)).symm.trans hf
        exact W.eq (g2 := F0 m 101 ls []) rfl (kk_putDigits_t101 G (lv_sub hl [0, 2] rfl) hP hD hS hf)
      · have hf := (if_neg (fun z => c7 ((lg_cmp_le _ _).mpr z))).symm.trans hf
        refine lv_aload_n hx hb dX0_putDigits_64 rfl (lv_at hl 0 rfl) ?_
        refine gk_X0_target G hP dX0_putDigits_65 ?_
        refine lv_bipush (v := (48 : Int32)) hx hb dX0_putDigits_68 (by decide) ?_
        refine lv_lload hx hb dX0_putDigits_70 (lv_at hl 4 rfl) ?_
        refine lv_lload hx hb dX0_putDigits_72 (lv_at hl 3 rfl) ?_
        obtain ⟨hz8, hf⟩ := cz_some hf
        refine lv_ldiv hx hb dX0_putDigits_74 hz8 ?_
        refine lv_l2i (v := (Int64.toInt32 (a6 / a4))) hx hb dX0_putDigits_75 rfl ?_
        refine lv_iadd hx hb dX0_putDigits_76 ?_
        obtain ⟨x9, hx9, hf⟩ := bd_some hf
        refine vK_target (As := [.int ((48 : Int32) + (Int64.toInt32 (a6 / a4)))]) (rest := []) (τ := x9) G kX0_98 rfl (c_rr_put hx9) hP hD hS ⟨rfl, rfl, Nat.le_of_ble_eq_true rfl, Nat.le_of_ble_eq_true rfl⟩ ⟨Nat.zero_le _, Nat.zero_le _⟩ rfl hl.1 (Nat.le_of_ble_eq_true rfl) dX0_putDigits_77 (fun H locs hP hD hS => ?_)
        refine W.eq (g2 := F0 m 80 ls []) rfl ?_
        refine lv_lload hx hb dX0_putDigits_80 (lv_at hl 4 rfl) ?_
        refine lv_lload hx hb dX0_putDigits_82 (lv_at hl 3 rfl) ?_
        obtain ⟨hz10, hf⟩ := cz_some hf
        refine lv_lrem hx hb dX0_putDigits_84 hz10 ?_
        refine lv_topl (fun v11 ev11 => ?_)
        have hf := lt_eq hf ev11
        refine lv_lstore (lv' := [(6, .long v11), (0, .ref (q 0)), (1, .long a1), (3, .int a3), (4, .long a4), (8, .int a8)]) hx hb dX0_putDigits_85 hl (by decide) rfl (fun ls hl => ?_)
        refine lv_lload hx hb dX0_putDigits_87 (lv_at hl 4 rfl) ?_
        refine lv_ldc2 (v := (10 : Int64)) hx hb hown (hT _ wc_X0_133) dX0_putDigits_89 ?_
        refine lv_ldiv hx hb dX0_putDigits_92 (by decide) ?_
        refine lv_topl (fun v12 ev12 => ?_)
        have hf := lt_eq hf ev12
        refine lv_lstore (lv' := [(4, .long v12), (6, .long v11), (0, .ref (q 0)), (1, .long a1), (3, .int a3), (8, .int a8)]) hx hb dX0_putDigits_93 hl (by decide) rfl (fun ls hl => ?_)
        obtain ⟨v13, ev13⟩ : ∃ y : Int32, y = (a8 + (1 : Int32)) := ⟨_, rfl⟩
        have hf := lt_eq hf ev13
        refine lv_iinc (v := v13) (lv' := [(8, .int v13), (4, .long v12), (6, .long v11), (0, .ref (q 0)), (1, .long a1), (3, .int a3)]) hx hb dX0_putDigits_95 hl (k := 5) rfl (by rw [ev13]; rfl) (by decide) rfl (fun ls hl => ?_)
        refine lv_goto (tgt := 44) hx hb dX0_putDigits_98 (by decide) ?_
        exact W.eq (g2 := F0 m 44 ls []) rfl (hk44 _ _ _ _ _ _ _ _ _ (lv_sub hl [3, 4, 5, 1, 2, 0] rfl) hP hD hS hf)
set_option maxHeartbeats 4000000 in
set_option maxRecDepth 100000 in
theorem kk_putDigits_u44 {p : Program} {l : Launch} {e : Env} {s : State} {m : MethodId} {args : Array Value} {below : List Frame} {meth : Method} {c : Code} {D : va_G} {aK aV : Nat → Nat} {A : Nat → Prop} {cB cI cJ : ClassId} {q : Nat → Nat} {N : Nat} {ρ : KSt} (G : CX p s m args meth c D (gTy cB cI cJ) aK aV A RX0 cX0_putDigits 9 none) : ∀ (n : Nat) {a1 : Int64} {a3 : Int32} {a4 : Int64} {a6 : Int64} {a8 : Int32} {σ : KSt} {H : Heap} {locs : List Loc} {ls : Array Slot} (hl : lv_has ls 9 [(0, .ref (q 0)), (1, .long a1), (3, .int a3), (4, .long a4), (6, .long a6), (8, .int a8)]) (hP : va_P D vwCl (kW cB N q σ) H) (hD : va_D A (kW cB N q σ)) (hS : va_S A s.heap H locs) (hf : kk_putDigits_L44 N n a1 a3 a4 a6 a8 σ = some ρ), W p l e (rm_kk_putDigits) s m args below meth c H locs 0 0 (MQ below (cQ D (gTy cB cI cJ) A (kW cB N q ρ) none) args s 0 0 A) (F0 m 44 ls []) := by
  intro n
  induction n with
  | zero =>
    intros
    rename_i hf
    cases hf
  | succ n ih =>
    intro a1 a3 a4 a6 a8 σ H locs ls hl hP hD hS hf
    exact kk_putDigits_t44 G (fun _ _ _ _ _ _ H locs ls hl hP hD hS hf => ih hl hP hD hS hf) hl hP hD hS hf
set_option maxHeartbeats 4000000 in
set_option maxRecDepth 100000 in
theorem kk_putDigits_t6 {p : Program} {l : Launch} {e : Env} {s : State} {m : MethodId} {args : Array Value} {below : List Frame} {meth : Method} {c : Code} {D : va_G} {aK aV : Nat → Nat} {A : Nat → Prop} {cB cI cJ : ClassId} {q : Nat → Nat} {N : Nat} {H : Heap} {locs : List Loc} {ls : Array Slot} {ρ : KSt} {k6 : Int64 → Int32 → Int64 → Int32 → KSt → Option (KSt)} {a1 : Int64} {a3 : Int32} {a4 : Int64} {a6 : Int32} {σ : KSt} (G : CX p s m args meth c D (gTy cB cI cJ) aK aV A RX0 cX0_putDigits 9 none) (hk6 : ∀ (a1 : Int64) (a3 : Int32) (a4 : Int64) (a6 : Int32) (σ : KSt) (H : Heap) (locs : List Loc) (ls : Array Slot), lv_has ls 9 [(0, .ref (q 0)), (1, .long a1), (3, .int a3), (4, .long a4), (6, .int a6)] → va_P D vwCl (kW cB N q σ) H → va_D A (kW cB N q σ) → va_S A s.heap H locs → k6 a1 a3 a4 a6 σ = some ρ → W p l e (rm_kk_putDigits) s m args below meth c H locs 0 0 (MQ below (cQ D (gTy cB cI cJ) A (kW cB N q ρ) none) args s 0 0 A) (F0 m 6 ls [])) (hl : lv_has ls 9 [(0, .ref (q 0)), (1, .long a1), (3, .int a3), (4, .long a4), (6, .int a6)]) (hP : va_P D vwCl (kW cB N q σ) H) (hD : va_D A (kW cB N q σ)) (hS : va_S A s.heap H locs) (hf : kk_putDigits_b6 N k6 a1 a3 a4 a6 σ = some ρ) : W p l e (rm_kk_putDigits) s m args below meth c H locs 0 0 (MQ below (cQ D (gTy cB cI cJ) A (kW cB N q ρ) none) args s 0 0 A) (F0 m 6 ls []) := by
  unfold kk_putDigits_b6 at hf
  obtain ⟨hx, hb, hml, hown, hT, hrt, hlk, hK, hA, hG, hE⟩ := id G
  refine lv_iload hx hb dX0_putDigits_6 (lv_at hl 4 rfl) ?_
  refine lv_bipush (v := (19 : Int32)) hx hb dX0_putDigits_8 (by decide) ?_
  refine lv_icmp_ge (tgt := 38) hx hb dX0_putDigits_10 (by decide) (fun c1 => ?_) (fun c1 => ?_)
  · have hf := (if_pos c1).symm.trans hf
    refine lv_lload_n hx hb dX0_putDigits_38 rfl (lv_at hl 1 rfl) ?_
    refine lv_lstore (lv' := [(6, .long a1), (0, .ref (q 0)), (1, .long a1), (3, .int a3), (4, .long a4)]) hx hb dX0_putDigits_39 hl (by decide) rfl (fun ls hl => ?_)
    refine lv_iconst (v := (0 : Int32)) hx hb dX0_putDigits_41 (by decide) ?_
    refine lv_istore (lv' := [(8, .int (0 : Int32)), (6, .long a1), (0, .ref (q 0)), (1, .long a1), (3, .int a3), (4, .long a4)]) hx hb dX0_putDigits_42 hl (by decide) rfl (fun ls hl => ?_)
    exact W.eq (g2 := F0 m 44 ls []) rfl (kk_putDigits_u44 G FU (lv_sub hl [2, 3, 4, 5, 1, 0] rfl) hP hD hS hf)
  · have hf := (if_neg c1).symm.trans hf
    refine lv_lload hx hb dX0_putDigits_13 (lv_at hl 3 rfl) ?_
    refine lv_lload_n hx hb dX0_putDigits_15 rfl (lv_at hl 1 rfl) ?_
    refine lv_ldc2 (v := (10 : Int64)) hx hb hown (hT _ wc_X0_133) dX0_putDigits_16 ?_
    refine lv_ldiv hx hb dX0_putDigits_19 (by decide) ?_
    refine W.lcmp hx hb dX0_putDigits_20 ?_
    refine lv_if_gt (tgt := 38) hx hb dX0_putDigits_21 (by decide) (fun c2 => ?_) (fun c2 => ?_)
    · have hf := (if_pos ((lg_cmp_gt _ _).mp c2)).symm.trans hf
      refine lv_lload_n hx hb dX0_putDigits_38 rfl (lv_at hl 1 rfl) ?_
      refine lv_lstore (lv' := [(6, .long a1), (0, .ref (q 0)), (1, .long a1), (3, .int a3), (4, .long a4)]) hx hb dX0_putDigits_39 hl (by decide) rfl (fun ls hl => ?_)
      refine lv_iconst (v := (0 : Int32)) hx hb dX0_putDigits_41 (by decide) ?_
      refine lv_istore (lv' := [(8, .int (0 : Int32)), (6, .long a1), (0, .ref (q 0)), (1, .long a1), (3, .int a3), (4, .long a4)]) hx hb dX0_putDigits_42 hl (by decide) rfl (fun ls hl => ?_)
      exact W.eq (g2 := F0 m 44 ls []) rfl (kk_putDigits_u44 G FU (lv_sub hl [2, 3, 4, 5, 1, 0] rfl) hP hD hS hf)
    · have hf := (if_neg (fun z => c2 ((lg_cmp_gt _ _).mpr z))).symm.trans hf
      refine lv_lload hx hb dX0_putDigits_24 (lv_at hl 3 rfl) ?_
      refine lv_ldc2 (v := (10 : Int64)) hx hb hown (hT _ wc_X0_133) dX0_putDigits_26 ?_
      refine lv_lmul hx hb dX0_putDigits_29 ?_
      refine lv_topl (fun v3 ev3 => ?_)
      have hf := lt_eq hf ev3
      refine lv_lstore (lv' := [(4, .long v3), (0, .ref (q 0)), (1, .long a1), (3, .int a3), (6, .int a6)]) hx hb dX0_putDigits_30 hl (by decide) rfl (fun ls hl => ?_)
      obtain ⟨v4, ev4⟩ : ∃ y : Int32, y = (a6 + (1 : Int32)) := ⟨_, rfl⟩
      have hf := lt_eq hf ev4
      refine lv_iinc (v := v4) (lv' := [(6, .int v4), (4, .long v3), (0, .ref (q 0)), (1, .long a1), (3, .int a3)]) hx hb dX0_putDigits_32 hl (k := 4) rfl (by rw [ev4]; rfl) (by decide) rfl (fun ls hl => ?_)
      refine lv_goto (tgt := 6) hx hb dX0_putDigits_35 (by decide) ?_
      exact W.eq (g2 := F0 m 6 ls []) rfl (hk6 _ _ _ _ _ _ _ _ (lv_sub hl [2, 3, 4, 1, 0] rfl) hP hD hS hf)
set_option maxHeartbeats 4000000 in
set_option maxRecDepth 100000 in
theorem kk_putDigits_u6 {p : Program} {l : Launch} {e : Env} {s : State} {m : MethodId} {args : Array Value} {below : List Frame} {meth : Method} {c : Code} {D : va_G} {aK aV : Nat → Nat} {A : Nat → Prop} {cB cI cJ : ClassId} {q : Nat → Nat} {N : Nat} {ρ : KSt} (G : CX p s m args meth c D (gTy cB cI cJ) aK aV A RX0 cX0_putDigits 9 none) : ∀ (n : Nat) {a1 : Int64} {a3 : Int32} {a4 : Int64} {a6 : Int32} {σ : KSt} {H : Heap} {locs : List Loc} {ls : Array Slot} (hl : lv_has ls 9 [(0, .ref (q 0)), (1, .long a1), (3, .int a3), (4, .long a4), (6, .int a6)]) (hP : va_P D vwCl (kW cB N q σ) H) (hD : va_D A (kW cB N q σ)) (hS : va_S A s.heap H locs) (hf : kk_putDigits_L6 N n a1 a3 a4 a6 σ = some ρ), W p l e (rm_kk_putDigits) s m args below meth c H locs 0 0 (MQ below (cQ D (gTy cB cI cJ) A (kW cB N q ρ) none) args s 0 0 A) (F0 m 6 ls []) := by
  intro n
  induction n with
  | zero =>
    intros
    rename_i hf
    cases hf
  | succ n ih =>
    intro a1 a3 a4 a6 σ H locs ls hl hP hD hS hf
    exact kk_putDigits_t6 G (fun _ _ _ _ _ H locs ls hl hP hD hS hf => ih hl hP hD hS hf) hl hP hD hS hf
set_option maxHeartbeats 4000000 in
set_option maxRecDepth 100000 in
theorem kk_putDigits_t0e {p : Program} {l : Launch} {e : Env} {s : State} {m : MethodId} {args : Array Value} {below : List Frame} {meth : Method} {c : Code} {D : va_G} {aK aV : Nat → Nat} {A : Nat → Prop} {cB cI cJ : ClassId} {q : Nat → Nat} {N : Nat} {H : Heap} {locs : List Loc} {ls : Array Slot} {ρ : KSt} {p0 : Int64} {p1 : Int32} {σ : KSt} (G : CX p s m args meth c D (gTy cB cI cJ) aK aV A RX0 cX0_putDigits 9 none) (hl : lv_has ls 9 [(0, .ref (q 0)), (1, .long p0), (3, .int p1)]) (hP : va_P D vwCl (kW cB N q σ) H) (hD : va_D A (kW cB N q σ)) (hS : va_S A s.heap H locs) (hf : kk_putDigits N p0 p1 σ = some ρ) : W p l e (rm_kk_putDigits) s m args below meth c H locs 0 0 (MQ below (cQ D (gTy cB cI cJ) A (kW cB N q ρ) none) args s 0 0 A) (F0 m 0 ls []) := by
  unfold kk_putDigits at hf
  obtain ⟨hx, hb, hml, hown, hT, hrt, hlk, hK, hA, hG, hE⟩ := id G
  refine lv_lconst (v := (1 : Int64)) hx hb dX0_putDigits_0 (by decide) ?_
  refine lv_lstore (lv' := [(4, .long (1 : Int64)), (0, .ref (q 0)), (1, .long p0), (3, .int p1)]) hx hb dX0_putDigits_1 hl (by decide) rfl (fun ls hl => ?_)
  refine lv_iconst (v := (1 : Int32)) hx hb dX0_putDigits_3 (by decide) ?_
  refine lv_istore (lv' := [(6, .int (1 : Int32)), (4, .long (1 : Int64)), (0, .ref (q 0)), (1, .long p0), (3, .int p1)]) hx hb dX0_putDigits_4 hl (by decide) rfl (fun ls hl => ?_)
  exact W.eq (g2 := F0 m 6 ls []) rfl (kk_putDigits_u6 G FU (lv_sub hl [2, 3, 4, 1, 0] rfl) hP hD hS hf)
set_option maxHeartbeats 4000000 in
set_option maxRecDepth 100000 in
theorem c_kk_putDigits {l : Launch} {D : va_G} {aK aV : Nat → Nat} {cB cI cJ : ClassId} {q : Nat → Nat} {N : Nat} {ρ : KSt} {p0 : Int64} {p1 : Int32} {σ : KSt} (hf : kk_putDigits N p0 p1 σ = some ρ) : CT l D (gTy cB cI cJ) aK aV yX0_putDigits (wM yX0_putDigits cX0_putDigits 9 none) (rm_kk_putDigits) 0 0 [.ref (q 0), .long p0, .int p1] (kW cB N q σ) none (kW cB N q ρ) := by
  refine CT.of (by decide) rfl ?_
  intro p e s m below meth c A G hnm hP hD hS
  have hl := lv_entry [.ref (q 0), .long p0, .int p1] (n := 9) (Nat.le_of_ble_eq_true rfl)
  rw [lg_entry_eq]
  generalize (lg_sl [.ref (q 0), .long p0, .int p1] ++ List.replicate (9 - (lg_sl [.ref (q 0), .long p0, .int p1]).length) Slot.unset).toArray = ls at hl ⊢
  exact kk_putDigits_t0e G hl hP hD hS hf
def kk_putDecimal (N : Nat) (p0 : Int64) (σ : KSt) : Option (KSt) := lt (eX0_tenthOf p0) (fun (v1 : Int64) => bd (kk_putDigits N v1 (Int64.toInt32 (p0 - (v1 * (10 : Int64)))) σ) (fun (x2 : KSt) => some x2))
abbrev rm_kk_putDecimal : Room := { frames := 2, cells := 0, slots := 0, locals := 49 }
set_option maxHeartbeats 4000000 in
set_option maxRecDepth 100000 in
theorem kk_putDecimal_t0e {p : Program} {l : Launch} {e : Env} {s : State} {m : MethodId} {args : Array Value} {below : List Frame} {meth : Method} {c : Code} {D : va_G} {aK aV : Nat → Nat} {A : Nat → Prop} {cB cI cJ : ClassId} {q : Nat → Nat} {N : Nat} {H : Heap} {locs : List Loc} {ls : Array Slot} {ρ : KSt} {p0 : Int64} {σ : KSt} (G : CX p s m args meth c D (gTy cB cI cJ) aK aV A RX0 cX0_putDecimal 5 none) (hl : lv_has ls 5 [(0, .ref (q 0)), (1, .long p0)]) (hP : va_P D vwCl (kW cB N q σ) H) (hD : va_D A (kW cB N q σ)) (hS : va_S A s.heap H locs) (hf : kk_putDecimal N p0 σ = some ρ) : W p l e (rm_kk_putDecimal) s m args below meth c H locs 0 0 (MQ below (cQ D (gTy cB cI cJ) A (kW cB N q ρ) none) args s 0 0 A) (F0 m 0 ls []) := by
  unfold kk_putDecimal at hf
  obtain ⟨hx, hb, hml, hown, hT, hrt, hlk, hK, hA, hG, hE⟩ := id G
  refine lv_lload_n hx hb dX0_putDecimal_0 rfl (lv_at hl 1 rfl) ?_
  refine ct_s0 (As := [.long p0]) (rest := []) G kX0_129 (c_eX0_tenthOf p0) hP hD hS ⟨rfl, rfl, Nat.le_of_ble_eq_true rfl, Nat.le_of_ble_eq_true rfl⟩ ⟨Nat.zero_le _, Nat.zero_le _⟩ rfl hl.1 (Nat.le_of_ble_eq_true rfl) dX0_putDecimal_1 (fun H locs hP hS => ?_)
  refine W.eq (g2 := F0 m 4 ls [.long (eX0_tenthOf p0)]) rfl ?_
  refine lv_topl (fun v1 ev1 => ?_)
  have hf := lt_eq hf ev1
  refine lv_lstore_n (lv' := [(3, .long v1), (0, .ref (q 0)), (1, .long p0)]) hx hb dX0_putDecimal_4 rfl hl (by decide) rfl (fun ls hl => ?_)
  refine lv_aload_n hx hb dX0_putDecimal_5 rfl (lv_at hl 1 rfl) ?_
  refine lv_lload_n hx hb dX0_putDecimal_6 rfl (lv_at hl 0 rfl) ?_
  refine lv_lload_n hx hb dX0_putDecimal_7 rfl (lv_at hl 2 rfl) ?_
  refine lv_lload_n hx hb dX0_putDecimal_8 rfl (lv_at hl 0 rfl) ?_
  refine lv_ldc2 (v := (10 : Int64)) hx hb hown (hT _ wc_X0_133) dX0_putDecimal_9 ?_
  refine lv_lmul hx hb dX0_putDecimal_12 ?_
  refine lv_lsub hx hb dX0_putDecimal_13 ?_
  refine lv_l2i (v := (Int64.toInt32 (p0 - (v1 * (10 : Int64))))) hx hb dX0_putDecimal_14 rfl ?_
  obtain ⟨x2, hx2, hf⟩ := bd_some hf
  refine vK (As := [.long v1, .int (Int64.toInt32 (p0 - (v1 * (10 : Int64))))]) (rest := []) G kX0_135 (c_kk_putDigits hx2) hP hD hS ⟨rfl, rfl, Nat.le_of_ble_eq_true rfl, Nat.le_of_ble_eq_true rfl⟩ ⟨Nat.zero_le _, Nat.zero_le _⟩ rfl hl.1 (Nat.le_of_ble_eq_true rfl) dX0_putDecimal_15 (fun H locs hP hD hS => ?_)
  refine W.eq (g2 := F0 m 18 ls []) rfl ?_
  cases hf
  exact ct_vret G hP hD hS dX0_putDecimal_18
set_option maxHeartbeats 4000000 in
set_option maxRecDepth 100000 in
theorem c_kk_putDecimal {l : Launch} {D : va_G} {aK aV : Nat → Nat} {cB cI cJ : ClassId} {q : Nat → Nat} {N : Nat} {ρ : KSt} {p0 : Int64} {σ : KSt} (hf : kk_putDecimal N p0 σ = some ρ) : CT l D (gTy cB cI cJ) aK aV yX0_putDecimal (wM yX0_putDecimal cX0_putDecimal 5 none) (rm_kk_putDecimal) 0 0 [.ref (q 0), .long p0] (kW cB N q σ) none (kW cB N q ρ) := by
  refine CT.of (by decide) rfl ?_
  intro p e s m below meth c A G hnm hP hD hS
  have hl := lv_entry [.ref (q 0), .long p0] (n := 5) (Nat.le_of_ble_eq_true rfl)
  rw [lg_entry_eq]
  generalize (lg_sl [.ref (q 0), .long p0] ++ List.replicate (5 - (lg_sl [.ref (q 0), .long p0]).length) Slot.unset).toArray = ls at hl ⊢
  exact kk_putDecimal_t0e G hl hP hD hS hf
def kk_putNegative (N : Nat) (p0 : Int64) (σ : KSt) : Option (KSt) := lt (eX0_tenthOf p0) (fun (v1 : Int64) => lt (Int64.toInt32 (p0 - (v1 * (10 : Int64)))) (fun (v2 : Int32) => bd (rr_put N (45 : Int32) (kf_target σ)) (fun (x3 : RSt) => (if v2 = (9 : Int32) then bd (kk_putDigits N (v1 + (1 : Int64)) (0 : Int32) (ks_target σ x3)) (fun (x6 : KSt) => some x6) else bd (kk_putDigits N v1 (v2 + (1 : Int32)) (ks_target σ x3)) (fun (x5 : KSt) => some x5)))))
abbrev rm_kk_putNegative : Room := { frames := 2, cells := 0, slots := 0, locals := 49 }
set_option maxHeartbeats 4000000 in
set_option maxRecDepth 100000 in
theorem kk_putNegative_t0e {p : Program} {l : Launch} {e : Env} {s : State} {m : MethodId} {args : Array Value} {below : List Frame} {meth : Method} {c : Code} {D : va_G} {aK aV : Nat → Nat} {A : Nat → Prop} {cB cI cJ : ClassId} {q : Nat → Nat} {N : Nat} {H : Heap} {locs : List Loc} {ls : Array Slot} {ρ : KSt} {p0 : Int64} {σ : KSt} (G : CX p s m args meth c D (gTy cB cI cJ) aK aV A RX0 cX0_putNegative 6 none) (hl : lv_has ls 6 [(0, .ref (q 0)), (1, .long p0)]) (hP : va_P D vwCl (kW cB N q σ) H) (hD : va_D A (kW cB N q σ)) (hS : va_S A s.heap H locs) (hf : kk_putNegative N p0 σ = some ρ) : W p l e (rm_kk_putNegative) s m args below meth c H locs 0 0 (MQ below (cQ D (gTy cB cI cJ) A (kW cB N q ρ) none) args s 0 0 A) (F0 m 0 ls []) := by
  unfold kk_putNegative at hf
  obtain ⟨hx, hb, hml, hown, hT, hrt, hlk, hK, hA, hG, hE⟩ := id G
  refine lv_lload_n hx hb dX0_putNegative_0 rfl (lv_at hl 1 rfl) ?_
  refine ct_s0 (As := [.long p0]) (rest := []) G kX0_129 (c_eX0_tenthOf p0) hP hD hS ⟨rfl, rfl, Nat.le_of_ble_eq_true rfl, Nat.le_of_ble_eq_true rfl⟩ ⟨Nat.zero_le _, Nat.zero_le _⟩ rfl hl.1 (Nat.le_of_ble_eq_true rfl) dX0_putNegative_1 (fun H locs hP hS => ?_)
  refine W.eq (g2 := F0 m 4 ls [.long (eX0_tenthOf p0)]) rfl ?_
  refine lv_topl (fun v1 ev1 => ?_)
  have hf := lt_eq hf ev1
  refine lv_lstore_n (lv' := [(3, .long v1), (0, .ref (q 0)), (1, .long p0)]) hx hb dX0_putNegative_4 rfl hl (by decide) rfl (fun ls hl => ?_)
  refine lv_lload_n hx hb dX0_putNegative_5 rfl (lv_at hl 2 rfl) ?_
  refine lv_lload_n hx hb dX0_putNegative_6 rfl (lv_at hl 0 rfl) ?_
  refine lv_ldc2 (v := (10 : Int64)) hx hb hown (hT _ wc_X0_133) dX0_putNegative_7 ?_
  refine lv_lmul hx hb dX0_putNegative_10 ?_
  refine lv_lsub hx hb dX0_putNegative_11 ?_
  refine lv_l2i (v := (Int64.toInt32 (p0 - (v1 * (10 : Int64))))) hx hb dX0_putNegative_12 rfl ?_
  refine lv_topi (fun v2 ev2 => ?_)
  have hf := lt_eq hf ev2
  refine lv_istore (lv' := [(5, .int v2), (3, .long v1), (0, .ref (q 0)), (1, .long p0)]) hx hb dX0_putNegative_13 hl (by decide) rfl (fun ls hl => ?_)
  refine lv_aload_n hx hb dX0_putNegative_15 rfl (lv_at hl 2 rfl) ?_
  refine gk_X0_target G hP dX0_putNegative_16 ?_
  refine lv_bipush (v := (45 : Int32)) hx hb dX0_putNegative_19 (by decide) ?_
  obtain ⟨x3, hx3, hf⟩ := bd_some hf
  refine vK_target (As := [.int (45 : Int32)]) (rest := []) (τ := x3) G kX0_98 rfl (c_rr_put hx3) hP hD hS ⟨rfl, rfl, Nat.le_of_ble_eq_true rfl, Nat.le_of_ble_eq_true rfl⟩ ⟨Nat.zero_le _, Nat.zero_le _⟩ rfl hl.1 (Nat.le_of_ble_eq_true rfl) dX0_putNegative_21 (fun H locs hP hD hS => ?_)
  refine W.eq (g2 := F0 m 24 ls []) rfl ?_
  refine lv_iload hx hb dX0_putNegative_24 (lv_at hl 0 rfl) ?_
  refine lv_bipush (v := (9 : Int32)) hx hb dX0_putNegative_26 (by decide) ?_
  refine lv_icmp_ne (tgt := 42) hx hb dX0_putNegative_28 (by decide) (fun c4 => ?_) (fun c4 => ?_)
  · have hf := (if_neg c4).symm.trans hf
    refine lv_aload_n hx hb dX0_putNegative_42 rfl (lv_at hl 2 rfl) ?_
    refine lv_lload_n hx hb dX0_putNegative_43 rfl (lv_at hl 1 rfl) ?_
    refine lv_iload hx hb dX0_putNegative_44 (lv_at hl 0 rfl) ?_
    refine lv_iconst (v := (1 : Int32)) hx hb dX0_putNegative_46 (by decide) ?_
    refine lv_iadd hx hb dX0_putNegative_47 ?_
    obtain ⟨x5, hx5, hf⟩ := bd_some hf
    refine vK (As := [.long v1, .int (v2 + (1 : Int32))]) (rest := []) G kX0_135 (c_kk_putDigits hx5) hP hD hS ⟨rfl, rfl, Nat.le_of_ble_eq_true rfl, Nat.le_of_ble_eq_true rfl⟩ ⟨Nat.zero_le _, Nat.zero_le _⟩ rfl hl.1 (Nat.le_of_ble_eq_true rfl) dX0_putNegative_48 (fun H locs hP hD hS => ?_)
    refine W.eq (g2 := F0 m 51 ls []) rfl ?_
    cases hf
    exact ct_vret G hP hD hS dX0_putNegative_51
  · have hf := (if_pos c4).symm.trans hf
    refine lv_aload_n hx hb dX0_putNegative_31 rfl (lv_at hl 2 rfl) ?_
    refine lv_lload_n hx hb dX0_putNegative_32 rfl (lv_at hl 1 rfl) ?_
    refine lv_lconst (v := (1 : Int64)) hx hb dX0_putNegative_33 (by decide) ?_
    refine lv_ladd hx hb dX0_putNegative_34 ?_
    refine lv_iconst (v := (0 : Int32)) hx hb dX0_putNegative_35 (by decide) ?_
    obtain ⟨x6, hx6, hf⟩ := bd_some hf
    refine vK (As := [.long (v1 + (1 : Int64)), .int (0 : Int32)]) (rest := []) G kX0_135 (c_kk_putDigits hx6) hP hD hS ⟨rfl, rfl, Nat.le_of_ble_eq_true rfl, Nat.le_of_ble_eq_true rfl⟩ ⟨Nat.zero_le _, Nat.zero_le _⟩ rfl hl.1 (Nat.le_of_ble_eq_true rfl) dX0_putNegative_36 (fun H locs hP hD hS => ?_)
    refine W.eq (g2 := F0 m 39 ls []) rfl ?_
    refine lv_goto (tgt := 51) hx hb dX0_putNegative_39 (by decide) ?_
    cases hf
    exact ct_vret G hP hD hS dX0_putNegative_51
set_option maxHeartbeats 4000000 in
set_option maxRecDepth 100000 in
theorem c_kk_putNegative {l : Launch} {D : va_G} {aK aV : Nat → Nat} {cB cI cJ : ClassId} {q : Nat → Nat} {N : Nat} {ρ : KSt} {p0 : Int64} {σ : KSt} (hf : kk_putNegative N p0 σ = some ρ) : CT l D (gTy cB cI cJ) aK aV yX0_putNegative (wM yX0_putNegative cX0_putNegative 6 none) (rm_kk_putNegative) 0 0 [.ref (q 0), .long p0] (kW cB N q σ) none (kW cB N q ρ) := by
  refine CT.of (by decide) rfl ?_
  intro p e s m below meth c A G hnm hP hD hS
  have hl := lv_entry [.ref (q 0), .long p0] (n := 6) (Nat.le_of_ble_eq_true rfl)
  rw [lg_entry_eq]
  generalize (lg_sl [.ref (q 0), .long p0] ++ List.replicate (6 - (lg_sl [.ref (q 0), .long p0]).length) Slot.unset).toArray = ls at hl ⊢
  exact kk_putNegative_t0e G hl hP hD hS hf
