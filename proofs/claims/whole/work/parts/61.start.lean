/-! THE LAW FROM ITS ENTRY, over the pure steps -/
def gTm : Nat → Term := fun i => match i with
  | 0 => .string "TextBridge$JsonReader" 45
  | 1 => .string "TextBridge$JsonReader" 51
  | 2 => .string "TextBridge$JsonReader" 53
  | 3 => .string "TextBridge$CborReader" 121
  | 4 => .string "TextBridgeModel" 109
  | _ => .string "TextBridgeModel" 240
abbrev fl1 : List Cond := flatC (Jvm.Cond.and given_1 narrow_1)
theorem fl_ex : ∀ i, i < 6 → Cond.exactly (gTm i) "java/lang/String" ∈ fl1 := by decide +kernel
theorem fl_co : ∀ i, i < 6 → Cond.eq (.field (gTm i) "java/lang/String" "coder" "B") (.int 0) ∈ fl1 := by decide +kernel
theorem fl_ar : ∀ i, i < 6 → Cond.arrayOf (.field (gTm i) "java/lang/String" "value" "[B") .byte ∈ fl1 := by decide +kernel
theorem fl_le : ∀ i, i < 6 → Cond.eq (.length (.field (gTm i) "java/lang/String" "value" "[B")) (.int (Int32.ofNat (gLn.getD i 0))) ∈ fl1 := by decide +kernel
theorem fl_el : ∀ i, i < 6 → ∀ j, j < gLn.getD i 0 → Cond.eq (.elem (.field (gTm i) "java/lang/String" "value" "[B") (.int (Int32.ofNat j))) (.int ((gTx.getD i []).getD j 0)) ∈ fl1 := by decide +kernel
theorem fl_ne : ∀ i, i < 6 → ∀ j, j < 6 → i ≠ j → (Cond.not (Cond.eq (gTm i) (gTm j)) ∈ fl1 ∨ Cond.not (Cond.eq (gTm j) (gTm i)) ∈ fl1) := by decide +kernel
theorem fl_cs : Cond.eq (.static "java/lang/String" "COMPACT_STRINGS" "Z") (.int 1) ∈ fl1 := by decide +kernel
theorem fl_sf : Cond.isRef (.static "jdk/internal/util/Preconditions" "SIOOBE_FORMATTER" "Ljava/util/function/BiFunction;") ∈ fl1 := by decide +kernel
theorem fl_qX0_63 : Cond.eq (gTm 0) (.string "TextBridge$CborReader" 63) ∈ fl1 := by decide +kernel
theorem fl_qX0_67 : Cond.eq (gTm 1) (.string "TextBridge$CborReader" 67) ∈ fl1 := by decide +kernel
theorem fl_qX0_69 : Cond.eq (gTm 2) (.string "TextBridge$CborReader" 69) ∈ fl1 := by decide +kernel
theorem fl_qX5_161 : Cond.eq (gTm 0) (.string "TextBridgeModel" 161) ∈ fl1 := by decide +kernel
theorem fl_qX5_167 : Cond.eq (gTm 1) (.string "TextBridgeModel" 167) ∈ fl1 := by decide +kernel
theorem fl_qX5_169 : Cond.eq (gTm 2) (.string "TextBridgeModel" 169) ∈ fl1 := by decide +kernel
set_option maxHeartbeats 4000000 in
set_option maxRecDepth 100000 in
theorem whole_open {p : Program} {e : Env} {s : State} {m : MethodId} {below : List Frame} {meth : Method} {c : Code} (l : Launch) {I : TSt → MSt → Prop} (hst : LSteps I) (h00 : I t0 m0) {b L : Nat} {xs : Nat → Int32} (hL : L ≤ 3072) (C0 : lw_At p s m meth c b L xs) : W p l e room_1 s m #[Value.ref b] below meth c s.heap [] 0 0 (lw_Z below #[Value.ref b] s) (entryFrame m ([Value.ref b] : List Value).toArray 4) := by
  obtain ⟨hx, hb, hr, hml, hown, hts, hX, hbl, hlocks, hgv⟩ := id C0
  have hT : ∀ w ∈ wT, w.before #[Value.ref b] s = true := fun w h => hts w (List.mem_filter.mp h).1
  have hA : ∀ q : Nat, s.heap.size ≤ q → (fun q : Nat => s.heap.size ≤ q) q := fun _ h => h
  have hA2 : ∀ a : Nat, a < s.heap.size → ¬ (fun q : Nat => s.heap.size ≤ q) a := fun a h => Nat.not_le.mpr h
  obtain ⟨c0, iS0, hKn0⟩ := u_known (C := RX0) (T := TX0) (N := 8) (n := 8) hT i_X0 (hT _ wins_X0)
  obtain ⟨c1, iS1, hKn1⟩ := u_known (C := RX1) (T := TX1) (N := 6) (n := 6) hT i_X1 (hT _ wins_X1)
  obtain ⟨c2, iS2, hKn2⟩ := u_known (C := RX3) (T := TX3) (N := 2) (n := 2) hT i_X3 (hT _ wins_X3)
  obtain ⟨c3, iS3, hKn3⟩ := u_known (C := RX4) (T := TX4) (N := 6) (n := 6) hT i_X4 (hT _ wins_X4)
  obtain ⟨c4, iS4, hKn4⟩ := u_known (C := RX5) (T := TX5) (N := 22) (n := 22) hT i_X5 (hT _ wins_X5)
  obtain ⟨dC, dI, hKc⟩ : ∃ (dC : Nat → ClassId) (dI : Nat → Nat → Nat), ∀ (k : Nat) (q : vw_C), vwCl[k]? = some q → u_Kn s q.1 q.2.1 q.2.2 (dC k) (dI k) := by
    refine ⟨fun k => if k = 0 then c0 else if k = 1 then c1 else if k = 2 then c2 else if k = 3 then c3 else c4, fun k => if k = 0 then iS0 else if k = 1 then iS1 else if k = 2 then iS2 else if k = 3 then iS3 else iS4, ?_⟩
    intro k q hq
    match k, hq with
    | 0, hq => cases hq; exact hKn0
    | 1, hq => cases hq; exact hKn1
    | 2, hq => cases hq; exact hKn2
    | 3, hq => cases hq; exact hKn3
    | 4, hq => cases hq; exact hKn4
    | k + 5, hq => simp [vwCl] at hq
  obtain ⟨cB, kB, pB, fB, gB, hB⟩ := Cond.arrayClass_spec (hT _ a_byte)
  obtain ⟨cI, kI, pI, fI, gI, hI⟩ := Cond.arrayClass_spec (hT _ a_int)
  obtain ⟨cJ, kJ, pJ, fJ, gJ, hJ⟩ := Cond.arrayClass_spec (hT _ a_long)
  have hK : va_K (dC, dI) vwCl (gTy cB cI cJ) s := by
    refine ⟨hKc, fun k q h => ?_⟩
    match k, h with
    | 0, h => cases h; exact ⟨fun n z => ⟨fun k h => (by cases h), kB, gB, pB, hB⟩, fB⟩
    | 1, h => cases h; exact ⟨fun n z => ⟨fun k h => (by cases h), kI, gI, pI, hI⟩, fI⟩
    | 2, h => cases h; exact ⟨fun n z => ⟨fun k h => (by cases h), kJ, gJ, pJ, hJ⟩, fJ⟩
    | k + 3, h => simp [gTy] at h
  have hs := flat_of_before _ hgv
  obtain ⟨aK, aV, hvS, hva⟩ := vk_Sof (args := #[Value.ref b]) (s := s) (N := 6) (tm := gTm) (len := gLn) (byt := gTx) (A := (fun q : Nat => s.heap.size ≤ q)) sLn_lt (fun i hi => hs _ (fl_ex i hi)) (fun i hi => hs _ (fl_co i hi)) (fun i hi => hs _ (fl_ar i hi)) (fun i hi => hs _ (fl_le i hi)) (fun i hi j hj => hs _ (fl_el i hi j hj)) (fun i j hi hj hij => (fl_ne i hi j hj hij).imp (hs _) (hs _)) hA2
  have hR : gR aK s := ⟨List.forall_mem_cons.mpr ⟨vk_R.of (hts _ (in2 (i := 17) rfl)) (hva 0 (by decide)), List.forall_mem_cons.mpr ⟨vk_R.of (hts _ (in2 (i := 76) rfl)) (hva 1 (by decide)), List.forall_mem_cons.mpr ⟨vk_R.of (hts _ (in2 (i := 77) rfl)) (hva 2 (by decide)), List.forall_mem_cons.mpr ⟨vk_R.of (hts _ (in2 (i := 214) rfl)) (hva 3 (by decide)), List.forall_mem_cons.mpr ⟨vk_R.of (hts _ (in2 (i := 226) rfl)) (va_eqR (hs _ fl_qX0_63) (hva 0 (by decide))), List.forall_mem_cons.mpr ⟨vk_R.of (hts _ (in2 (i := 228) rfl)) (va_eqR (hs _ fl_qX0_67) (hva 1 (by decide))), List.forall_mem_cons.mpr ⟨vk_R.of (hts _ (in2 (i := 229) rfl)) (va_eqR (hs _ fl_qX0_69) (hva 2 (by decide))), List.forall_mem_cons.mpr ⟨vk_R.of (hts _ (in3 (i := 219) rfl)) (va_eqR (hs _ fl_qX5_161) (hva 0 (by decide))), List.forall_mem_cons.mpr ⟨vk_R.of (hts _ (in3 (i := 226) rfl)) (va_eqR (hs _ fl_qX5_167) (hva 1 (by decide))), List.forall_mem_cons.mpr ⟨vk_R.of (hts _ (in3 (i := 227) rfl)) (va_eqR (hs _ fl_qX5_169) (hva 2 (by decide))), List.forall_mem_cons.mpr ⟨vk_R.of (hts _ (in4 (i := 8) rfl)) (hva 4 (by decide)), List.forall_mem_cons.mpr ⟨vk_R.of (hts _ (in4 (i := 86) rfl)) (hva 5 (by decide)), fun _ h => absurd h List.not_mem_nil⟩⟩⟩⟩⟩⟩⟩⟩⟩⟩⟩⟩, List.forall_mem_cons.mpr ⟨va_Nw.of rfl (hts _ (in1 (i := 161) rfl)), List.forall_mem_cons.mpr ⟨va_Nw.of rfl (hts _ (in1 (i := 168) rfl)), List.forall_mem_cons.mpr ⟨va_Nw.of rfl (hts _ (in1 (i := 230) rfl)), List.forall_mem_cons.mpr ⟨va_Nw.of rfl (hts _ (in2 (i := 171) rfl)), List.forall_mem_cons.mpr ⟨va_Nw.of rfl (hts _ (in2 (i := 176) rfl)), List.forall_mem_cons.mpr ⟨va_Nw.of rfl (hts _ (in2 (i := 202) rfl)), fun _ h => absurd h List.not_mem_nil⟩⟩⟩⟩⟩⟩⟩
  have hE : gH aK aV (fun q : Nat => s.heap.size ≤ q) s s.heap := ⟨hvS, va_Zof (hts _ (in2 (i := 31) rfl)) (hT _ (wT_of (in1 (i := 8) rfl) rfl)) (va_eqi (hs _ fl_cs)) hA2, va_Zqof (hts _ (in2 (i := 47) rfl)) (hT _ (wT_of (in1 (i := 10) rfl) rfl)) (hs _ fl_sf) hA2⟩
  have G : CX p s m #[Value.ref b] meth c (dC, dI) (gTy cB cI cJ) aK aV (fun q : Nat => s.heap.size ≤ q) RL cL_law 4 ret := ⟨hx, hb, hml, hown, hT, hr, hlocks, hK, hA, hR, hE⟩
  have hS : va_S (fun q : Nat => s.heap.size ≤ q) s.heap s.heap [] := va_S.rf
  have hP : va_P (dC, dI) vwCl [] s.heap := fun k q h => by simp at h
  have hD : va_D (fun q : Nat => s.heap.size ≤ q) [] := ⟨fun i j p q h => by simp at h, fun k q h => by simp at h⟩
  have hl := lv_entry [.ref b] (n := 4) (Nat.le_of_ble_eq_true rfl)
  rw [lg_entry_eq]
  generalize (lg_sl [.ref b] ++ List.replicate (4 - (lg_sl [.ref b]).length) Slot.unset).toArray = ls at hl ⊢
  have hl : lv_has ls 4 [(0, .ref b)] := hl
  refine va_new (ci := 3) (fs := [.null, .null, .null, .int 0, .int 0, .int 0]) (C := RX4) (T := TX4) (N := 6) hx hb hT i_X4 tyX4 tyX4_ok hown (hT _ wclL_7) (hT _ wins_X4) (hT _ wini_X4) hK hP hD hS hA rfl (fun j hj => by rcases (show j = 0 ∨ j = 1 ∨ j = 2 ∨ j = 3 ∨ j = 4 ∨ j = 5 by omega) with rfl | rfl | rfl | rfl | rfl | rfl <;> rfl) (by show 0 + 1 ≤ 600000; omega) (by show 0 + 6 ≤ 7302250; omega) dL_law_0 (fun h H hP hD hS => ?_)
  refine W.widen (k := 1) (n := 6) (by omega) (by omega) ?_
  have hP : va_P (dC, dI) vwCl ([(h, .inr (3, [.null, .null, .null, .int 0, .int 0, .int 0]))]) H := hP
  have hD : va_D (fun q : Nat => s.heap.size ≤ q) ([(h, .inr (3, [.null, .null, .null, .int 0, .int 0, .int 0]))]) := hD
  refine lv_dup hx hb dL_law_3 rfl ?_
  refine ce_i (As := []) (rest := [.ref h]) (wr := []) G kL_9 (c_tbInit (h := h)) hP hD hS [0] [] rfl rfl rfl rfl (fun _ h => absurd h List.not_mem_nil) ⟨rfl, rfl, (Nat.le_of_ble_eq_true rfl), (Nat.le_of_ble_eq_true rfl)⟩ rfl hl.1 (Nat.le_of_ble_eq_true rfl) dL_law_4 ⟨by show 1 + 6 ≤ 600000; omega, by show 6 + 10006 ≤ 7302250; omega⟩ (fun x H locs hP hD hS => ?_)
  refine W.widen (k := 7) (n := 10012) (by omega) (by omega) ?_
  refine W.eq (g2 := F0 m 7 ls [.ref h]) rfl ?_
  have hP : va_P (dC, dI) vwCl (tW cB (qL h x) t0) H := hP
  have hD : va_D (fun q : Nat => s.heap.size ≤ q) (tW cB (qL h x) t0) := hD
  refine lv_astore_n (lv' := [(1, .ref h), (0, .ref b)]) hx hb dL_law_7 rfl hl (by decide) rfl (fun ls hl => ?_)
  refine va_new (ci := 4) (fs := [.int 0, .null, .int 0, .int 0, .int 0, .null, .int 0, .int 0, .null, .null, .null, .int 0, .null, .int 0, .null, .null, .int 0, .int 0, .int 0, .null, .int 0, .null]) (C := RX5) (T := TX5) (N := 22) hx hb hT i_X5 tyX5 tyX5_ok hown (hT _ wclL_10) (hT _ wins_X5) (hT _ wini_X5) hK hP hD hS hA rfl (fun j hj => by rcases (show j = 0 ∨ j = 1 ∨ j = 2 ∨ j = 3 ∨ j = 4 ∨ j = 5 ∨ j = 6 ∨ j = 7 ∨ j = 8 ∨ j = 9 ∨ j = 10 ∨ j = 11 ∨ j = 12 ∨ j = 13 ∨ j = 14 ∨ j = 15 ∨ j = 16 ∨ j = 17 ∨ j = 18 ∨ j = 19 ∨ j = 20 ∨ j = 21 by omega) with rfl | rfl | rfl | rfl | rfl | rfl | rfl | rfl | rfl | rfl | rfl | rfl | rfl | rfl | rfl | rfl | rfl | rfl | rfl | rfl | rfl | rfl <;> rfl) (by show 7 + 1 ≤ 600000; omega) (by show 10012 + 22 ≤ 7302250; omega) dL_law_8 (fun g H hP hD hS => ?_)
  refine W.widen (k := 8) (n := 10034) (by omega) (by omega) ?_
  have hP : va_P (dC, dI) vwCl (tW cB (qL h x) t0 ++ [(g, .inr (4, [.int 0, .null, .int 0, .int 0, .int 0, .null, .int 0, .int 0, .null, .null, .null, .int 0, .null, .int 0, .null, .null, .int 0, .int 0, .int 0, .null, .int 0, .null]))]) H := hP
  have hD : va_D (fun q : Nat => s.heap.size ≤ q) (tW cB (qL h x) t0 ++ [(g, .inr (4, [.int 0, .null, .int 0, .int 0, .int 0, .null, .int 0, .int 0, .null, .null, .null, .int 0, .null, .int 0, .null, .null, .int 0, .int 0, .int 0, .null, .int 0, .null]))]) := hD
  refine lv_dup hx hb dL_law_11 rfl ?_
  refine ce_i (As := []) (rest := [.ref g]) (wr := tW cB (qL h x) t0) G kL_12 (c_mInit (h := g)) hP hD hS [7] [0, 1, 2, 3, 4, 5, 6] rfl rfl rfl rfl (by decide) ⟨rfl, rfl, (Nat.le_of_ble_eq_true rfl), (Nat.le_of_ble_eq_true rfl)⟩ rfl hl.1 (Nat.le_of_ble_eq_true rfl) dL_law_12 ⟨by show 8 + 10 ≤ 600000; omega, by show 10034 + 36952 ≤ 7302250; omega⟩ (fun y H locs hP hD hS => ?_)
  refine W.widen (k := 18) (n := 46986) (by omega) (by omega) ?_
  refine W.eq (g2 := F0 m 15 ls [.ref g]) rfl ?_
  refine lv_astore_n (lv' := [(2, .ref g), (1, .ref h), (0, .ref b)]) hx hb dL_law_15 rfl hl (by decide) rfl (fun ls hl => ?_)
  refine lv_iconst (v := 0) hx hb dL_law_16 (by decide) ?_
  refine lv_istore_n (lv' := [(3, .int 0), (2, .ref g), (1, .ref h), (0, .ref b)]) hx hb dL_law_17 rfl hl (by decide) rfl (fun ls hl => ?_)
  exact law_loop (u := qL g y) hL hst G hX hbl (L + 1) 0 (by omega) (by omega) (qL h x) t0 m0 18 46986 H locs ls 0 rfl (by omega) (by omega) h00 (lv_sub hl [3, 2, 1, 0] rfl) hP hD hS
