/-! PURE Y: the reference writes -/
theorem byte_of {u k : Nat} (hu : u < 2 ^ 64) (hk : k ≤ 56) : (Int64.toInt32 (lN u >>> ((nI k).toInt64 &&& 63))) &&& (255 : Int32) = nI (u / 2 ^ k % 256) := by
  rw [wb_c k (by omega), pk_and _ (m := 255) 8 (by decide)]
  congr 1
  have e : (lN u >>> lN k).toBitVec = (BitVec.ofNat 64 u).sshiftRight k := by
    show (BitVec.ofNat 64 u).sshiftRight' ((BitVec.ofNat 64 k).smod 64) = _
    rw [wb_sm k (by omega), BitVec.sshiftRight_eq', BitVec.toNat_ofNat, Nat.mod_eq_of_lt (by omega)]
  have e2 : (Int64.toInt32 (lN u >>> lN k)).toBitVec = ((BitVec.ofNat 64 u).sshiftRight k).setWidth 32 := by
    rw [Int64.toBitVec_toInt32, BitVec.signExtend_eq_setWidth_of_le _ (by decide), e]
  rw [e2]
  apply Nat.eq_of_testBit_eq
  intro i
  rw [Nat.testBit_mod_two_pow, show u / 2 ^ k % 256 = u / 2 ^ k % 2 ^ 8 from rfl, Nat.testBit_mod_two_pow, Nat.testBit_div_two_pow]
  by_cases h8 : i < 8
  · rw [decide_eq_true h8, Bool.true_and, Bool.true_and, BitVec.testBit_toNat, BitVec.getLsbD_setWidth, BitVec.getLsbD_sshiftRight, decide_eq_true (show i < 32 by omega), Bool.true_and, decide_eq_false (show ¬ 64 ≤ i by omega), Bool.not_false, Bool.true_and, if_pos (by omega), BitVec.getLsbD_ofNat, decide_eq_true (show k + i < 64 by omega), Bool.true_and, Nat.add_comm]
  · rw [decide_eq_false h8, Bool.false_and, Bool.false_and]
/-- what stays over writing -/
def MWq (σ σ' : MSt) : Prop := (MFr σ σ' ∧ mf_errorPlace σ' = mf_errorPlace σ ∧ mf_fault σ' = mf_fault σ) ∧ (mf_sorts σ' = mf_sorts σ ∧ mf_numbers σ' = mf_numbers σ ∧ mf_places σ' = mf_places σ ∧ mf_things σ' = mf_things σ) ∧ (mf_letters σ' = mf_letters σ ∧ mf_lettersMany σ' = mf_lettersMany σ) ∧ mf_open σ' = mf_open σ ∧ mf_openThing σ' = mf_openThing σ ∧ mf_openLeft σ' = mf_openLeft σ
theorem MWq.rfl' (σ : MSt) : MWq σ σ := ⟨⟨MFr_rfl σ, rfl, rfl⟩, ⟨rfl, rfl, rfl, rfl⟩, ⟨rfl, rfl⟩, rfl, rfl, rfl⟩
theorem MWq.trans {a b c : MSt} (h : MWq a b) (g : MWq b c) : MWq a c := by
  obtain ⟨⟨h1, h2, h3⟩, ⟨h4, h5, h6, h7⟩, ⟨h8, h9⟩, ha, hb, hc⟩ := h
  obtain ⟨⟨g1, g2, g3⟩, ⟨g4, g5, g6, g7⟩, ⟨g8, g9⟩, ga, gb, gc⟩ := g
  exact ⟨⟨h1.trans g1, g2.trans h2, g3.trans h3⟩, ⟨g4.trans h4, g5.trans h5, g6.trans h6, g7.trans h7⟩, ⟨g8.trans h8, g9.trans h9⟩, ga.trans ha, gb.trans hb, gc.trans hc⟩
/-- what is written so far -/
def MFs (σ : MSt) (l : List Nat) : Prop := mf_freshMany σ = nI l.length ∧ ∀ i, i < l.length → i < 6000 → mf_fresh σ i = bb (l.getD i 0)
theorem m_put {σ : MSt} {l : List Nat} (h : MFs σ l) (hl : l.length < 2 ^ 30) (v : Int32) : ∃ σ', mm_put v σ = some σ' ∧ MWq σ σ' ∧ MFs σ' (l ++ [lowb v]) := by
  unfold mm_put mm_put_b21
  rw [h.1]
  by_cases c : l.length < 6000
  · rw [if_neg (show ¬ (6000 : Int32) ≤ nI l.length from nI_ge c (by decide)), ck_in (vp_in_nI c (by decide))]
    refine ⟨_, rfl, ?_, ?_, ?_⟩
    · unfold MWq MFr
      simp only [mG_thrown_fresh, mG_tape_fresh, mG_taped_fresh, mG_depth_fresh, mG_room_fresh, mG_written_fresh, mG_writtenMany_fresh, mG_errorPlace_fresh, mG_sorts_fresh, mG_numbers_fresh, mG_places_fresh, mG_things_fresh, mG_letters_fresh, mG_lettersMany_fresh, mG_openThing_fresh, mG_openLeft_fresh, mG_open_fresh, mG_at_fresh, mG_fault_fresh, mG_fresh_fresh, mG_freshMany_fresh, mG_figures_fresh, mG_thrown_freshMany, mG_tape_freshMany, mG_taped_freshMany, mG_depth_freshMany, mG_room_freshMany, mG_written_freshMany, mG_writtenMany_freshMany, mG_errorPlace_freshMany, mG_sorts_freshMany, mG_numbers_freshMany, mG_places_freshMany, mG_things_freshMany, mG_letters_freshMany, mG_lettersMany_freshMany, mG_openThing_freshMany, mG_openLeft_freshMany, mG_open_freshMany, mG_at_freshMany, mG_fault_freshMany, mG_fresh_freshMany, mG_freshMany_freshMany, mG_figures_freshMany, and_self]
    · simp only [mG_thrown_fresh, mG_tape_fresh, mG_taped_fresh, mG_depth_fresh, mG_room_fresh, mG_written_fresh, mG_writtenMany_fresh, mG_errorPlace_fresh, mG_sorts_fresh, mG_numbers_fresh, mG_places_fresh, mG_things_fresh, mG_letters_fresh, mG_lettersMany_fresh, mG_openThing_fresh, mG_openLeft_fresh, mG_open_fresh, mG_at_fresh, mG_fault_fresh, mG_fresh_fresh, mG_freshMany_fresh, mG_figures_fresh, mG_thrown_freshMany, mG_tape_freshMany, mG_taped_freshMany, mG_depth_freshMany, mG_room_freshMany, mG_written_freshMany, mG_writtenMany_freshMany, mG_errorPlace_freshMany, mG_sorts_freshMany, mG_numbers_freshMany, mG_places_freshMany, mG_things_freshMany, mG_letters_freshMany, mG_lettersMany_freshMany, mG_openThing_freshMany, mG_openLeft_freshMany, mG_open_freshMany, mG_at_freshMany, mG_fault_freshMany, mG_fresh_freshMany, mG_freshMany_freshMany, mG_figures_freshMany]
      rw [h.1, nI_1, List.length_append]
      rfl
    · intro i hi hi6
      rw [List.length_append, List.length_singleton] at hi
      simp only [mG_thrown_fresh, mG_tape_fresh, mG_taped_fresh, mG_depth_fresh, mG_room_fresh, mG_written_fresh, mG_writtenMany_fresh, mG_errorPlace_fresh, mG_sorts_fresh, mG_numbers_fresh, mG_places_fresh, mG_things_fresh, mG_letters_fresh, mG_lettersMany_fresh, mG_openThing_fresh, mG_openLeft_fresh, mG_open_fresh, mG_at_fresh, mG_fault_fresh, mG_fresh_fresh, mG_freshMany_fresh, mG_figures_fresh, mG_thrown_freshMany, mG_tape_freshMany, mG_taped_freshMany, mG_depth_freshMany, mG_room_freshMany, mG_written_freshMany, mG_writtenMany_freshMany, mG_errorPlace_freshMany, mG_sorts_freshMany, mG_numbers_freshMany, mG_places_freshMany, mG_things_freshMany, mG_letters_freshMany, mG_lettersMany_freshMany, mG_openThing_freshMany, mG_openLeft_freshMany, mG_open_freshMany, mG_at_freshMany, mG_fault_freshMany, mG_fresh_freshMany, mG_freshMany_freshMany, mG_figures_freshMany]
      rw [nI_clamp (by omega), bb_nar, getD_snoc hi]
      by_cases e : i = l.length
      · rw [if_pos e, e, pk_us]
      · rw [if_neg e, pk_un e, h.2 i (by omega) hi6]
  · rw [if_pos (show (6000 : Int32) ≤ nI l.length from nI_le (a := 6000) (by omega) (by omega))]
    refine ⟨_, rfl, ?_, ?_, ?_⟩
    · unfold MWq MFr
      simp only [mG_thrown_freshMany, mG_tape_freshMany, mG_taped_freshMany, mG_depth_freshMany, mG_room_freshMany, mG_written_freshMany, mG_writtenMany_freshMany, mG_errorPlace_freshMany, mG_sorts_freshMany, mG_numbers_freshMany, mG_places_freshMany, mG_things_freshMany, mG_letters_freshMany, mG_lettersMany_freshMany, mG_openThing_freshMany, mG_openLeft_freshMany, mG_open_freshMany, mG_at_freshMany, mG_fault_freshMany, mG_fresh_freshMany, mG_freshMany_freshMany, mG_figures_freshMany, and_self]
    · simp only [mG_thrown_freshMany, mG_tape_freshMany, mG_taped_freshMany, mG_depth_freshMany, mG_room_freshMany, mG_written_freshMany, mG_writtenMany_freshMany, mG_errorPlace_freshMany, mG_sorts_freshMany, mG_numbers_freshMany, mG_places_freshMany, mG_things_freshMany, mG_letters_freshMany, mG_lettersMany_freshMany, mG_openThing_freshMany, mG_openLeft_freshMany, mG_open_freshMany, mG_at_freshMany, mG_fault_freshMany, mG_fresh_freshMany, mG_freshMany_freshMany, mG_figures_freshMany]
      rw [nI_1, List.length_append]
      rfl
    · intro i hi hi6
      rw [List.length_append, List.length_singleton] at hi
      simp only [mG_thrown_freshMany, mG_tape_freshMany, mG_taped_freshMany, mG_depth_freshMany, mG_room_freshMany, mG_written_freshMany, mG_writtenMany_freshMany, mG_errorPlace_freshMany, mG_sorts_freshMany, mG_numbers_freshMany, mG_places_freshMany, mG_things_freshMany, mG_letters_freshMany, mG_lettersMany_freshMany, mG_openThing_freshMany, mG_openLeft_freshMany, mG_open_freshMany, mG_at_freshMany, mG_fault_freshMany, mG_fresh_freshMany, mG_freshMany_freshMany, mG_figures_freshMany]
      rw [getD_snoc hi, if_neg (by omega), h.2 i (by omega) hi6]
theorem m_putN {σ : MSt} {l : List Nat} (h : MFs σ l) (hl : l.length < 2 ^ 30) {n : Nat} (hn : n < 256) {v : Int32} (hv : v = nI n) : ∃ σ', mm_put v σ = some σ' ∧ MWq σ σ' ∧ MFs σ' (l ++ [n]) := by
  have := m_put h hl v
  rw [hv, lowb_byte hn] at this
  rw [hv]
  exact this
theorem be_succ (m u : Nat) : be (m + 1) u = (u / 2 ^ (8 * m) % 256) :: be m u := by
  unfold be
  rw [List.range_succ_eq_map, List.map_cons, List.map_map]
  have e : ((fun i => u / 2 ^ (8 * (m + 1 - 1 - i)) % 256) ∘ Nat.succ) = (fun i => u / 2 ^ (8 * (m - 1 - i)) % 256) := by
    funext i
    show u / 2 ^ (8 * (m + 1 - 1 - (i + 1))) % 256 = _
    rw [show m + 1 - 1 - (i + 1) = m - 1 - i by omega]
  rw [e]
  rfl
theorem puts_loop {u : Nat} (hu : u < 2 ^ 64) : ∀ (m f : Nat) (σ : MSt) (l : List Nat), m ≤ 8 → m < f → MFs σ l → l.length + m < 2 ^ 30 → ∃ σ', mm_puts_L135 f (lN u) (nI (8 * m) - 8) σ = some σ' ∧ MWq σ σ' ∧ MFs σ' (l ++ be m u) := by
  intro m
  induction m with
  | zero =>
    intro f σ l hm hf h hl
    obtain ⟨f, rfl⟩ : ∃ g, f = g + 1 := ⟨f - 1, by omega⟩
    refine ⟨σ, ?_, MWq.rfl' σ, by rw [show be 0 u = [] from rfl, List.append_nil]; exact h⟩
    show mm_puts_b135 _ _ _ σ = _
    unfold mm_puts_b135
    rw [if_pos (by decide)]
  | succ m ih =>
    intro f σ l hm hf h hl
    obtain ⟨f, rfl⟩ : ∃ g, f = g + 1 := ⟨f - 1, by omega⟩
    show ∃ σ', mm_puts_b135 (mm_puts_L135 f) (lN u) (nI (8 * (m + 1)) - 8) σ = _ ∧ _
    unfold mm_puts_b135
    rw [show nI (8 * (m + 1)) - 8 = nI (8 * m) from pk_sub (b := 8) (by omega), if_neg (nI_pos (by omega)), byte_of hu (by omega)]
    obtain ⟨σ1, e1, q1, l1⟩ := m_putN h (by omega) (n := u / 2 ^ (8 * m) % 256) (Nat.mod_lt _ (by decide)) rfl
    rw [bd_of e1]
    simp only [lt]
    obtain ⟨σ2, e2, q2, l2⟩ := ih f σ1 _ (by omega) (by omega) l1 (by rw [List.length_append, List.length_singleton]; omega)
    refine ⟨σ2, ?_, q1.trans q2, ?_⟩
    · rw [show nI (8 * m) + (-8 : Int32) = nI (8 * m) - 8 by rw [Int32.sub_eq_add_neg], e2]
    · rw [be_succ]
      rw [List.append_assoc] at l2
      exact l2
theorem lN_neg {u : Nat} (h : 2 ^ 63 ≤ u) (hu : u < 2 ^ 64) : lN u < (0 : Int64) := by
  rw [show (0 : Int64) = lN 0 from rfl, Int64.lt_iff_toInt_lt, pk_lT (show 0 < 2 ^ 63 by decide), lN_ti hu, if_neg (by omega)]
  omega
theorem lN_nneg {u : Nat} (h : u < 2 ^ 63) : ¬ lN u < (0 : Int64) := by
  rw [show (0 : Int64) = lN 0 from rfl, Int64.lt_iff_toInt_lt, pk_lT (show 0 < 2 ^ 63 by decide), pk_lT h]
  omega
theorem m_puts {σ : MSt} {l : List Nat} {s u : Nat} (hs : s < 8) (hu : u < 2 ^ 64) (h : MFs σ l) (hl : l.length + 10 < 2 ^ 30) : ∃ σ', mm_puts (nI s) (lN u) σ = some σ' ∧ MWq σ σ' ∧ MFs σ' (l ++ hd s u) := by
  have b121 : ∀ (n i : Nat) (si : Int32), si = nI i → n ≤ 8 → i < 28 → nb u = n → inf u = i → ∃ σ', mm_puts_b121 (lN u) (nI n) si ((32 : Int32) * nI s) σ = some σ' ∧ MWq σ σ' ∧ MFs σ' (l ++ hd s u) := by
    intro n i si hsi hn hi en ei
    unfold mm_puts_b121
    obtain ⟨σ1, e1, q1, l1⟩ := m_putN h (by omega) (n := 32 * s + i) (v := ((32 : Int32) * nI s) + si) (by omega) (by rw [show (32 : Int32) * nI s = nI (32 * s) from pk_mul 32 s, hsi, nI_add])
    rw [bd_of e1]
    simp only [lt]
    obtain ⟨σ2, e2, q2, l2⟩ := puts_loop hu n FU σ1 _ hn (by show n < 100000; omega) l1 (by rw [List.length_append, List.length_singleton]; omega)
    refine ⟨σ2, ?_, q1.trans q2, ?_⟩
    · rw [show (8 : Int32) * nI n = nI (8 * n) from pk_mul 8 n, e2]
    · unfold hd
      rw [en, ei]
      rw [List.append_assoc] at l2
      exact l2
  have b69 : ∀ n, nb u = n → ∃ σ', mm_puts_b69 (nI s) (lN u) (nI n) σ = some σ' ∧ MWq σ σ' ∧ MFs σ' (l ++ hd s u) := by
    intro n en
    unfold mm_puts_b69
    by_cases c0 : u < 24
    · have en0 : nb u = 0 := by unfold nb; rw [if_pos c0]
      rw [show n = 0 by omega, if_pos (show nI 0 = 0 from rfl), lN_i]
      exact b121 0 u (nI u) rfl (by decide) (by omega) en0 (by unfold inf; rw [if_pos c0])
    by_cases c1 : u < 256
    · have en0 : nb u = 1 := by unfold nb; rw [if_neg c0, if_pos c1]
      rw [show n = 1 by omega, if_neg (by decide), if_pos (by decide)]
      exact b121 1 24 24 rfl (by decide) (by decide) en0 (by unfold inf; rw [if_neg c0, if_pos c1])
    by_cases c2 : u < 65536
    · have en0 : nb u = 2 := by unfold nb; rw [if_neg c0, if_neg c1, if_pos c2]
      rw [show n = 2 by omega, if_neg (by decide), if_neg (by decide), if_pos (by decide)]
      exact b121 2 25 25 rfl (by decide) (by decide) en0 (by unfold inf; rw [if_neg c0, if_neg c1, if_pos c2])
    by_cases c3 : u < 4294967296
    · have en0 : nb u = 4 := by unfold nb; rw [if_neg c0, if_neg c1, if_neg c2, if_pos c3]
      rw [show n = 4 by omega, if_neg (by decide), if_neg (by decide), if_neg (by decide), if_pos (by decide)]
      exact b121 4 26 26 rfl (by decide) (by decide) en0 (by unfold inf; rw [if_neg c0, if_neg c1, if_neg c2, if_pos c3])
    · have en0 : nb u = 8 := by unfold nb; rw [if_neg c0, if_neg c1, if_neg c2, if_neg c3]
      rw [show n = 8 by omega, if_neg (by decide), if_neg (by decide), if_neg (by decide), if_neg (by decide)]
      exact b121 8 27 27 rfl (by decide) (by decide) en0 (by unfold inf; rw [if_neg c0, if_neg c1, if_neg c2, if_neg c3])
  have b54 : ¬ u < 65536 → ∃ σ', mm_puts_b54 (nI s) (lN u) σ = some σ' ∧ MWq σ σ' ∧ MFs σ' (l ++ hd s u) := by
    intro c2
    unfold mm_puts_b54
    rw [show (Int64.toUInt64 (lN u) >>> ((Int32.toInt64 (32 : Int32)).toUInt64 &&& Int64.toUInt64 63)).toInt64 = lN (u / 2 ^ 32) from wb_shr (k := 32) hu (by decide)]
    by_cases c3 : u < 4294967296
    · rw [show u / 2 ^ 32 = 0 by omega, if_pos (show lN 0 = (0 : Int64) from rfl)]
      exact b69 4 (by unfold nb; rw [if_neg (by omega), if_neg (by omega), if_neg c2, if_pos c3])
    · rw [if_neg (show ¬ lN (u / 2 ^ 32) = (0 : Int64) from fun z => by
        have := (pk_lEQ (a := u / 2 ^ 32) (b := 0) (by omega) (by decide)).mp z
        omega)]
      exact b69 8 (by unfold nb; rw [if_neg (by omega), if_neg (by omega), if_neg c2, if_neg c3])
  unfold mm_puts mm_puts_b18 mm_puts_b36
  by_cases cn : u < 2 ^ 63
  · have leL : ∀ m : Nat, m < 2 ^ 63 → (lN m ≤ lN u ↔ m ≤ u) := fun m hm => pk_lLE hm cn
    rw [if_neg (lN_nneg cn), if_neg (lN_nneg cn), if_neg (lN_nneg cn)]
    by_cases c0 : u < 24
    · rw [if_neg (show ¬ (24 : Int64) ≤ lN u from fun z => by have := (leL 24 (by decide)).mp z; omega)]
      exact b69 0 (by unfold nb; rw [if_pos c0])
    rw [if_pos (show (24 : Int64) ≤ lN u from (leL 24 (by decide)).mpr (by omega))]
    by_cases c1 : u < 256
    · rw [if_neg (show ¬ (256 : Int64) ≤ lN u from fun z => by have := (leL 256 (by decide)).mp z; omega)]
      exact b69 1 (by unfold nb; rw [if_neg c0, if_pos c1])
    rw [if_pos (show (256 : Int64) ≤ lN u from (leL 256 (by decide)).mpr (by omega))]
    by_cases c2 : u < 65536
    · rw [if_neg (show ¬ (65536 : Int64) ≤ lN u from fun z => by have := (leL 65536 (by decide)).mp z; omega)]
      exact b69 2 (by unfold nb; rw [if_neg c0, if_neg c1, if_pos c2])
    rw [if_pos (show (65536 : Int64) ≤ lN u from (leL 65536 (by decide)).mpr (by omega))]
    exact b54 c2
  · rw [if_pos (lN_neg (by omega) hu), if_pos (lN_neg (by omega) hu), if_pos (lN_neg (by omega) hu)]
    exact b54 (by omega)
theorem lowb_bb {x : Nat} (h : x < 256) : lowb (bb x) = x := by
  have : ∀ v, v < 256 → lowb (bb v) = v := by decide +kernel
  exact this x h
theorem bb_vb (x : Nat) : vp_nar .byte (bb x) = bb x := pk_vb _
