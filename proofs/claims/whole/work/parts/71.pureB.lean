/-! PURE B: the invariant, and the steps that read or write no text -/
def Inv (τ : TSt) (σ : MSt) : Prop := ∃ (tp wr dr : List Nat) (d rm : Nat),
  (RowL 4000 (tf_tape τ) tp ∧ tp.length ≤ 4000) ∧ (RowL 6000 (tf_written τ) wr ∧ wr.length ≤ 6000) ∧ (RowL 0 (tf_measure τ) dr ∧ dr.length < 2 ^ 30) ∧
  (tf_depth τ = nI d ∧ mf_depth σ = nI d ∧ d ≤ 40) ∧ (tf_room τ = nI rm ∧ mf_room σ = nI rm ∧ rm ≤ 6000) ∧
  (mf_taped σ = nI tp.length ∧ ∀ i, i < tp.length → mf_tape σ i = nI (tp.getD i 0)) ∧
  (mf_writtenMany σ = nI wr.length ∧ ∀ i, i < wr.length → mf_written σ i = bb (wr.getD i 0)) ∧
  tf_faultPlace τ = mf_errorPlace σ
theorem inv0 : Inv t0 m0 := by
  refine ⟨[], [], [], 20, 4000, ⟨⟨rfl, ?_, ?_⟩, by decide⟩, ⟨⟨rfl, ?_, ?_⟩, by decide⟩, ⟨⟨rfl, ?_, ?_⟩, by decide⟩, ⟨rfl, rfl, by decide⟩, ⟨rfl, rfl, by decide⟩, ⟨rfl, ?_⟩, ⟨rfl, ?_⟩, rfl⟩
  all_goals (first | (intro i hi; exact absurd hi (Nat.not_lt_zero _)) | (intro x hx; exact absurd hx List.not_mem_nil))
theorem inv_thrown {τ : TSt} {σ : MSt} (h : Inv τ σ) (v : Int32) : Inv τ (ms_thrown σ v) := by
  obtain ⟨tp, wr, dr, d, rm, h1, h2, h3, h4, h5, h6, h7, h8⟩ := h
  refine ⟨tp, wr, dr, d, rm, h1, h2, h3, ?_, ?_, ?_, ?_, ?_⟩
  all_goals (simp only [mG_thrown_thrown, mG_tape_thrown, mG_taped_thrown, mG_depth_thrown, mG_room_thrown, mG_written_thrown, mG_writtenMany_thrown, mG_errorPlace_thrown, mG_sorts_thrown, mG_numbers_thrown, mG_places_thrown, mG_things_thrown, mG_letters_thrown, mG_lettersMany_thrown, mG_openThing_thrown, mG_openLeft_thrown, mG_open_thrown, mG_at_thrown, mG_fault_thrown, mG_fresh_thrown, mG_freshMany_thrown, mG_figures_thrown]; assumption)
theorem ts_tape_id (τ : TSt) : ts_tape τ (tf_tape τ) = τ := rfl
theorem ts_written_id (τ : TSt) : ts_written τ (tf_written τ) = τ := rfl
theorem st_errorAt {τ : TSt} {σ : MSt} (h : Inv τ σ) : ∃ (r : Int32) (τ' : TSt) (σ' : MSt), tt_errorAt τ = some (r, τ') ∧ mm_errorAt σ = some (r, σ') ∧ Inv τ' σ' := by
  refine ⟨tf_faultPlace τ, τ, ms_thrown σ 0, rfl, ?_, inv_thrown h 0⟩
  obtain ⟨tp, wr, dr, d, rm, h1, h2, h3, h4, h5, h6, h7, h8⟩ := h
  rw [h8]
  rfl
theorem st_outSize {τ : TSt} {σ : MSt} (h : Inv τ σ) : ∃ (r : Int32) (τ' : TSt) (σ' : MSt), tt_outSize τ = some (r, τ') ∧ mm_outSize σ = some (r, σ') ∧ Inv τ' σ' := by
  refine ⟨rf_sz (tf_written τ), τ, ms_thrown σ 0, rfl, ?_, inv_thrown h 0⟩
  obtain ⟨tp, wr, dr, d, rm, h1, h2, h3, h4, h5, h6, h7, h8⟩ := h
  rw [h2.1.1, ← h7.1]
  rfl
theorem i32_cases (x : Int32) : x < 0 ∨ ∃ n : Nat, n < 2 ^ 31 ∧ x = nI n := by
  by_cases h : x < 0
  · exact Or.inl h
  · exact Or.inr (nI_of h)
theorem st_out {τ : TSt} {σ : MSt} (a : Int32) (h : Inv τ σ) : ∃ (r : Int32) (τ' : TSt) (σ' : MSt), tt_out a τ = some (r, τ') ∧ mm_out a σ = some (r, σ') ∧ Inv τ' σ' := by
  have hi := inv_thrown h 0
  obtain ⟨tp, wr, dr, d, rm, h1, h2, h3, h4, h5, h6, h7, h8⟩ := h
  unfold tt_out mm_out
  rcases i32_cases a with c | ⟨n, hn, rfl⟩
  · refine ⟨-1, τ, ms_thrown σ 0, ?_, if_pos c, hi⟩
    rw [bd_of (rr_at_neg c)]
    rfl
  · refine ⟨gL wr n, τ, ms_thrown σ 0, ?_, ?_, hi⟩
    · rw [bd_of (rr_at_row h2.1 h2.2 (by decide) hn)]
      rfl
    · rw [if_neg (nI_pos hn), h7.1]
      by_cases c : n < wr.length
      · rw [if_pos (nI_lt c (by omega)), ck_in (vp_in_nI (by omega) (by decide)), nI_clamp hn, h7.2 n c, bb_and (getD_lt h2.1.2.2 n), gL_in c]
      · rw [if_neg (nI_nlt (by omega) hn), gL_out (by omega)]
theorem st_bounds {τ : TSt} {σ : MSt} (a b : Int32) (h : Inv τ σ) : ∃ (r : Bool) (τ' : TSt) (σ' : MSt), tt_bounds a b τ = some (r, τ') ∧ mm_bounds a b σ = some (r, σ') ∧ Inv τ' σ' := by
  have hi := inv_thrown h 0
  unfold tt_bounds mm_bounds
  by_cases c1 : a < 0
  · exact ⟨false, τ, ms_thrown σ 0, if_pos c1, if_pos c1, hi⟩
  by_cases c2 : (40 : Int32) < a
  · exact ⟨false, τ, ms_thrown σ 0, by rw [if_neg c1, if_pos c2], by rw [if_neg c1, if_pos c2], hi⟩
  by_cases c3 : b < 0
  · exact ⟨false, τ, ms_thrown σ 0, by rw [if_neg c1, if_neg c2, if_pos c3], by rw [if_neg c1, if_neg c2, if_pos c3], hi⟩
  by_cases c4 : b ≤ (6000 : Int32)
  · refine ⟨true, ts_room (ts_depth τ a) b, ms_room (ms_depth (ms_thrown σ 0) a) b, by rw [if_neg c1, if_neg c2, if_neg c3, if_pos c4], by rw [if_neg c1, if_neg c2, if_neg c3, if_pos c4], ?_⟩
    obtain ⟨tp, wr, dr, d, rm, h1, h2, h3, h4, h5, h6, h7, h8⟩ := hi
    obtain ⟨n, hn, rfl⟩ := nI_of2 (M := 40) (n := 40) (by decide) c1 (Int32.not_lt.mp c2)
    obtain ⟨k, hk, rfl⟩ := nI_of2 (M := 6000) (n := 6000) (by decide) c3 c4
    refine ⟨tp, wr, dr, n, k, ?_, ?_, ?_, ⟨?_, ?_, hn⟩, ⟨?_, ?_, hk⟩, ?_, ?_, ?_⟩
    all_goals (simp only [tG_depth_depth, tG_depth_room, tG_depth_faultPlace, tG_depth_tape, tG_depth_written, tG_depth_measure, tG_room_depth, tG_room_room, tG_room_faultPlace, tG_room_tape, tG_room_written, tG_room_measure, tG_faultPlace_depth, tG_faultPlace_room, tG_faultPlace_faultPlace, tG_faultPlace_tape, tG_faultPlace_written, tG_faultPlace_measure, tG_tape_depth, tG_tape_room, tG_tape_faultPlace, tG_tape_tape, tG_tape_written, tG_tape_measure, tG_written_depth, tG_written_room, tG_written_faultPlace, tG_written_tape, tG_written_written, tG_written_measure, tG_measure_depth, tG_measure_room, tG_measure_faultPlace, tG_measure_tape, tG_measure_written, tG_measure_measure, mG_thrown_room, mG_tape_room, mG_taped_room, mG_depth_room, mG_room_room, mG_written_room, mG_writtenMany_room, mG_errorPlace_room, mG_sorts_room, mG_numbers_room, mG_places_room, mG_things_room, mG_letters_room, mG_lettersMany_room, mG_openThing_room, mG_openLeft_room, mG_open_room, mG_at_room, mG_fault_room, mG_fresh_room, mG_freshMany_room, mG_figures_room, mG_thrown_depth, mG_tape_depth, mG_taped_depth, mG_depth_depth, mG_room_depth, mG_written_depth, mG_writtenMany_depth, mG_errorPlace_depth, mG_sorts_depth, mG_numbers_depth, mG_places_depth, mG_things_depth, mG_letters_depth, mG_lettersMany_depth, mG_openThing_depth, mG_openLeft_depth, mG_open_depth, mG_at_depth, mG_fault_depth, mG_fresh_depth, mG_freshMany_depth, mG_figures_depth]; try assumption)
  · exact ⟨false, τ, ms_thrown σ 0, by rw [if_neg c1, if_neg c2, if_neg c3, if_neg c4], by rw [if_neg c1, if_neg c2, if_neg c3, if_neg c4], hi⟩
theorem st_end {τ : TSt} {σ : MSt} (a : Int32) (h : Inv τ σ) : ∃ (r : Int32) (τ' : TSt) (σ' : MSt), tt_end a τ = some (r, τ') ∧ mm_end a σ = some (r, σ') ∧ Inv τ' σ' := by
  have hi := inv_thrown h 0
  unfold tt_end mm_end
  rcases i32_cases a with c | ⟨n, hn, rfl⟩
  · exact ⟨-1, τ, ms_thrown σ 0, if_pos c, if_pos c, hi⟩
  · rw [if_neg (nI_pos hn), if_neg (nI_pos hn), bd_of (rr_size_eq _ _)]
    obtain ⟨tp, wr, dr, d, rm, h1, h2, h3, h4, h5, h6, h7, h8⟩ := h
    rw [h1.1.1, h6.1]
    by_cases c : n ≤ tp.length
    · obtain ⟨e1, e2⟩ := rr_cut_row h1.1 (by omega) c
      rw [if_pos (nI_le c (by omega)), if_pos (nI_le c (by omega)), bd_of e1]
      refine ⟨nI n, _, _, rfl, rfl, tp.take n, wr, dr, d, rm, ⟨?_, ?_⟩, ?_, ?_, ?_, ?_, ⟨?_, ?_⟩, ?_, ?_⟩
      · simp only [tG_depth_depth, tG_depth_room, tG_depth_faultPlace, tG_depth_tape, tG_depth_written, tG_depth_measure, tG_room_depth, tG_room_room, tG_room_faultPlace, tG_room_tape, tG_room_written, tG_room_measure, tG_faultPlace_depth, tG_faultPlace_room, tG_faultPlace_faultPlace, tG_faultPlace_tape, tG_faultPlace_written, tG_faultPlace_measure, tG_tape_depth, tG_tape_room, tG_tape_faultPlace, tG_tape_tape, tG_tape_written, tG_tape_measure, tG_written_depth, tG_written_room, tG_written_faultPlace, tG_written_tape, tG_written_written, tG_written_measure, tG_measure_depth, tG_measure_room, tG_measure_faultPlace, tG_measure_tape, tG_measure_written, tG_measure_measure]; exact e2
      · rw [List.length_take]; omega
      · simp only [tG_depth_depth, tG_depth_room, tG_depth_faultPlace, tG_depth_tape, tG_depth_written, tG_depth_measure, tG_room_depth, tG_room_room, tG_room_faultPlace, tG_room_tape, tG_room_written, tG_room_measure, tG_faultPlace_depth, tG_faultPlace_room, tG_faultPlace_faultPlace, tG_faultPlace_tape, tG_faultPlace_written, tG_faultPlace_measure, tG_tape_depth, tG_tape_room, tG_tape_faultPlace, tG_tape_tape, tG_tape_written, tG_tape_measure, tG_written_depth, tG_written_room, tG_written_faultPlace, tG_written_tape, tG_written_written, tG_written_measure, tG_measure_depth, tG_measure_room, tG_measure_faultPlace, tG_measure_tape, tG_measure_written, tG_measure_measure]; exact h2
      · simp only [tG_depth_depth, tG_depth_room, tG_depth_faultPlace, tG_depth_tape, tG_depth_written, tG_depth_measure, tG_room_depth, tG_room_room, tG_room_faultPlace, tG_room_tape, tG_room_written, tG_room_measure, tG_faultPlace_depth, tG_faultPlace_room, tG_faultPlace_faultPlace, tG_faultPlace_tape, tG_faultPlace_written, tG_faultPlace_measure, tG_tape_depth, tG_tape_room, tG_tape_faultPlace, tG_tape_tape, tG_tape_written, tG_tape_measure, tG_written_depth, tG_written_room, tG_written_faultPlace, tG_written_tape, tG_written_written, tG_written_measure, tG_measure_depth, tG_measure_room, tG_measure_faultPlace, tG_measure_tape, tG_measure_written, tG_measure_measure]; exact h3
      · simp only [tG_depth_depth, tG_depth_room, tG_depth_faultPlace, tG_depth_tape, tG_depth_written, tG_depth_measure, tG_room_depth, tG_room_room, tG_room_faultPlace, tG_room_tape, tG_room_written, tG_room_measure, tG_faultPlace_depth, tG_faultPlace_room, tG_faultPlace_faultPlace, tG_faultPlace_tape, tG_faultPlace_written, tG_faultPlace_measure, tG_tape_depth, tG_tape_room, tG_tape_faultPlace, tG_tape_tape, tG_tape_written, tG_tape_measure, tG_written_depth, tG_written_room, tG_written_faultPlace, tG_written_tape, tG_written_written, tG_written_measure, tG_measure_depth, tG_measure_room, tG_measure_faultPlace, tG_measure_tape, tG_measure_written, tG_measure_measure, mG_thrown_taped, mG_tape_taped, mG_taped_taped, mG_depth_taped, mG_room_taped, mG_written_taped, mG_writtenMany_taped, mG_errorPlace_taped, mG_sorts_taped, mG_numbers_taped, mG_places_taped, mG_things_taped, mG_letters_taped, mG_lettersMany_taped, mG_openThing_taped, mG_openLeft_taped, mG_open_taped, mG_at_taped, mG_fault_taped, mG_fresh_taped, mG_freshMany_taped, mG_figures_taped, mG_thrown_thrown, mG_tape_thrown, mG_taped_thrown, mG_depth_thrown, mG_room_thrown, mG_written_thrown, mG_writtenMany_thrown, mG_errorPlace_thrown, mG_sorts_thrown, mG_numbers_thrown, mG_places_thrown, mG_things_thrown, mG_letters_thrown, mG_lettersMany_thrown, mG_openThing_thrown, mG_openLeft_thrown, mG_open_thrown, mG_at_thrown, mG_fault_thrown, mG_fresh_thrown, mG_freshMany_thrown, mG_figures_thrown]; exact h4
      · simp only [tG_depth_depth, tG_depth_room, tG_depth_faultPlace, tG_depth_tape, tG_depth_written, tG_depth_measure, tG_room_depth, tG_room_room, tG_room_faultPlace, tG_room_tape, tG_room_written, tG_room_measure, tG_faultPlace_depth, tG_faultPlace_room, tG_faultPlace_faultPlace, tG_faultPlace_tape, tG_faultPlace_written, tG_faultPlace_measure, tG_tape_depth, tG_tape_room, tG_tape_faultPlace, tG_tape_tape, tG_tape_written, tG_tape_measure, tG_written_depth, tG_written_room, tG_written_faultPlace, tG_written_tape, tG_written_written, tG_written_measure, tG_measure_depth, tG_measure_room, tG_measure_faultPlace, tG_measure_tape, tG_measure_written, tG_measure_measure, mG_thrown_taped, mG_tape_taped, mG_taped_taped, mG_depth_taped, mG_room_taped, mG_written_taped, mG_writtenMany_taped, mG_errorPlace_taped, mG_sorts_taped, mG_numbers_taped, mG_places_taped, mG_things_taped, mG_letters_taped, mG_lettersMany_taped, mG_openThing_taped, mG_openLeft_taped, mG_open_taped, mG_at_taped, mG_fault_taped, mG_fresh_taped, mG_freshMany_taped, mG_figures_taped, mG_thrown_thrown, mG_tape_thrown, mG_taped_thrown, mG_depth_thrown, mG_room_thrown, mG_written_thrown, mG_writtenMany_thrown, mG_errorPlace_thrown, mG_sorts_thrown, mG_numbers_thrown, mG_places_thrown, mG_things_thrown, mG_letters_thrown, mG_lettersMany_thrown, mG_openThing_thrown, mG_openLeft_thrown, mG_open_thrown, mG_at_thrown, mG_fault_thrown, mG_fresh_thrown, mG_freshMany_thrown, mG_figures_thrown]; exact h5
      · simp only [mG_thrown_taped, mG_tape_taped, mG_taped_taped, mG_depth_taped, mG_room_taped, mG_written_taped, mG_writtenMany_taped, mG_errorPlace_taped, mG_sorts_taped, mG_numbers_taped, mG_places_taped, mG_things_taped, mG_letters_taped, mG_lettersMany_taped, mG_openThing_taped, mG_openLeft_taped, mG_open_taped, mG_at_taped, mG_fault_taped, mG_fresh_taped, mG_freshMany_taped, mG_figures_taped]; rw [List.length_take, Nat.min_eq_left c]
      · intro i hi2
        rw [List.length_take] at hi2
        simp only [mG_thrown_taped, mG_tape_taped, mG_taped_taped, mG_depth_taped, mG_room_taped, mG_written_taped, mG_writtenMany_taped, mG_errorPlace_taped, mG_sorts_taped, mG_numbers_taped, mG_places_taped, mG_things_taped, mG_letters_taped, mG_lettersMany_taped, mG_openThing_taped, mG_openLeft_taped, mG_open_taped, mG_at_taped, mG_fault_taped, mG_fresh_taped, mG_freshMany_taped, mG_figures_taped, mG_thrown_thrown, mG_tape_thrown, mG_taped_thrown, mG_depth_thrown, mG_room_thrown, mG_written_thrown, mG_writtenMany_thrown, mG_errorPlace_thrown, mG_sorts_thrown, mG_numbers_thrown, mG_places_thrown, mG_things_thrown, mG_letters_thrown, mG_lettersMany_thrown, mG_openThing_thrown, mG_openLeft_thrown, mG_open_thrown, mG_at_thrown, mG_fault_thrown, mG_fresh_thrown, mG_freshMany_thrown, mG_figures_thrown]
        rw [h6.2 i (by omega), List.getD_eq_getElem?_getD, List.getD_eq_getElem?_getD, List.getElem?_take_of_lt (by omega)]
      · simp only [mG_thrown_taped, mG_tape_taped, mG_taped_taped, mG_depth_taped, mG_room_taped, mG_written_taped, mG_writtenMany_taped, mG_errorPlace_taped, mG_sorts_taped, mG_numbers_taped, mG_places_taped, mG_things_taped, mG_letters_taped, mG_lettersMany_taped, mG_openThing_taped, mG_openLeft_taped, mG_open_taped, mG_at_taped, mG_fault_taped, mG_fresh_taped, mG_freshMany_taped, mG_figures_taped, mG_thrown_thrown, mG_tape_thrown, mG_taped_thrown, mG_depth_thrown, mG_room_thrown, mG_written_thrown, mG_writtenMany_thrown, mG_errorPlace_thrown, mG_sorts_thrown, mG_numbers_thrown, mG_places_thrown, mG_things_thrown, mG_letters_thrown, mG_lettersMany_thrown, mG_openThing_thrown, mG_openLeft_thrown, mG_open_thrown, mG_at_thrown, mG_fault_thrown, mG_fresh_thrown, mG_freshMany_thrown, mG_figures_thrown]; exact h7
      · simp only [tG_depth_depth, tG_depth_room, tG_depth_faultPlace, tG_depth_tape, tG_depth_written, tG_depth_measure, tG_room_depth, tG_room_room, tG_room_faultPlace, tG_room_tape, tG_room_written, tG_room_measure, tG_faultPlace_depth, tG_faultPlace_room, tG_faultPlace_faultPlace, tG_faultPlace_tape, tG_faultPlace_written, tG_faultPlace_measure, tG_tape_depth, tG_tape_room, tG_tape_faultPlace, tG_tape_tape, tG_tape_written, tG_tape_measure, tG_written_depth, tG_written_room, tG_written_faultPlace, tG_written_tape, tG_written_written, tG_written_measure, tG_measure_depth, tG_measure_room, tG_measure_faultPlace, tG_measure_tape, tG_measure_written, tG_measure_measure, mG_thrown_taped, mG_tape_taped, mG_taped_taped, mG_depth_taped, mG_room_taped, mG_written_taped, mG_writtenMany_taped, mG_errorPlace_taped, mG_sorts_taped, mG_numbers_taped, mG_places_taped, mG_things_taped, mG_letters_taped, mG_lettersMany_taped, mG_openThing_taped, mG_openLeft_taped, mG_open_taped, mG_at_taped, mG_fault_taped, mG_fresh_taped, mG_freshMany_taped, mG_figures_taped, mG_thrown_thrown, mG_tape_thrown, mG_taped_thrown, mG_depth_thrown, mG_room_thrown, mG_written_thrown, mG_writtenMany_thrown, mG_errorPlace_thrown, mG_sorts_thrown, mG_numbers_thrown, mG_places_thrown, mG_things_thrown, mG_letters_thrown, mG_lettersMany_thrown, mG_openThing_thrown, mG_openLeft_thrown, mG_open_thrown, mG_at_thrown, mG_fault_thrown, mG_fresh_thrown, mG_freshMany_thrown, mG_figures_thrown]; exact h8
    · rw [if_neg (nI_ge (by omega) hn), if_neg (nI_ge (by omega) hn)]
      exact ⟨-1, τ, ms_thrown σ 0, rfl, rfl, hi⟩
