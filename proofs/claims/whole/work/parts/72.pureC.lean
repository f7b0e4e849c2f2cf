/-! PURE C: feed and take -/
theorem smod32 : ∀ m, m < 32 → ((nI m).toBitVec.smod 32).toNat = m := by decide +kernel
theorem shr_low (x s : Int32) (k : Nat) (hs : (s.toBitVec.smod 32).toNat = k) (hk : k ≤ 24) : (x >>> s) &&& 255 = nI (x.toBitVec.toNat / 2 ^ k % 256) := by
  rw [pk_and (x >>> s) (m := 255) 8 (by decide)]
  congr 1
  have e : (x >>> s).toBitVec = x.toBitVec.sshiftRight k := by
    rw [Int32.toBitVec_shiftRight, BitVec.sshiftRight_eq', hs]
  rw [e]
  apply Nat.eq_of_testBit_eq
  intro i
  rw [show (256 : Nat) = 2 ^ 8 from rfl, Nat.testBit_mod_two_pow, Nat.testBit_mod_two_pow, Nat.testBit_div_two_pow]
  by_cases h8 : i < 8
  · simp only [h8, decide_true, Bool.true_and]
    rw [BitVec.testBit_toNat, BitVec.testBit_toNat, BitVec.getLsbD_sshiftRight]
    have h1 : ¬ 32 ≤ i := by omega
    have h2 : k + i < 32 := by omega
    simp [h1, h2]
    rw [Nat.add_comm i k, BitVec.getLsbD_eq_getElem h2]
  · simp [h8]
def bF (x : Int32) (r : Nat) : Nat := x.toBitVec.toNat / 2 ^ (24 - 8 * r) % 256
def selF (a b c d e : Int32) (q : Nat) : Int32 := if q = 0 then a else if q = 1 then b else if q = 2 then c else if q = 3 then d else e
def feedB (a b c d e : Int32) : List Nat := four4 a ++ four4 b ++ four4 c ++ four4 d ++ four4 e
theorem feedB_at (a b c d e : Int32) (k : Nat) (hk : k < 20) : (feedB a b c d e).getD k 0 = bF (selF a b c d e (k / 4)) (k % 4) := by
  rcases (show k = 0 ∨ k = 1 ∨ k = 2 ∨ k = 3 ∨ k = 4 ∨ k = 5 ∨ k = 6 ∨ k = 7 ∨ k = 8 ∨ k = 9 ∨ k = 10 ∨ k = 11 ∨ k = 12 ∨ k = 13 ∨ k = 14 ∨ k = 15 ∨ k = 16 ∨ k = 17 ∨ k = 18 ∨ k = 19 by omega) with h | h | h | h | h | h | h | h | h | h | h | h | h | h | h | h | h | h | h | h <;> subst h <;> simp [feedB, four4, bF, selF]
theorem feed_val (x : Int32) (k : Nat) (hk : k < 2 ^ 30) : (x >>> (((24 : Int32) - ((8 : Int32) * (nI k - nI k / (4 : Int32) * (4 : Int32)))) &&& 31)) &&& (255 : Int32) = nI (bF x (k % 4)) := by
  have e1 : nI k - nI k / (4 : Int32) * (4 : Int32) = nI (k % 4) := pk_rem (d := 4) (by omega) (by decide) (by decide)
  have hr : k % 4 < 4 := Nat.mod_lt _ (by decide)
  rw [e1, show (8 : Int32) * nI (k % 4) = nI (8 * (k % 4)) from pk_mul 8 _, show (24 : Int32) - nI (8 * (k % 4)) = nI (24 - 8 * (k % 4)) from pk_sub (a := 24) (by omega), pk_andN (m := 31) (by omega) 5 (by decide)]
  rw [shr_low x _ (24 - 8 * (k % 4)) (by rw [smod32 _ (by omega)]; omega) (by omega)]
  rfl
theorem feed_loop (a b c d e : Int32) (n : Nat) (hn : n + 20 ≤ 4000) : ∀ (m k : Nat) (f : Nat) (σ : MSt), k + m = 20 → m < f → mf_taped σ = nI n → ∃ T : Nat → Int32, mm_feed_L20 f a b c d e (nI k) σ = some (nI (n + 20), ms_taped (ms_tape σ T) (nI (n + 20))) ∧ (∀ i, i < n + k → T i = mf_tape σ i) ∧ ∀ j, k ≤ j → j < 20 → T (n + j) = nI ((feedB a b c d e).getD j 0) := by
  intro m
  induction m with
  | zero =>
    intro k f σ hk hf ht
    obtain ⟨f, rfl⟩ : ∃ g, f = g + 1 := ⟨f - 1, by omega⟩
    have hk20 : k = 20 := by omega
    subst hk20
    refine ⟨mf_tape σ, ?_, fun _ _ => rfl, fun j h1 h2 => by omega⟩
    show mm_feed_b20 _ a b c d e (nI 20) σ = _
    unfold mm_feed_b20
    rw [if_pos (by decide), ht]
    show some (nI n + nI 20, ms_taped σ (nI n + nI 20)) = _
    rw [nI_add]
    rfl
  | succ m ih =>
    intro k f σ hk hf ht
    obtain ⟨f, rfl⟩ : ∃ g, f = g + 1 := ⟨f - 1, by omega⟩
    have step : ∀ x : Int32, x = selF a b c d e (k / 4) → ∃ T : Nat → Int32, mm_feed_b73 (mm_feed_L20 f) a b c d e (nI k) x σ = some (nI (n + 20), ms_taped (ms_tape σ T) (nI (n + 20))) ∧ (∀ i, i < n + k → T i = mf_tape σ i) ∧ ∀ j, k ≤ j → j < 20 → T (n + j) = nI ((feedB a b c d e).getD j 0) := by
      intro x hx
      unfold mm_feed_b73
      rw [ht, nI_add, ck_in (vp_in_nI (by omega) (by decide)), nI_clamp (by omega), feed_val x k (by omega)]
      unfold lt
      rw [nI_1]
      obtain ⟨T, e1, e2, e3⟩ := ih (k + 1) f (ms_tape σ (upd (mf_tape σ) (n + k) (nI (bF x (k % 4))))) (by omega) (by omega) (by rw [mG_taped_tape]; exact ht)
      refine ⟨T, e1, fun i hi => ?_, fun j h1 h2 => ?_⟩
      · rw [e2 i (by omega), mG_tape_tape, pk_un (by omega)]
      · by_cases hj : j = k
        · subst hj
          rw [e2 (n + j) (by omega), mG_tape_tape, pk_us, feedB_at a b c d e j h2, hx]
        · exact e3 j (by omega) h2
    show ∃ T : Nat → Int32, mm_feed_b20 (mm_feed_L20 f) a b c d e (nI k) σ = _ ∧ _
    unfold mm_feed_b20
    rw [if_neg (show ¬ (20 : Int32) ≤ nI k from nI_ge (b := 20) (by omega) (by decide))]
    by_cases c4 : 4 ≤ k
    · rw [if_pos (show (4 : Int32) ≤ nI k from nI_le (a := 4) c4 (by omega))]
      by_cases c8 : 8 ≤ k
      · rw [if_pos (show (8 : Int32) ≤ nI k from nI_le (a := 8) c8 (by omega))]
        by_cases c12 : 12 ≤ k
        · rw [if_pos (show (12 : Int32) ≤ nI k from nI_le (a := 12) c12 (by omega))]
          by_cases c16 : 16 ≤ k
          · rw [if_pos (show (16 : Int32) ≤ nI k from nI_le (a := 16) c16 (by omega))]
            exact step e (by rw [show k / 4 = 4 by omega]; rfl)
          · rw [if_neg (show ¬ (16 : Int32) ≤ nI k from nI_ge (b := 16) (by omega) (by decide))]
            exact step d (by rw [show k / 4 = 3 by omega]; rfl)
        · rw [if_neg (show ¬ (12 : Int32) ≤ nI k from nI_ge (b := 12) (by omega) (by decide))]
          exact step c (by rw [show k / 4 = 2 by omega]; rfl)
      · rw [if_neg (show ¬ (8 : Int32) ≤ nI k from nI_ge (b := 8) (by omega) (by decide))]
        exact step b (by rw [show k / 4 = 1 by omega]; rfl)
    · rw [if_neg (show ¬ (4 : Int32) ≤ nI k from nI_ge (b := 4) (by omega) (by decide))]
      exact step a (by rw [show k / 4 = 0 by omega]; rfl)
theorem st_feed {τ : TSt} {σ : MSt} (a b c d e : Int32) (h : Inv τ σ) : ∃ (r : Int32) (τ' : TSt) (σ' : MSt), tt_feed a b c d e τ = some (r, τ') ∧ mm_feed a b c d e σ = some (r, σ') ∧ Inv τ' σ' := by
  have hi := inv_thrown h 0
  obtain ⟨tp, wr, dr, dd, rm, h1, h2, h3, h4, h5, h6, h7, h8⟩ := h
  unfold tt_feed mm_feed
  rw [bd_of (rr_size_eq _ _)]
  show ∃ (r : Int32) (τ' : TSt) (σ' : MSt), (if rf_sz (tf_tape τ) + 20 ≤ 4000 then _ else _) = _ ∧ _
  rw [h1.1.1, h6.1, show nI tp.length + 20 = nI (tp.length + 20) from nI_add _ 20]
  by_cases c0 : tp.length + 20 ≤ 4000
  · rw [if_pos (show nI (tp.length + 20) ≤ (4000 : Int32) from nI_le (b := 4000) c0 (by decide)), if_pos (show nI tp.length ≤ (3980 : Int32) from nI_le (b := 3980) (by omega) (by decide))]
    obtain ⟨r1, e1, g1⟩ := rr_putFour_row h1.1 (by decide) (by omega) a
    obtain ⟨r2, e2, g2⟩ := rr_putFour_row g1 (by decide) (by simp [four4_len]; omega) b
    obtain ⟨r3, e3, g3⟩ := rr_putFour_row g2 (by decide) (by simp [four4_len]; omega) c
    obtain ⟨r4, e4, g4⟩ := rr_putFour_row g3 (by decide) (by simp [four4_len]; omega) d
    obtain ⟨r5, e5, g5⟩ := rr_putFour_row g4 (by decide) (by simp [four4_len]; omega) e
    have g6 : RowL 4000 r5 (tp ++ feedB a b c d e) := by
      rw [feedB]
      simpa [List.append_assoc] using g5
    have hlen : (tp ++ feedB a b c d e).length = tp.length + 20 := by simp [feedB, four4_len]
    rw [bd_of e1, bd_of e2, bd_of e3, bd_of e4, bd_of e5, bd_of (rr_size_eq _ _)]
    obtain ⟨T, f1, f2, f3⟩ := feed_loop a b c d e tp.length c0 20 0 FU (ms_thrown σ 0) rfl (by decide) (by rw [mG_taped_thrown]; exact h6.1)
    refine ⟨nI (tp.length + 20), _, _, by rw [g6.1, hlen], f1, tp ++ feedB a b c d e, wr, dr, dd, rm, ⟨?_, by omega⟩, ?_, ?_, ?_, ?_, ⟨?_, ?_⟩, ?_, ?_⟩
    · simp only [tG_depth_depth, tG_depth_room, tG_depth_faultPlace, tG_depth_tape, tG_depth_written, tG_depth_measure, tG_room_depth, tG_room_room, tG_room_faultPlace, tG_room_tape, tG_room_written, tG_room_measure, tG_faultPlace_depth, tG_faultPlace_room, tG_faultPlace_faultPlace, tG_faultPlace_tape, tG_faultPlace_written, tG_faultPlace_measure, tG_tape_depth, tG_tape_room, tG_tape_faultPlace, tG_tape_tape, tG_tape_written, tG_tape_measure, tG_written_depth, tG_written_room, tG_written_faultPlace, tG_written_tape, tG_written_written, tG_written_measure, tG_measure_depth, tG_measure_room, tG_measure_faultPlace, tG_measure_tape, tG_measure_written, tG_measure_measure]; exact g6
    · simp only [tG_depth_depth, tG_depth_room, tG_depth_faultPlace, tG_depth_tape, tG_depth_written, tG_depth_measure, tG_room_depth, tG_room_room, tG_room_faultPlace, tG_room_tape, tG_room_written, tG_room_measure, tG_faultPlace_depth, tG_faultPlace_room, tG_faultPlace_faultPlace, tG_faultPlace_tape, tG_faultPlace_written, tG_faultPlace_measure, tG_tape_depth, tG_tape_room, tG_tape_faultPlace, tG_tape_tape, tG_tape_written, tG_tape_measure, tG_written_depth, tG_written_room, tG_written_faultPlace, tG_written_tape, tG_written_written, tG_written_measure, tG_measure_depth, tG_measure_room, tG_measure_faultPlace, tG_measure_tape, tG_measure_written, tG_measure_measure]; exact h2
    · simp only [tG_depth_depth, tG_depth_room, tG_depth_faultPlace, tG_depth_tape, tG_depth_written, tG_depth_measure, tG_room_depth, tG_room_room, tG_room_faultPlace, tG_room_tape, tG_room_written, tG_room_measure, tG_faultPlace_depth, tG_faultPlace_room, tG_faultPlace_faultPlace, tG_faultPlace_tape, tG_faultPlace_written, tG_faultPlace_measure, tG_tape_depth, tG_tape_room, tG_tape_faultPlace, tG_tape_tape, tG_tape_written, tG_tape_measure, tG_written_depth, tG_written_room, tG_written_faultPlace, tG_written_tape, tG_written_written, tG_written_measure, tG_measure_depth, tG_measure_room, tG_measure_faultPlace, tG_measure_tape, tG_measure_written, tG_measure_measure]; exact h3
    · simp only [tG_depth_depth, tG_depth_room, tG_depth_faultPlace, tG_depth_tape, tG_depth_written, tG_depth_measure, tG_room_depth, tG_room_room, tG_room_faultPlace, tG_room_tape, tG_room_written, tG_room_measure, tG_faultPlace_depth, tG_faultPlace_room, tG_faultPlace_faultPlace, tG_faultPlace_tape, tG_faultPlace_written, tG_faultPlace_measure, tG_tape_depth, tG_tape_room, tG_tape_faultPlace, tG_tape_tape, tG_tape_written, tG_tape_measure, tG_written_depth, tG_written_room, tG_written_faultPlace, tG_written_tape, tG_written_written, tG_written_measure, tG_measure_depth, tG_measure_room, tG_measure_faultPlace, tG_measure_tape, tG_measure_written, tG_measure_measure, mG_thrown_taped, mG_tape_taped, mG_taped_taped, mG_depth_taped, mG_room_taped, mG_written_taped, mG_writtenMany_taped, mG_errorPlace_taped, mG_sorts_taped, mG_numbers_taped, mG_places_taped, mG_things_taped, mG_letters_taped, mG_lettersMany_taped, mG_openThing_taped, mG_openLeft_taped, mG_open_taped, mG_at_taped, mG_fault_taped, mG_fresh_taped, mG_freshMany_taped, mG_figures_taped, mG_thrown_tape, mG_tape_tape, mG_taped_tape, mG_depth_tape, mG_room_tape, mG_written_tape, mG_writtenMany_tape, mG_errorPlace_tape, mG_sorts_tape, mG_numbers_tape, mG_places_tape, mG_things_tape, mG_letters_tape, mG_lettersMany_tape, mG_openThing_tape, mG_openLeft_tape, mG_open_tape, mG_at_tape, mG_fault_tape, mG_fresh_tape, mG_freshMany_tape, mG_figures_tape, mG_thrown_thrown, mG_tape_thrown, mG_taped_thrown, mG_depth_thrown, mG_room_thrown, mG_written_thrown, mG_writtenMany_thrown, mG_errorPlace_thrown, mG_sorts_thrown, mG_numbers_thrown, mG_places_thrown, mG_things_thrown, mG_letters_thrown, mG_lettersMany_thrown, mG_openThing_thrown, mG_openLeft_thrown, mG_open_thrown, mG_at_thrown, mG_fault_thrown, mG_fresh_thrown, mG_freshMany_thrown, mG_figures_thrown]; exact h4
    · simp only [tG_depth_depth, tG_depth_room, tG_depth_faultPlace, tG_depth_tape, tG_depth_written, tG_depth_measure, tG_room_depth, tG_room_room, tG_room_faultPlace, tG_room_tape, tG_room_written, tG_room_measure, tG_faultPlace_depth, tG_faultPlace_room, tG_faultPlace_faultPlace, tG_faultPlace_tape, tG_faultPlace_written, tG_faultPlace_measure, tG_tape_depth, tG_tape_room, tG_tape_faultPlace, tG_tape_tape, tG_tape_written, tG_tape_measure, tG_written_depth, tG_written_room, tG_written_faultPlace, tG_written_tape, tG_written_written, tG_written_measure, tG_measure_depth, tG_measure_room, tG_measure_faultPlace, tG_measure_tape, tG_measure_written, tG_measure_measure, mG_thrown_taped, mG_tape_taped, mG_taped_taped, mG_depth_taped, mG_room_taped, mG_written_taped, mG_writtenMany_taped, mG_errorPlace_taped, mG_sorts_taped, mG_numbers_taped, mG_places_taped, mG_things_taped, mG_letters_taped, mG_lettersMany_taped, mG_openThing_taped, mG_openLeft_taped, mG_open_taped, mG_at_taped, mG_fault_taped, mG_fresh_taped, mG_freshMany_taped, mG_figures_taped, mG_thrown_tape, mG_tape_tape, mG_taped_tape, mG_depth_tape, mG_room_tape, mG_written_tape, mG_writtenMany_tape, mG_errorPlace_tape, mG_sorts_tape, mG_numbers_tape, mG_places_tape, mG_things_tape, mG_letters_tape, mG_lettersMany_tape, mG_openThing_tape, mG_openLeft_tape, mG_open_tape, mG_at_tape, mG_fault_tape, mG_fresh_tape, mG_freshMany_tape, mG_figures_tape, mG_thrown_thrown, mG_tape_thrown, mG_taped_thrown, mG_depth_thrown, mG_room_thrown, mG_written_thrown, mG_writtenMany_thrown, mG_errorPlace_thrown, mG_sorts_thrown, mG_numbers_thrown, mG_places_thrown, mG_things_thrown, mG_letters_thrown, mG_lettersMany_thrown, mG_openThing_thrown, mG_openLeft_thrown, mG_open_thrown, mG_at_thrown, mG_fault_thrown, mG_fresh_thrown, mG_freshMany_thrown, mG_figures_thrown]; exact h5
    · simp only [mG_thrown_taped, mG_tape_taped, mG_taped_taped, mG_depth_taped, mG_room_taped, mG_written_taped, mG_writtenMany_taped, mG_errorPlace_taped, mG_sorts_taped, mG_numbers_taped, mG_places_taped, mG_things_taped, mG_letters_taped, mG_lettersMany_taped, mG_openThing_taped, mG_openLeft_taped, mG_open_taped, mG_at_taped, mG_fault_taped, mG_fresh_taped, mG_freshMany_taped, mG_figures_taped]; rw [hlen]
    · intro i hi2
      rw [hlen] at hi2
      simp only [mG_thrown_taped, mG_tape_taped, mG_taped_taped, mG_depth_taped, mG_room_taped, mG_written_taped, mG_writtenMany_taped, mG_errorPlace_taped, mG_sorts_taped, mG_numbers_taped, mG_places_taped, mG_things_taped, mG_letters_taped, mG_lettersMany_taped, mG_openThing_taped, mG_openLeft_taped, mG_open_taped, mG_at_taped, mG_fault_taped, mG_fresh_taped, mG_freshMany_taped, mG_figures_taped, mG_thrown_tape, mG_tape_tape, mG_taped_tape, mG_depth_tape, mG_room_tape, mG_written_tape, mG_writtenMany_tape, mG_errorPlace_tape, mG_sorts_tape, mG_numbers_tape, mG_places_tape, mG_things_tape, mG_letters_tape, mG_lettersMany_tape, mG_openThing_tape, mG_openLeft_tape, mG_open_tape, mG_at_tape, mG_fault_tape, mG_fresh_tape, mG_freshMany_tape, mG_figures_tape]
      by_cases ci : i < tp.length
      · rw [f2 i (by omega), mG_tape_thrown, h6.2 i ci, getD_app ci]
      · have := f3 (i - tp.length) (by omega) (by omega)
        rw [show tp.length + (i - tp.length) = i by omega] at this
        rw [this, getD_app2 (by omega)]
    · simp only [mG_thrown_taped, mG_tape_taped, mG_taped_taped, mG_depth_taped, mG_room_taped, mG_written_taped, mG_writtenMany_taped, mG_errorPlace_taped, mG_sorts_taped, mG_numbers_taped, mG_places_taped, mG_things_taped, mG_letters_taped, mG_lettersMany_taped, mG_openThing_taped, mG_openLeft_taped, mG_open_taped, mG_at_taped, mG_fault_taped, mG_fresh_taped, mG_freshMany_taped, mG_figures_taped, mG_thrown_tape, mG_tape_tape, mG_taped_tape, mG_depth_tape, mG_room_tape, mG_written_tape, mG_writtenMany_tape, mG_errorPlace_tape, mG_sorts_tape, mG_numbers_tape, mG_places_tape, mG_things_tape, mG_letters_tape, mG_lettersMany_tape, mG_openThing_tape, mG_openLeft_tape, mG_open_tape, mG_at_tape, mG_fault_tape, mG_fresh_tape, mG_freshMany_tape, mG_figures_tape, mG_thrown_thrown, mG_tape_thrown, mG_taped_thrown, mG_depth_thrown, mG_room_thrown, mG_written_thrown, mG_writtenMany_thrown, mG_errorPlace_thrown, mG_sorts_thrown, mG_numbers_thrown, mG_places_thrown, mG_things_thrown, mG_letters_thrown, mG_lettersMany_thrown, mG_openThing_thrown, mG_openLeft_thrown, mG_open_thrown, mG_at_thrown, mG_fault_thrown, mG_fresh_thrown, mG_freshMany_thrown, mG_figures_thrown]; exact h7
    · simp only [tG_depth_depth, tG_depth_room, tG_depth_faultPlace, tG_depth_tape, tG_depth_written, tG_depth_measure, tG_room_depth, tG_room_room, tG_room_faultPlace, tG_room_tape, tG_room_written, tG_room_measure, tG_faultPlace_depth, tG_faultPlace_room, tG_faultPlace_faultPlace, tG_faultPlace_tape, tG_faultPlace_written, tG_faultPlace_measure, tG_tape_depth, tG_tape_room, tG_tape_faultPlace, tG_tape_tape, tG_tape_written, tG_tape_measure, tG_written_depth, tG_written_room, tG_written_faultPlace, tG_written_tape, tG_written_written, tG_written_measure, tG_measure_depth, tG_measure_room, tG_measure_faultPlace, tG_measure_tape, tG_measure_written, tG_measure_measure, mG_thrown_taped, mG_tape_taped, mG_taped_taped, mG_depth_taped, mG_room_taped, mG_written_taped, mG_writtenMany_taped, mG_errorPlace_taped, mG_sorts_taped, mG_numbers_taped, mG_places_taped, mG_things_taped, mG_letters_taped, mG_lettersMany_taped, mG_openThing_taped, mG_openLeft_taped, mG_open_taped, mG_at_taped, mG_fault_taped, mG_fresh_taped, mG_freshMany_taped, mG_figures_taped, mG_thrown_tape, mG_tape_tape, mG_taped_tape, mG_depth_tape, mG_room_tape, mG_written_tape, mG_writtenMany_tape, mG_errorPlace_tape, mG_sorts_tape, mG_numbers_tape, mG_places_tape, mG_things_tape, mG_letters_tape, mG_lettersMany_tape, mG_openThing_tape, mG_openLeft_tape, mG_open_tape, mG_at_tape, mG_fault_tape, mG_fresh_tape, mG_freshMany_tape, mG_figures_tape, mG_thrown_thrown, mG_tape_thrown, mG_taped_thrown, mG_depth_thrown, mG_room_thrown, mG_written_thrown, mG_writtenMany_thrown, mG_errorPlace_thrown, mG_sorts_thrown, mG_numbers_thrown, mG_places_thrown, mG_things_thrown, mG_letters_thrown, mG_lettersMany_thrown, mG_openThing_thrown, mG_openLeft_thrown, mG_open_thrown, mG_at_thrown, mG_fault_thrown, mG_fresh_thrown, mG_freshMany_thrown, mG_figures_thrown]; exact h8
  · rw [if_neg (show ¬ nI (tp.length + 20) ≤ (4000 : Int32) from nI_ge (a := 4000) (by omega) (by omega)), if_neg (show ¬ nI tp.length ≤ (3980 : Int32) from nI_ge (a := 3980) (by omega) (by omega))]
    exact ⟨-1, τ, ms_thrown σ 0, rfl, rfl, hi⟩
theorem take_loop (w : Nat) (hw : w ≤ 4000) : ∀ (m k f : Nat) (σ : MSt), k + m = w → m < f → mf_writtenMany σ = nI w → ∃ T : Nat → Int32, mm_take_L19 f (nI k) σ = some (nI w, ms_taped (ms_tape σ T) (nI w)) ∧ (∀ i, i < k → T i = mf_tape σ i) ∧ ∀ i, k ≤ i → i < w → T i = mf_written σ i &&& 255 := by
  intro m
  induction m with
  | zero =>
    intro k f σ hk hf ht
    obtain ⟨f, rfl⟩ : ∃ g, f = g + 1 := ⟨f - 1, by omega⟩
    have hk20 : k = w := by omega
    subst hk20
    refine ⟨mf_tape σ, ?_, fun _ _ => rfl, fun j h1 h2 => by omega⟩
    show mm_take_b19 _ (nI k) σ = _
    unfold mm_take_b19
    rw [ht, if_pos (nI_le (Nat.le_refl _) (by omega))]
    rfl
  | succ m ih =>
    intro k f σ hk hf ht
    obtain ⟨f, rfl⟩ : ∃ g, f = g + 1 := ⟨f - 1, by omega⟩
    show ∃ T : Nat → Int32, mm_take_b19 (mm_take_L19 f) (nI k) σ = _ ∧ _
    unfold mm_take_b19
    rw [ht, if_neg (nI_ge (by omega) (by omega)), ck_in (vp_in_nI (by omega) (by decide)), ck_in (vp_in_nI (by omega) (by decide)), nI_clamp (by omega)]
    unfold lt
    rw [nI_1]
    obtain ⟨T, e1, e2, e3⟩ := ih (k + 1) f (ms_tape σ (upd (mf_tape σ) k (mf_written σ k &&& 255))) (by omega) (by omega) (by rw [mG_writtenMany_tape]; exact ht)
    refine ⟨T, e1, fun i hi => ?_, fun i h1 h2 => ?_⟩
    · rw [e2 i (by omega), mG_tape_tape, pk_un (by omega)]
    · by_cases hj : i = k
      · subst hj
        rw [e2 i (by omega), mG_tape_tape, pk_us]
      · rw [e3 i (by omega) h2, mG_written_tape]
theorem cpy00 {f g : Nat → Int32} {n i : Nat} (h : i < n) : va_cpy f g 0 0 n i = f i := by
  rw [pk_cpy_in (Nat.zero_le _) (by omega)]
  congr 1
  omega
theorem copy_row {r τ : RSt} {l : List Nat} (h : RowL 6000 τ l) (hl : l.length ≤ 4000) : ∃ r', rr_copyFrom 4000 6000 r τ = some r' ∧ RowL 4000 r' l := by
  obtain ⟨h1, h2, h3⟩ := h
  unfold rr_copyFrom
  rw [show (if (Int32.ofNat 4000) < (Int32.ofNat 6000) then (Int32.ofNat 4000) else (Int32.ofNat 6000)) = nI 4000 from by decide, h1, if_neg (nI_nlt hl (by decide))]
  simp only [lt]
  rw [cka_ok]
  · refine ⟨_, rfl, ?_, fun i hi hiN => ?_, h3⟩
    · rw [rG_sz_sz]
    · rw [rG_f_sz, rG_f_f, nI_clamp (by omega)]
      show va_cpy (rf_f τ) (rf_f r) 0 0 l.length i = _
      rw [cpy00 hi, h2 i hi (by omega)]
  · refine ⟨by decide, by decide, nI_pos (by omega), ?_, ?_, ?_⟩
    · rw [nI_clamp (by omega)]; show 0 + l.length ≤ 6000; omega
    · rw [nI_clamp (by omega)]; show 0 + l.length ≤ 4000; omega
    · rw [nI_clamp (by omega), List.all_eq_true]
      intro i hi
      have hi := List.mem_range.mp hi
      show fits .byte (.int (rf_f τ (0 + i))) = true
      rw [Nat.zero_add, h2 i hi (by omega)]
      exact bb_fits _
theorem st_take {τ : TSt} {σ : MSt} (h : Inv τ σ) : ∃ (r : Int32) (τ' : TSt) (σ' : MSt), tt_take τ = some (r, τ') ∧ mm_take σ = some (r, σ') ∧ Inv τ' σ' := by
  have hi := inv_thrown h 0
  obtain ⟨tp, wr, dr, dd, rm, h1, h2, h3, h4, h5, h6, h7, h8⟩ := h
  unfold tt_take mm_take
  rw [bd_of (rr_size_eq _ _)]
  show ∃ (r : Int32) (τ' : TSt) (σ' : MSt), (if rf_sz (tf_written τ) ≤ 4000 then _ else _) = _ ∧ _
  rw [h2.1.1, h7.1]
  by_cases c0 : wr.length ≤ 4000
  · rw [if_pos (show nI wr.length ≤ (4000 : Int32) from nI_le (b := 4000) c0 (by decide)), if_pos (show nI wr.length ≤ (4000 : Int32) from nI_le (b := 4000) c0 (by decide))]
    obtain ⟨r1, e1, g1⟩ := copy_row (r := tf_tape τ) h2.1 c0
    have e1' : rr_copyFrom 4000 6000 (tf_tape (ts_written τ (tf_written τ))) (tf_written (ts_written τ (tf_written τ))) = some r1 := e1
    rw [bd_of e1', bd_of (rr_size_eq _ _)]
    obtain ⟨T, f1, f2, f3⟩ := take_loop wr.length c0 wr.length 0 FU (ms_thrown σ 0) (by omega) (by show wr.length < 100000; omega) (by rw [mG_writtenMany_thrown]; exact h7.1)
    refine ⟨nI wr.length, _, _, by rw [g1.1], f1, wr, wr, dr, dd, rm, ⟨?_, c0⟩, ?_, ?_, ?_, ?_, ⟨?_, ?_⟩, ?_, ?_⟩
    · simp only [tG_depth_depth, tG_depth_room, tG_depth_faultPlace, tG_depth_tape, tG_depth_written, tG_depth_measure, tG_room_depth, tG_room_room, tG_room_faultPlace, tG_room_tape, tG_room_written, tG_room_measure, tG_faultPlace_depth, tG_faultPlace_room, tG_faultPlace_faultPlace, tG_faultPlace_tape, tG_faultPlace_written, tG_faultPlace_measure, tG_tape_depth, tG_tape_room, tG_tape_faultPlace, tG_tape_tape, tG_tape_written, tG_tape_measure, tG_written_depth, tG_written_room, tG_written_faultPlace, tG_written_tape, tG_written_written, tG_written_measure, tG_measure_depth, tG_measure_room, tG_measure_faultPlace, tG_measure_tape, tG_measure_written, tG_measure_measure]; exact g1
    · simp only [tG_depth_depth, tG_depth_room, tG_depth_faultPlace, tG_depth_tape, tG_depth_written, tG_depth_measure, tG_room_depth, tG_room_room, tG_room_faultPlace, tG_room_tape, tG_room_written, tG_room_measure, tG_faultPlace_depth, tG_faultPlace_room, tG_faultPlace_faultPlace, tG_faultPlace_tape, tG_faultPlace_written, tG_faultPlace_measure, tG_tape_depth, tG_tape_room, tG_tape_faultPlace, tG_tape_tape, tG_tape_written, tG_tape_measure, tG_written_depth, tG_written_room, tG_written_faultPlace, tG_written_tape, tG_written_written, tG_written_measure, tG_measure_depth, tG_measure_room, tG_measure_faultPlace, tG_measure_tape, tG_measure_written, tG_measure_measure]; exact h2
    · simp only [tG_depth_depth, tG_depth_room, tG_depth_faultPlace, tG_depth_tape, tG_depth_written, tG_depth_measure, tG_room_depth, tG_room_room, tG_room_faultPlace, tG_room_tape, tG_room_written, tG_room_measure, tG_faultPlace_depth, tG_faultPlace_room, tG_faultPlace_faultPlace, tG_faultPlace_tape, tG_faultPlace_written, tG_faultPlace_measure, tG_tape_depth, tG_tape_room, tG_tape_faultPlace, tG_tape_tape, tG_tape_written, tG_tape_measure, tG_written_depth, tG_written_room, tG_written_faultPlace, tG_written_tape, tG_written_written, tG_written_measure, tG_measure_depth, tG_measure_room, tG_measure_faultPlace, tG_measure_tape, tG_measure_written, tG_measure_measure]; exact h3
    · simp only [tG_depth_depth, tG_depth_room, tG_depth_faultPlace, tG_depth_tape, tG_depth_written, tG_depth_measure, tG_room_depth, tG_room_room, tG_room_faultPlace, tG_room_tape, tG_room_written, tG_room_measure, tG_faultPlace_depth, tG_faultPlace_room, tG_faultPlace_faultPlace, tG_faultPlace_tape, tG_faultPlace_written, tG_faultPlace_measure, tG_tape_depth, tG_tape_room, tG_tape_faultPlace, tG_tape_tape, tG_tape_written, tG_tape_measure, tG_written_depth, tG_written_room, tG_written_faultPlace, tG_written_tape, tG_written_written, tG_written_measure, tG_measure_depth, tG_measure_room, tG_measure_faultPlace, tG_measure_tape, tG_measure_written, tG_measure_measure, mG_thrown_taped, mG_tape_taped, mG_taped_taped, mG_depth_taped, mG_room_taped, mG_written_taped, mG_writtenMany_taped, mG_errorPlace_taped, mG_sorts_taped, mG_numbers_taped, mG_places_taped, mG_things_taped, mG_letters_taped, mG_lettersMany_taped, mG_openThing_taped, mG_openLeft_taped, mG_open_taped, mG_at_taped, mG_fault_taped, mG_fresh_taped, mG_freshMany_taped, mG_figures_taped, mG_thrown_tape, mG_tape_tape, mG_taped_tape, mG_depth_tape, mG_room_tape, mG_written_tape, mG_writtenMany_tape, mG_errorPlace_tape, mG_sorts_tape, mG_numbers_tape, mG_places_tape, mG_things_tape, mG_letters_tape, mG_lettersMany_tape, mG_openThing_tape, mG_openLeft_tape, mG_open_tape, mG_at_tape, mG_fault_tape, mG_fresh_tape, mG_freshMany_tape, mG_figures_tape, mG_thrown_thrown, mG_tape_thrown, mG_taped_thrown, mG_depth_thrown, mG_room_thrown, mG_written_thrown, mG_writtenMany_thrown, mG_errorPlace_thrown, mG_sorts_thrown, mG_numbers_thrown, mG_places_thrown, mG_things_thrown, mG_letters_thrown, mG_lettersMany_thrown, mG_openThing_thrown, mG_openLeft_thrown, mG_open_thrown, mG_at_thrown, mG_fault_thrown, mG_fresh_thrown, mG_freshMany_thrown, mG_figures_thrown]; exact h4
    · simp only [tG_depth_depth, tG_depth_room, tG_depth_faultPlace, tG_depth_tape, tG_depth_written, tG_depth_measure, tG_room_depth, tG_room_room, tG_room_faultPlace, tG_room_tape, tG_room_written, tG_room_measure, tG_faultPlace_depth, tG_faultPlace_room, tG_faultPlace_faultPlace, tG_faultPlace_tape, tG_faultPlace_written, tG_faultPlace_measure, tG_tape_depth, tG_tape_room, tG_tape_faultPlace, tG_tape_tape, tG_tape_written, tG_tape_measure, tG_written_depth, tG_written_room, tG_written_faultPlace, tG_written_tape, tG_written_written, tG_written_measure, tG_measure_depth, tG_measure_room, tG_measure_faultPlace, tG_measure_tape, tG_measure_written, tG_measure_measure, mG_thrown_taped, mG_tape_taped, mG_taped_taped, mG_depth_taped, mG_room_taped, mG_written_taped, mG_writtenMany_taped, mG_errorPlace_taped, mG_sorts_taped, mG_numbers_taped, mG_places_taped, mG_things_taped, mG_letters_taped, mG_lettersMany_taped, mG_openThing_taped, mG_openLeft_taped, mG_open_taped, mG_at_taped, mG_fault_taped, mG_fresh_taped, mG_freshMany_taped, mG_figures_taped, mG_thrown_tape, mG_tape_tape, mG_taped_tape, mG_depth_tape, mG_room_tape, mG_written_tape, mG_writtenMany_tape, mG_errorPlace_tape, mG_sorts_tape, mG_numbers_tape, mG_places_tape, mG_things_tape, mG_letters_tape, mG_lettersMany_tape, mG_openThing_tape, mG_openLeft_tape, mG_open_tape, mG_at_tape, mG_fault_tape, mG_fresh_tape, mG_freshMany_tape, mG_figures_tape, mG_thrown_thrown, mG_tape_thrown, mG_taped_thrown, mG_depth_thrown, mG_room_thrown, mG_written_thrown, mG_writtenMany_thrown, mG_errorPlace_thrown, mG_sorts_thrown, mG_numbers_thrown, mG_places_thrown, mG_things_thrown, mG_letters_thrown, mG_lettersMany_thrown, mG_openThing_thrown, mG_openLeft_thrown, mG_open_thrown, mG_at_thrown, mG_fault_thrown, mG_fresh_thrown, mG_freshMany_thrown, mG_figures_thrown]; exact h5
    · simp only [mG_thrown_taped, mG_tape_taped, mG_taped_taped, mG_depth_taped, mG_room_taped, mG_written_taped, mG_writtenMany_taped, mG_errorPlace_taped, mG_sorts_taped, mG_numbers_taped, mG_places_taped, mG_things_taped, mG_letters_taped, mG_lettersMany_taped, mG_openThing_taped, mG_openLeft_taped, mG_open_taped, mG_at_taped, mG_fault_taped, mG_fresh_taped, mG_freshMany_taped, mG_figures_taped]
    · intro i hi2
      simp only [mG_thrown_taped, mG_tape_taped, mG_taped_taped, mG_depth_taped, mG_room_taped, mG_written_taped, mG_writtenMany_taped, mG_errorPlace_taped, mG_sorts_taped, mG_numbers_taped, mG_places_taped, mG_things_taped, mG_letters_taped, mG_lettersMany_taped, mG_openThing_taped, mG_openLeft_taped, mG_open_taped, mG_at_taped, mG_fault_taped, mG_fresh_taped, mG_freshMany_taped, mG_figures_taped, mG_thrown_tape, mG_tape_tape, mG_taped_tape, mG_depth_tape, mG_room_tape, mG_written_tape, mG_writtenMany_tape, mG_errorPlace_tape, mG_sorts_tape, mG_numbers_tape, mG_places_tape, mG_things_tape, mG_letters_tape, mG_lettersMany_tape, mG_openThing_tape, mG_openLeft_tape, mG_open_tape, mG_at_tape, mG_fault_tape, mG_fresh_tape, mG_freshMany_tape, mG_figures_tape]
      rw [f3 i (Nat.zero_le _) hi2, mG_written_thrown, h7.2 i hi2, bb_and (getD_lt h2.1.2.2 i)]
    · simp only [mG_thrown_taped, mG_tape_taped, mG_taped_taped, mG_depth_taped, mG_room_taped, mG_written_taped, mG_writtenMany_taped, mG_errorPlace_taped, mG_sorts_taped, mG_numbers_taped, mG_places_taped, mG_things_taped, mG_letters_taped, mG_lettersMany_taped, mG_openThing_taped, mG_openLeft_taped, mG_open_taped, mG_at_taped, mG_fault_taped, mG_fresh_taped, mG_freshMany_taped, mG_figures_taped, mG_thrown_tape, mG_tape_tape, mG_taped_tape, mG_depth_tape, mG_room_tape, mG_written_tape, mG_writtenMany_tape, mG_errorPlace_tape, mG_sorts_tape, mG_numbers_tape, mG_places_tape, mG_things_tape, mG_letters_tape, mG_lettersMany_tape, mG_openThing_tape, mG_openLeft_tape, mG_open_tape, mG_at_tape, mG_fault_tape, mG_fresh_tape, mG_freshMany_tape, mG_figures_tape, mG_thrown_thrown, mG_tape_thrown, mG_taped_thrown, mG_depth_thrown, mG_room_thrown, mG_written_thrown, mG_writtenMany_thrown, mG_errorPlace_thrown, mG_sorts_thrown, mG_numbers_thrown, mG_places_thrown, mG_things_thrown, mG_letters_thrown, mG_lettersMany_thrown, mG_openThing_thrown, mG_openLeft_thrown, mG_open_thrown, mG_at_thrown, mG_fault_thrown, mG_fresh_thrown, mG_freshMany_thrown, mG_figures_thrown]; exact h7
    · simp only [tG_depth_depth, tG_depth_room, tG_depth_faultPlace, tG_depth_tape, tG_depth_written, tG_depth_measure, tG_room_depth, tG_room_room, tG_room_faultPlace, tG_room_tape, tG_room_written, tG_room_measure, tG_faultPlace_depth, tG_faultPlace_room, tG_faultPlace_faultPlace, tG_faultPlace_tape, tG_faultPlace_written, tG_faultPlace_measure, tG_tape_depth, tG_tape_room, tG_tape_faultPlace, tG_tape_tape, tG_tape_written, tG_tape_measure, tG_written_depth, tG_written_room, tG_written_faultPlace, tG_written_tape, tG_written_written, tG_written_measure, tG_measure_depth, tG_measure_room, tG_measure_faultPlace, tG_measure_tape, tG_measure_written, tG_measure_measure, mG_thrown_taped, mG_tape_taped, mG_taped_taped, mG_depth_taped, mG_room_taped, mG_written_taped, mG_writtenMany_taped, mG_errorPlace_taped, mG_sorts_taped, mG_numbers_taped, mG_places_taped, mG_things_taped, mG_letters_taped, mG_lettersMany_taped, mG_openThing_taped, mG_openLeft_taped, mG_open_taped, mG_at_taped, mG_fault_taped, mG_fresh_taped, mG_freshMany_taped, mG_figures_taped, mG_thrown_tape, mG_tape_tape, mG_taped_tape, mG_depth_tape, mG_room_tape, mG_written_tape, mG_writtenMany_tape, mG_errorPlace_tape, mG_sorts_tape, mG_numbers_tape, mG_places_tape, mG_things_tape, mG_letters_tape, mG_lettersMany_tape, mG_openThing_tape, mG_openLeft_tape, mG_open_tape, mG_at_tape, mG_fault_tape, mG_fresh_tape, mG_freshMany_tape, mG_figures_tape, mG_thrown_thrown, mG_tape_thrown, mG_taped_thrown, mG_depth_thrown, mG_room_thrown, mG_written_thrown, mG_writtenMany_thrown, mG_errorPlace_thrown, mG_sorts_thrown, mG_numbers_thrown, mG_places_thrown, mG_things_thrown, mG_letters_thrown, mG_lettersMany_thrown, mG_openThing_thrown, mG_openLeft_thrown, mG_open_thrown, mG_at_thrown, mG_fault_thrown, mG_fresh_thrown, mG_freshMany_thrown, mG_figures_thrown]; exact h8
  · rw [if_neg (show ¬ nI wr.length ≤ (4000 : Int32) from nI_ge (a := 4000) (by omega) (by omega)), if_neg (show ¬ nI wr.length ≤ (4000 : Int32) from nI_ge (a := 4000) (by omega) (by omega))]
    exact ⟨-1, τ, ms_thrown σ 0, rfl, rfl, hi⟩
