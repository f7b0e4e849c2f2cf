/-! PURE LL: things that are no array and no map, written by the reference as JSON -/
theorem m_word_loop2 {sI : Nat} {W : List Nat} (hw : WD sI W) : ∀ (m k f : Nat) (σ : MSt) (l : List Nat), k + m = W.length → m < f → MFs σ l → l.length + m < 2 ^ 29 → ∃ σ', mm_putsWord_L2 sI f (nI k) σ = some σ' ∧ MWq σ σ' ∧ MFs σ' (l ++ W.drop k) := by
  obtain ⟨⟨h1, h2, h3⟩, h4⟩ := hw
  intro m
  induction m with
  | zero =>
    intro k f σ l hk hf h hl
    obtain ⟨f, rfl⟩ : ∃ g, f = g + 1 := ⟨f - 1, by omega⟩
    refine ⟨σ, ?_, MWq.rfl' σ, by rw [List.drop_of_length_le (by omega), List.append_nil]; exact h⟩
    show mm_putsWord_b2 sI _ _ σ = _
    unfold mm_putsWord_b2
    rw [h1, if_pos (nI_le (by omega) (by omega))]
  | succ m ih =>
    intro k f σ l hk hf h hl
    obtain ⟨f, rfl⟩ : ∃ g, f = g + 1 := ⟨f - 1, by omega⟩
    have g := h4 k (by omega)
    show ∃ σ', mm_putsWord_b2 sI (mm_putsWord_L2 sI f) (nI k) σ = _ ∧ _
    unfold mm_putsWord_b2
    obtain ⟨σ1, e1, q1, l1⟩ := m_putN h (by omega) g.2 g.1
    rw [h1, if_neg (nI_ge (by omega) (by omega)), h2, ck_in (vp_in_nI (by omega) (by omega)), bd_of e1]
    simp only [lt]
    rw [nI_1]
    obtain ⟨σ2, e2, q2, l2⟩ := ih (k + 1) f σ1 _ (by omega) (by omega) l1 (by rw [len_snoc]; omega)
    refine ⟨σ2, e2, q1.trans q2, ?_⟩
    rw [drop_get (show k < W.length by omega)]
    rw [List.append_assoc] at l2
    exact l2
theorem m_putsWord {sI : Nat} {W : List Nat} (hw : WD sI W) {σ : MSt} {l : List Nat} (h : MFs σ l) (hl : l.length + 20 < 2 ^ 29) : ∃ σ', mm_putsWord sI σ = some σ' ∧ MWq σ σ' ∧ MFs σ' (l ++ W) := by
  have := hw.1.2.2
  exact m_word_loop2 hw W.length 0 FU σ l (by omega) (by show _ < 100000; omega) h (by omega)
theorem put_fig {v : Int32} {σ σ' : MSt} (h : mm_put v σ = some σ') : mf_figures σ' = mf_figures σ := by
  unfold mm_put mm_put_b21 at h
  split at h
  · rw [← Option.some.inj h]
    simp only [mG_thrown_freshMany, mG_tape_freshMany, mG_taped_freshMany, mG_depth_freshMany, mG_room_freshMany, mG_written_freshMany, mG_writtenMany_freshMany, mG_errorPlace_freshMany, mG_sorts_freshMany, mG_numbers_freshMany, mG_places_freshMany, mG_things_freshMany, mG_letters_freshMany, mG_lettersMany_freshMany, mG_openThing_freshMany, mG_openLeft_freshMany, mG_open_freshMany, mG_at_freshMany, mG_fault_freshMany, mG_fresh_freshMany, mG_freshMany_freshMany, mG_figures_freshMany]
  · obtain ⟨h1, h2⟩ := ck_some h
    rw [← Option.some.inj h2]
    simp only [mG_thrown_freshMany, mG_tape_freshMany, mG_taped_freshMany, mG_depth_freshMany, mG_room_freshMany, mG_written_freshMany, mG_writtenMany_freshMany, mG_errorPlace_freshMany, mG_sorts_freshMany, mG_numbers_freshMany, mG_places_freshMany, mG_things_freshMany, mG_letters_freshMany, mG_lettersMany_freshMany, mG_openThing_freshMany, mG_openLeft_freshMany, mG_open_freshMany, mG_at_freshMany, mG_fault_freshMany, mG_fresh_freshMany, mG_freshMany_freshMany, mG_figures_freshMany, mG_thrown_fresh, mG_tape_fresh, mG_taped_fresh, mG_depth_fresh, mG_room_fresh, mG_written_fresh, mG_writtenMany_fresh, mG_errorPlace_fresh, mG_sorts_fresh, mG_numbers_fresh, mG_places_fresh, mG_things_fresh, mG_letters_fresh, mG_lettersMany_fresh, mG_openThing_fresh, mG_openLeft_fresh, mG_open_fresh, mG_at_fresh, mG_fault_fresh, mG_fresh_fresh, mG_freshMany_fresh, mG_figures_fresh]
theorem out_loop {N k : Nat} (hk : k ≤ 20) : ∀ (m f : Nat) (σ : MSt) (l : List Nat), m ≤ k → m < f → MFs σ l → l.length + m < 2 ^ 29 → (∀ i, i < k → mf_figures σ i = nI (N / 10 ^ i % 10)) → ∃ σ', mm_putsNumber_L90 f (nI m - 1) σ = some σ' ∧ MWq σ σ' ∧ MFs σ' (l ++ dig m N) := by
  intro m
  induction m with
  | zero =>
    intro f σ l hm hf h hl hg
    obtain ⟨f, rfl⟩ : ∃ g, f = g + 1 := ⟨f - 1, by omega⟩
    refine ⟨σ, ?_, MWq.rfl' σ, by rw [dig_0, List.append_nil]; exact h⟩
    show mm_putsNumber_b90 _ _ σ = _
    unfold mm_putsNumber_b90
    rw [if_pos (by decide)]
  | succ m ih =>
    intro f σ l hm hf h hl hg
    obtain ⟨f, rfl⟩ : ∃ g, f = g + 1 := ⟨f - 1, by omega⟩
    show ∃ σ', mm_putsNumber_b90 (mm_putsNumber_L90 f) (nI (m + 1) - 1) σ = _ ∧ _
    unfold mm_putsNumber_b90
    rw [nI_pred, if_neg (nI_pos (by omega)), ck_in (vp_in_nI (by omega) (by decide)), nI_clamp (by omega), hg m (by omega)]
    obtain ⟨σ1, e1, q1, l1⟩ := m_putN h (by omega) (n := 48 + N / 10 ^ m % 10) (v := (48 : Int32) + nI (N / 10 ^ m % 10)) (by omega) (nI_add 48 _)
    rw [bd_of e1]
    simp only [lt]
    obtain ⟨σ2, e2, q2, l2⟩ := ih f σ1 _ (by omega) (by omega) l1 (by rw [len_snoc]; omega) (fun i hi => by rw [put_fig e1]; exact hg i hi)
    refine ⟨σ2, ?_, q1.trans q2, ?_⟩
    · rw [show nI m + (-1 : Int32) = nI m - 1 by rw [Int32.sub_eq_add_neg], e2]
    · rw [dig_cons]
      rw [List.append_assoc] at l2
      exact l2
theorem fig_loop {N : Nat} (hN : N < 2 ^ 64) : ∀ (m n f : Nat) (σ : MSt) (l : List Nat), n + m = ndg N → m < f → MFs σ l → l.length + 30 < 2 ^ 29 → (∀ i, i < n → mf_figures σ i = nI (N / 10 ^ i % 10)) → ∃ σ', mm_putsNumber_L35 f (lN (N / 10 ^ n)) (nI n) σ = some σ' ∧ MWq σ σ' ∧ MFs σ' (l ++ dec N) := by
  obtain ⟨d1, d2, d3, d4⟩ := ndg_spec (Nat.le_of_lt hN)
  have h47 : ∀ (n f : Nat) (σ : MSt), n < 24 → mm_putsNumber_b47 (mm_putsNumber_L35 f) (lN (N / 10 ^ n)) (nI n) σ = mm_putsNumber_L35 f (lN (N / 10 ^ (n + 1))) (nI (n + 1)) (ms_figures σ (upd (mf_figures σ) n (nI (N / 10 ^ n % 10)))) := by
    intro n f σ hn
    have hw : N / 10 ^ n < 2 ^ 64 := Nat.lt_of_le_of_lt (Nat.div_le_self _ _) hN
    unfold mm_putsNumber_b47
    simp only [lt]
    have e : (Int64.toUInt64 (lN (N / 10 ^ n)) >>> ((Int32.toInt64 (1 : Int32)).toUInt64 &&& Int64.toUInt64 63)).toInt64 / (5 : Int64) = lN (N / 10 ^ n / 10) := tenth_eq hw
    rw [e, ck_in (vp_in_nI hn (by decide)), nI_clamp (by omega), nI_1, show (10 : Int64) * lN (N / 10 ^ n / 10) = lN (10 * (N / 10 ^ n / 10)) from lN_mul 10 _, lN_sub (by omega), lN_i, show N / 10 ^ n - 10 * (N / 10 ^ n / 10) = N / 10 ^ n % 10 by omega, Nat.div_div_eq_div_mul, ← Nat.pow_succ]
  intro m
  induction m with
  | zero =>
    intro n f σ l hn hf h hl hg
    obtain ⟨f, rfl⟩ : ∃ g, f = g + 1 := ⟨f - 1, by omega⟩
    have en : n = ndg N := by omega
    have hz : N / 10 ^ n = 0 := Nat.div_eq_of_lt (by rw [en]; exact d2)
    show ∃ σ', mm_putsNumber_b35 (mm_putsNumber_L35 f) (lN (N / 10 ^ n)) (nI n) σ = _ ∧ _
    unfold mm_putsNumber_b35
    rw [if_neg (nI_ne0 (by omega) (by omega)), hz, if_pos (show lN 0 = (0 : Int64) from rfl)]
    simp only [lt]
    obtain ⟨σ2, e2, q2, l2⟩ := out_loop (N := N) (k := n) (by omega) n FU σ l (Nat.le_refl _) (by show _ < 100000; omega) h (by omega) hg
    refine ⟨σ2, e2, q2, ?_⟩
    unfold dec
    rw [← en]
    exact l2
  | succ m ih =>
    intro n f σ l hn hf h hl hg
    obtain ⟨f, rfl⟩ : ∃ g, f = g + 1 := ⟨f - 1, by omega⟩
    have hb : mm_putsNumber_L35 (f + 1) (lN (N / 10 ^ n)) (nI n) σ = mm_putsNumber_b47 (mm_putsNumber_L35 f) (lN (N / 10 ^ n)) (nI n) σ := by
      show mm_putsNumber_b35 (mm_putsNumber_L35 f) _ _ σ = _
      unfold mm_putsNumber_b35
      by_cases c : n = 0
      · rw [if_pos (show nI n = 0 by rw [c]; rfl)]
      · rw [if_neg (nI_ne0 (by omega) (by omega))]
        have hN1 : 10 ^ (ndg N - 1) ≤ N := by
          rcases d3 with z | z
          · omega
          · exact z
        have hN2 : 10 ^ n ≤ N := Nat.le_trans (Nat.pow_le_pow_right (by decide) (by omega)) hN1
        have h0 : 0 < N / 10 ^ n := Nat.div_pos hN2 (Nat.pow_pos (by decide))
        have h10 : 10 ≤ 10 ^ n := by
          have : 10 ^ 1 ≤ 10 ^ n := Nat.pow_le_pow_right (by decide) (by omega)
          exact this
        have hw : N / 10 ^ n ≤ N / 10 := Nat.div_le_div_left h10 (by decide)
        rw [if_neg (lN_ne0 h0 (by omega))]
    rw [hb, h47 n f σ (by omega)]
    obtain ⟨σ1, e1⟩ : ∃ σ1, σ1 = ms_figures σ (upd (mf_figures σ) n (nI (N / 10 ^ n % 10))) := ⟨_, rfl⟩
    have W1 : MWq σ σ1 := by
      rw [e1]
      unfold MWq MFr
      simp only [mG_thrown_figures, mG_tape_figures, mG_taped_figures, mG_depth_figures, mG_room_figures, mG_written_figures, mG_writtenMany_figures, mG_errorPlace_figures, mG_sorts_figures, mG_numbers_figures, mG_places_figures, mG_things_figures, mG_letters_figures, mG_lettersMany_figures, mG_openThing_figures, mG_openLeft_figures, mG_open_figures, mG_at_figures, mG_fault_figures, mG_fresh_figures, mG_freshMany_figures, mG_figures_figures, and_self]
    have F1 : MFs σ1 l := by
      rw [e1]
      unfold MFs
      simp only [mG_thrown_figures, mG_tape_figures, mG_taped_figures, mG_depth_figures, mG_room_figures, mG_written_figures, mG_writtenMany_figures, mG_errorPlace_figures, mG_sorts_figures, mG_numbers_figures, mG_places_figures, mG_things_figures, mG_letters_figures, mG_lettersMany_figures, mG_openThing_figures, mG_openLeft_figures, mG_open_figures, mG_at_figures, mG_fault_figures, mG_fresh_figures, mG_freshMany_figures, mG_figures_figures]
      exact h
    have G1 : mf_figures σ1 = upd (mf_figures σ) n (nI (N / 10 ^ n % 10)) := by rw [e1, mG_figures_figures]
    rw [← e1]
    obtain ⟨σ2, e2, q2, l2⟩ := ih (n + 1) f σ1 l (by omega) (by omega) F1 hl (fun i hi => by
      rw [G1]
      by_cases c : i = n
      · rw [c, pk_us]
      · rw [pk_un c, hg i (by omega)])
    exact ⟨σ2, e2, W1.trans q2, l2⟩
theorem m_decimal {N : Nat} (hN : N < 2 ^ 64) {σ : MSt} {l : List Nat} (h : MFs σ l) (hl : l.length + 30 < 2 ^ 29) : ∃ σ', mm_putsNumber_L35 FU (lN N) (0 : Int32) σ = some σ' ∧ MWq σ σ' ∧ MFs σ' (l ++ dec N) := by
  have d4 := (ndg_spec (Nat.le_of_lt hN)).2.2.2
  have r := fig_loop hN (ndg N) 0 FU σ l (by omega) (by show _ < 100000; omega) h hl (fun i hi => by omega)
  rw [Nat.pow_zero, Nat.div_one] at r
  exact r
theorem m_putsNumber {N : Nat} (hN : N < 2 ^ 64) {σ : MSt} {l : List Nat} (h : MFs σ l) (hl : l.length + 30 < 2 ^ 29) : ∃ σ', mm_putsNumber (lN N) (0 : Int32) σ = some σ' ∧ MWq σ σ' ∧ MFs σ' (l ++ dec N) := by
  unfold mm_putsNumber mm_putsNumber_b19
  rw [if_pos (show (0 : Int32) = 0 from rfl), if_pos (show (0 : Int32) = 0 from rfl)]
  exact m_decimal hN h hl
theorem m1_lN : (-1 : Int64) = lN 18446744073709551615 := by
  apply Int64.toBitVec_inj.mp
  rw [wb_tb]
  rfl
theorem lN_m1 {N : Nat} (hN : N < 2 ^ 64) (h : lN N = (-1 : Int64)) : N = 18446744073709551615 := by
  have z : (lN N).toBitVec.toNat = (lN 18446744073709551615).toBitVec.toNat := by rw [h.trans m1_lN]
  rw [wb_tn hN, wb_tn (n := 18446744073709551615) (by decide)] at z
  exact z
theorem lt_app {α β : Type} (a : α) (k : α → β) : lt a k = k a := rfl
theorem pL_neg {N : Nat} {σ : MSt} (h : ¬ lN N = (-1 : Int64)) : mm_putsNumber (lN N) (1 : Int32) σ = mm_putsNumber_L35 FU (lN (N + 1)) (0 : Int32) σ := by
  unfold mm_putsNumber mm_putsNumber_b19
  rw [if_neg (show ¬ (1 : Int32) = 0 by decide), if_neg (show ¬ (1 : Int32) = 0 by decide), if_neg h]
  rw [lt_app, lN_1]
theorem bd_id {α : Type} (x : Option α) : bd x (fun y => some y) = x := by cases x <;> rfl
theorem pL_pos {N : Nat} {σ : MSt} (h : lN N = (-1 : Int64)) : mm_putsNumber (lN N) (1 : Int32) σ = mm_putsWord 4 σ := by
  unfold mm_putsNumber
  rw [if_neg (show ¬ (1 : Int32) = 0 by decide), if_pos h, bd_id]
theorem m_putsLess {N : Nat} (hN : N < 2 ^ 64) {σ : MSt} {l : List Nat} (h : MFs σ l) (hl : l.length + 30 < 2 ^ 29) : ∃ σ', mm_putsNumber (lN N) (1 : Int32) σ = some σ' ∧ MWq σ σ' ∧ MFs σ' (l ++ dec (N + 1)) := by
  by_cases c : lN N = (-1 : Int64)
  · have e : N + 1 = 18446744073709551616 := congrArg (· + 1) (lN_m1 hN c)
    rw [pL_pos c, e]
    exact m_putsWord WD_4 h (by omega)
  · have hN1 : N + 1 < 2 ^ 64 := by
      rcases Nat.lt_or_ge (N + 1) (2 ^ 64) with z | z
      · exact z
      · have e : N = 18446744073709551615 := Nat.le_antisymm (Nat.le_of_lt_succ hN) (Nat.le_of_succ_le_succ z)
        exact absurd ((congrArg lN e).trans m1_lN.symm) c
    rw [pL_neg c]
    exact m_decimal hN1 h hl
/-- the letter behind \ for a byte; 0 if there is none -/
def ltr (b : Nat) : Nat := if b = 34 ∨ b = 92 then b else if b = 8 then 98 else if b = 9 then 116 else if b = 10 then 110 else if b = 12 then 102 else if b = 13 then 114 else 0
def chv (v : Int32) : Int32 := if v = (34 : Int32) then v else (if v = (92 : Int32) then v else (if v = (8 : Int32) then (98 : Int32) else (if v = (9 : Int32) then (116 : Int32) else (if v = (10 : Int32) then (110 : Int32) else (if v = (12 : Int32) then (102 : Int32) else (if v = (13 : Int32) then (114 : Int32) else (0 : Int32)))))))
theorem chv_ltr : ∀ b, b < 256 → chv (bb b) = nI (ltr b) := by decide +kernel
theorem ltr_cases : ∀ b, b < 256 → (0 < ltr b ∧ ltr b < 128 ∧ eJ b = [92, ltr b]) ∨ (ltr b = 0 ∧ bb b < 0 ∧ eJ b = [b]) ∨ (ltr b = 0 ∧ ¬ bb b < 0 ∧ (32 : Int32) ≤ bb b ∧ eJ b = [b]) ∨ (ltr b = 0 ∧ ¬ bb b < 0 ∧ ¬ (32 : Int32) ≤ bb b ∧ eX5_shown (bb b / (16 : Int32)) = nI (hxd (b / 16)) ∧ eX5_shown (bb b - bb b / (16 : Int32) * (16 : Int32)) = nI (hxd (b % 16)) ∧ hxd (b / 16) < 256 ∧ hxd (b % 16) < 256 ∧ eJ b = [92, 117, 48, 48, hxd (b / 16), hxd (b % 16)]) := by decide +kernel
theorem m_b105 {k8 : Int32 → Int32 → MSt → Option MSt} {a1 : Int32} {k b : Nat} (hb : b < 256) {σ : MSt} {l : List Nat} (h : MFs σ l) (hl : l.length + 30 < 2 ^ 29) : ∃ σ', mm_putsString_b105 k8 a1 (nI k) (bb b) (nI (ltr b)) σ = k8 a1 (nI (k + 1)) σ' ∧ MWq σ σ' ∧ MFs σ' (l ++ eJ b) := by
  have b168 : eJ b = [b] → ∃ σ', mm_putsString_b168 k8 a1 (nI k) (bb b) σ = k8 a1 (nI (k + 1)) σ' ∧ MWq σ σ' ∧ MFs σ' (l ++ eJ b) := by
    intro e
    unfold mm_putsString_b168
    obtain ⟨σ1, e1, q1, l1⟩ := m_put h (by omega) (bb b)
    rw [lowb_bb hb] at l1
    rw [bd_of e1, e]
    simp only [lt]
    rw [nI_1]
    exact ⟨σ1, rfl, q1, l1⟩
  unfold mm_putsString_b105
  rcases ltr_cases b hb with ⟨c1, c2, c3⟩ | ⟨c1, c2, c3⟩ | ⟨c1, c2, c3, c4⟩ | ⟨c1, c2, c3, c4, c5, c6, c7, c8⟩
  · obtain ⟨σ1, e1, q1, l1⟩ := m_putN h (by omega) (n := 92) (v := 92) (by decide) rfl
    obtain ⟨σ2, e2, q2, l2⟩ := m_putN l1 (by rw [len_snoc]; omega) (n := ltr b) (by omega) rfl
    rw [if_neg (nI_np c1 (by omega)), bd_of e1, bd_of e2]
    simp only [lt]
    rw [nI_1, c3]
    refine ⟨σ2, rfl, q1.trans q2, ?_⟩
    rw [List.append_assoc] at l2
    exact l2
  · rw [c1, if_pos (show nI 0 ≤ (0 : Int32) by decide), if_pos c2]
    exact b168 c3
  · rw [c1, if_pos (show nI 0 ≤ (0 : Int32) by decide), if_neg c2, if_pos c3]
    exact b168 c4
  · obtain ⟨σ1, e1, q1, l1⟩ := m_putsWord WD_5 h (by omega)
    obtain ⟨σ2, e2, q2, l2⟩ := m_putN l1 (by rw [List.length_append]; show l.length + 4 < _; omega) c6 c4
    obtain ⟨σ3, e3, q3, l3⟩ := m_putN l2 (by rw [len_snoc, List.length_append]; show l.length + 4 + 1 < _; omega) c7 c5
    rw [c1, if_pos (show nI 0 ≤ (0 : Int32) by decide), if_neg c2, if_neg c3, bd_of e1, bd_of e2, bd_of e3]
    simp only [lt]
    rw [nI_1, c8]
    refine ⟨σ3, rfl, (q1.trans q2).trans q3, ?_⟩
    simp only [List.append_assoc] at l3
    exact l3
theorem m_strs {σ0 : MSt} {it n l0 : Nat} {bs : List Nat} (hit : it < 4200) (hn : n = bs.length) (hn4 : n ≤ 8000) (hl0 : l0 + n ≤ 8200) (hbs : ∀ x ∈ bs, x < 256) (h1 : mf_numbers σ0 it = lN n) (h2 : mf_places σ0 it = nI l0) (h3 : ∀ k, k < n → mf_letters σ0 (l0 + k) = bb (bs.getD k 0)) : ∀ (m k f : Nat) (σ : MSt) (l : List Nat), k + m = n → m < f → MWq σ0 σ → MFs σ l → l.length + 6 * m + 40 < 2 ^ 29 → ∃ σ', mm_putsString_L8 f (nI it) (nI k) σ = some σ' ∧ MWq σ σ' ∧ MFs σ' (l ++ (esc (bs.drop k) ++ [34])) := by
  intro m
  induction m with
  | zero =>
    intro k f σ l hk hf q h hl
    obtain ⟨f, rfl⟩ : ∃ g, f = g + 1 := ⟨f - 1, by omega⟩
    obtain ⟨σ1, e1, q1, l1⟩ := m_putN h (by omega) (n := 34) (v := 34) (by decide) rfl
    refine ⟨σ1, ?_, q1, by rw [List.drop_of_length_le (by omega)]; exact l1⟩
    show mm_putsString_b8 _ _ _ σ = _
    unfold mm_putsString_b8
    rw [ck_in (vp_in_nI hit (by decide)), nI_clamp (by omega), q.2.1.2.1, h1, lN_i, if_pos (nI_le (by omega) (by omega)), bd_of e1]
  | succ m ih =>
    intro k f σ l hk hf q h hl
    obtain ⟨f, rfl⟩ : ∃ g, f = g + 1 := ⟨f - 1, by omega⟩
    have hb := getD_lt hbs k
    have hch : ∀ v : Int32, (if v = (34 : Int32) then mm_putsString_b105 (mm_putsString_L8 f) (nI it) (nI k) v v σ else (if v = (92 : Int32) then mm_putsString_b105 (mm_putsString_L8 f) (nI it) (nI k) v v σ else (if v = (8 : Int32) then mm_putsString_b105 (mm_putsString_L8 f) (nI it) (nI k) v (98 : Int32) σ else (if v = (9 : Int32) then mm_putsString_b105 (mm_putsString_L8 f) (nI it) (nI k) v (116 : Int32) σ else (if v = (10 : Int32) then mm_putsString_b105 (mm_putsString_L8 f) (nI it) (nI k) v (110 : Int32) σ else (if v = (12 : Int32) then mm_putsString_b105 (mm_putsString_L8 f) (nI it) (nI k) v (102 : Int32) σ else (if v = (13 : Int32) then mm_putsString_b105 (mm_putsString_L8 f) (nI it) (nI k) v (114 : Int32) σ else mm_putsString_b105 (mm_putsString_L8 f) (nI it) (nI k) v (0 : Int32) σ))))))) = mm_putsString_b105 (mm_putsString_L8 f) (nI it) (nI k) v (chv v) σ := by
      intro v
      unfold chv
      repeat' split
      all_goals rfl
    show ∃ σ', mm_putsString_b8 (mm_putsString_L8 f) (nI it) (nI k) σ = _ ∧ _
    unfold mm_putsString_b8
    rw [ck_in (vp_in_nI hit (by decide)), nI_clamp (by omega), q.2.1.2.1, h1, lN_i, if_neg (nI_ge (by omega) (by omega)), ck_in (vp_in_nI hit (by decide)), q.2.1.2.2.1, h2, nI_add, ck_in (vp_in_nI (by omega) (by decide)), nI_clamp (by omega), q.2.2.1.1, h3 k (by omega)]
    simp only [lt]
    rw [hch, chv_ltr _ hb]
    obtain ⟨σ1, e1, q1, l1⟩ := m_b105 (k8 := mm_putsString_L8 f) (a1 := nI it) (k := k) hb h (by omega)
    have hj := eJ_len (bs.getD k 0)
    rw [e1]
    obtain ⟨σ2, e2, q2, l2⟩ := ih (k + 1) f σ1 _ (by omega) (by omega) (q.trans q1) l1 (by rw [List.length_append]; omega)
    refine ⟨σ2, e2, q1.trans q2, ?_⟩
    rw [drop_get (show k < bs.length by omega)]
    show MFs σ2 (l ++ (eJ (bs.getD k 0) ++ esc (bs.drop (k + 1)) ++ [34]))
    rw [List.append_assoc] at l2
    rw [List.append_assoc]
    exact l2
/-- a thing that is no array and no map -/
theorem m_thing {σ : MSt} {pre rest : List Tok} {x : Tok} {l : List Nat} (hm : MTs σ (pre ++ x :: rest)) (hx : x.1 = 0 ∨ x.1 = 1 ∨ x.1 = 3 ∨ x.1 = 7) (h7 : x.1 = 7 → x.2.1 = 20 ∨ x.2.1 = 21 ∨ x.2.1 = 22) (h : MFs σ l) (hl : l.length ≤ 200000) : ∃ σ', mm_putsThing (nI pre.length) σ = some σ' ∧ MWq σ σ' ∧ MFs σ' (l ++ jTk x) := by
  obtain ⟨m0, m1, m2, m3, m4, m5, m6, m7⟩ := hm.mid
  have hit : pre.length < 4200 := by omega
  have hck : ∀ {α : Type} (y : Option α), ck (nI pre.length) 4200 y = y := fun y => ck_in (vp_in_nI hit (by decide))
  unfold mm_putsThing
  simp only [hck]
  rw [nI_clamp (by omega), m1, m2]
  rcases hx with e | e | e | e
  · rw [e, if_pos (show nI 0 = (0 : Int32) from rfl)]
    obtain ⟨σ1, e1, q1, l1⟩ := m_putsNumber m6.2.1 h (by omega)
    rw [bd_of e1]
    refine ⟨σ1, rfl, q1, ?_⟩
    unfold jTk
    rw [if_pos e]
    exact l1
  · rw [e, if_neg (by decide), if_pos (show nI 1 = (1 : Int32) from rfl)]
    obtain ⟨σ1, e1, q1, l1⟩ := m_putN h (by omega) (n := 45) (v := 45) (by decide) rfl
    rw [bd_of e1, q1.2.1.2.1, m2]
    obtain ⟨σ2, e2, q2, l2⟩ := m_putsLess m6.2.1 l1 (by rw [len_snoc]; omega)
    rw [bd_of e2]
    refine ⟨σ2, rfl, q1.trans q2, ?_⟩
    unfold jTk
    rw [if_neg (by omega), if_pos e]
    rw [List.append_assoc] at l2
    exact l2
  · rw [e, if_neg (by decide), if_neg (by decide), if_neg (by decide), if_pos (show nI 3 = (3 : Int32) from rfl)]
    unfold mm_putsString
    obtain ⟨σ1, e1, q1, l1⟩ := m_putN h (by omega) (n := 34) (v := 34) (by decide) rfl
    have hn := m6.2.2.2.1 e
    obtain ⟨σ2, e2, q2, l2⟩ := m_strs (σ0 := σ) (it := pre.length) (n := x.2.1) (l0 := (ltL pre).length) (bs := x.2.2) hit hn (by omega) (by omega) m6.2.2.1 m2 m3 (fun k hk => m5 k (by omega)) x.2.1 0 FU σ1 _ (by omega) (by show _ < 100000; omega) q1 l1 (by rw [len_snoc]; omega)
    rw [bd_of e1, bd_of (show mm_putsString_L8 FU (nI pre.length) (0 : Int32) σ1 = some σ2 from e2)]
    refine ⟨σ2, rfl, q1.trans q2, ?_⟩
    unfold jTk
    rw [if_neg (by omega), if_neg (by omega), if_pos e]
    rw [List.drop_zero, List.append_assoc] at l2
    exact l2
  · rw [e, if_neg (by decide), if_neg (by decide), if_neg (by decide), if_neg (by decide), if_neg (by decide), if_neg (by decide), if_neg (by decide), if_pos (show nI 7 = (7 : Int32) from rfl)]
    have hj : jTk x = wdC x.2.1 := by
      unfold jTk
      rw [if_neg (by omega), if_neg (by omega), if_neg (by omega)]
    rw [hj]
    rcases h7 e with z | z | z
    · rw [z, if_pos (show lN 20 = (20 : Int64) from rfl)]
      obtain ⟨σ1, e1, q1, l1⟩ := m_putsWord WD_0 h (by omega)
      rw [bd_of e1]
      exact ⟨σ1, rfl, q1, l1⟩
    · rw [z, if_neg (show ¬ lN 21 = (20 : Int64) by decide), if_pos (show lN 21 = (21 : Int64) from rfl)]
      obtain ⟨σ1, e1, q1, l1⟩ := m_putsWord WD_1 h (by omega)
      rw [bd_of e1]
      exact ⟨σ1, rfl, q1, l1⟩
    · rw [z, if_neg (show ¬ lN 22 = (20 : Int64) by decide), if_neg (show ¬ lN 22 = (21 : Int64) by decide)]
      obtain ⟨σ1, e1, q1, l1⟩ := m_putsWord WD_2 h (by omega)
      rw [bd_of e1]
      exact ⟨σ1, rfl, q1, l1⟩
