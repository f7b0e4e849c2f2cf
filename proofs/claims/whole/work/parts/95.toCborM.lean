/-! PURE Z: toCbor of the reference, and toCbor of both -/
theorem m_lets {σ0 : MSt} {it n l0 : Nat} {bs : List Nat} (hit : it < 4200) (hn : n = bs.length) (hn4 : n ≤ 8000) (hl0 : l0 + n ≤ 8200) (hbs : ∀ x ∈ bs, x < 256) (h1 : mf_numbers σ0 it = lN n) (h2 : mf_places σ0 it = nI l0) (h3 : ∀ k, k < n → mf_letters σ0 (l0 + k) = bb (bs.getD k 0)) : ∀ (m k f : Nat) (σ : MSt) (l : List Nat), k + m = n → m < f → MWq σ0 σ → MFs σ l → l.length + m < 2 ^ 29 → ∃ σ', mm_putsLetters_L2 f (nI it) (nI k) σ = some σ' ∧ MWq σ σ' ∧ MFs σ' (l ++ bs.drop k) := by
  intro m
  induction m with
  | zero =>
    intro k f σ l hk hf q h hl
    obtain ⟨f, rfl⟩ : ∃ g, f = g + 1 := ⟨f - 1, by omega⟩
    refine ⟨σ, ?_, MWq.rfl' σ, by rw [List.drop_of_length_le (by omega), List.append_nil]; exact h⟩
    show mm_putsLetters_b2 _ _ _ σ = _
    unfold mm_putsLetters_b2
    rw [ck_in (vp_in_nI hit (by decide)), nI_clamp (by omega), q.2.1.2.1, h1, lN_i, if_pos (nI_le (by omega) (by omega))]
  | succ m ih =>
    intro k f σ l hk hf q h hl
    obtain ⟨f, rfl⟩ : ∃ g, f = g + 1 := ⟨f - 1, by omega⟩
    have hb := getD_lt hbs k
    show ∃ σ', mm_putsLetters_b2 (mm_putsLetters_L2 f) (nI it) (nI k) σ = _ ∧ _
    unfold mm_putsLetters_b2
    rw [ck_in (vp_in_nI hit (by decide)), nI_clamp (by omega), q.2.1.2.1, h1, lN_i, if_neg (nI_ge (by omega) (by omega)), ck_in (vp_in_nI hit (by decide)), q.2.1.2.2.1, h2, nI_add, ck_in (vp_in_nI (by omega) (by decide)), nI_clamp (by omega), q.2.2.1.1, h3 k (by omega)]
    obtain ⟨σ1, e1, q1, l1⟩ := m_put h (by omega) (bb (bs.getD k 0))
    rw [lowb_bb hb] at l1
    rw [bd_of e1]
    simp only [lt]
    rw [nI_1]
    obtain ⟨σ2, e2, q2, l2⟩ := ih (k + 1) f σ1 _ (by omega) (by omega) (q.trans q1) l1 (by rw [List.length_append, List.length_singleton]; omega)
    refine ⟨σ2, e2, q1.trans q2, ?_⟩
    rw [List.append_assoc] at l2
    have e : bs.drop k = [bs.getD k 0] ++ bs.drop (k + 1) := by
      rw [List.drop_eq_getElem_cons (show k < bs.length by omega), List.getD_eq_getElem?_getD, List.getElem?_eq_getElem (show k < bs.length by omega)]
      rfl
    rw [e]
    exact l2
/-- the things of the reference are the row ts -/
def MTs (σ : MSt) (ts : List Tok) : Prop := MTh σ (thL 0 ts) ∧ MLt σ (ltL ts) ∧ (∀ x ∈ ts, wTk x) ∧ ts.length + (ltL ts).length ≤ 4000
theorem ltL_mem {ts : List Tok} (h : ∀ x ∈ ts, wTk x) : ∀ b ∈ ltL ts, b < 256 := by
  induction ts with
  | nil => intro b hb; exact absurd hb List.not_mem_nil
  | cons x ts ih =>
    intro b hb
    rcases List.mem_append.mp (show b ∈ x.2.2 ++ ltL ts from hb) with z | z
    · exact (h x (List.mem_cons_self ..)).2.2.1 b z
    · exact ih (fun y hy => h y (List.mem_cons_of_mem _ hy)) b z
/-- what the reference knows of the thing behind pre -/
theorem MTs.mid {σ : MSt} {pre rest : List Tok} {x : Tok} (h : MTs σ (pre ++ x :: rest)) : pre.length < 4000 ∧ mf_sorts σ pre.length = nI x.1 ∧ mf_numbers σ pre.length = lN x.2.1 ∧ mf_places σ pre.length = nI (ltL pre).length ∧ ((ltL pre).length + x.2.2.length ≤ 4000) ∧ (∀ k, k < x.2.2.length → mf_letters σ ((ltL pre).length + k) = bb (x.2.2.getD k 0)) ∧ wTk x ∧ mf_things σ = nI (pre.length + (rest.length + 1)) := by
  obtain ⟨h1, h2, h3, h4⟩ := h
  have hl : (pre ++ x :: rest).length = pre.length + (rest.length + 1) := by rw [List.length_append]; rfl
  have e1 : ltL (pre ++ x :: rest) = ltL pre ++ (x.2.2 ++ ltL rest) := by rw [ltL_app]; rfl
  have e2 : thL 0 (pre ++ x :: rest) = thL 0 pre ++ (x.1, x.2.1, (ltL pre).length) :: thL ((ltL pre).length + x.2.2.length) rest := by
    rw [thL_app, Nat.zero_add]
    rfl
  have hlen : (thL 0 (pre ++ x :: rest)).length = pre.length + (rest.length + 1) := by rw [thL_len, hl]
  rw [hl, e1] at h4
  simp only [List.length_append] at h4
  have g := h1.2 pre.length (by rw [hlen]; omega)
  have gm : gT (thL 0 (pre ++ x :: rest)) pre.length = (x.1, x.2.1, (ltL pre).length) := by
    rw [e2]
    have := gT_mid (thL 0 pre) (thL ((ltL pre).length + x.2.2.length) rest) (x.1, x.2.1, (ltL pre).length)
    rw [thL_len] at this
    exact this
  rw [gm] at g
  refine ⟨by omega, g.1, g.2.1, g.2.2, by omega, fun k hk => ?_, h3 x (List.mem_append_right _ (List.mem_cons_self ..)), by rw [h1.1, hlen]⟩
  have gl := h2.2 ((ltL pre).length + k) (by rw [e1]; simp only [List.length_append]; omega)
  rw [e1, getD_app2 (by omega), Nat.add_sub_cancel_left, getD_app hk] at gl
  exact gl
theorem MTs.w {σ σ' : MSt} {ts : List Tok} (h : MTs σ ts) (g : MWq σ σ') : MTs σ' ts := by
  obtain ⟨h1, h2, h3, h4⟩ := h
  obtain ⟨g0, ⟨g1, g2, g3, g4⟩, ⟨g5, g6⟩, _⟩ := g
  exact ⟨⟨by rw [g4]; exact h1.1, fun i hi => by rw [g1, g2, g3]; exact h1.2 i hi⟩, ⟨by rw [g6]; exact h2.1, fun i hi => by rw [g5]; exact h2.2 i hi⟩, h3, h4⟩
theorem writesCbor_loop {ts : List Tok} : ∀ (rest pre : List Tok) (f : Nat) (σ : MSt), ts = pre ++ rest → rest.length < f → MTs σ ts → MFs σ (encL pre) → (encL pre).length ≤ 10 * 4000 → ∃ σ', mm_writesCbor_L7 f (nI pre.length) σ = mm_ends σ' ∧ MWq σ σ' ∧ MFs σ' (encL ts) := by
  intro rest
  induction rest with
  | nil =>
    intro pre f σ e hf h hF hle
    obtain ⟨f, rfl⟩ : ∃ g, f = g + 1 := ⟨f - 1, by omega⟩
    rw [List.append_nil] at e
    subst e
    have h4 := h.2.2.2
    refine ⟨σ, ?_, MWq.rfl' σ, hF⟩
    show mm_writesCbor_b7 _ _ σ = _
    unfold mm_writesCbor_b7
    rw [h.1.1, thL_len, if_pos (nI_le (Nat.le_refl _) (by omega))]
    cases hx : mm_ends σ with
    | none => rfl
    | some y => rfl
  | cons x rest ih =>
    intro pre f σ e hf h hF hle
    obtain ⟨f, rfl⟩ : ∃ g, f = g + 1 := ⟨f - 1, by omega⟩
    have hm : MTs σ (pre ++ x :: rest) := by rw [← e]; exact h
    obtain ⟨m0, m1, m2, m3, m4, m5, m6, m7⟩ := hm.mid
    show ∃ σ', mm_writesCbor_b7 (mm_writesCbor_L7 f) (nI pre.length) σ = _ ∧ _
    unfold mm_writesCbor_b7
    have hlen : pre.length + (rest.length + 1) ≤ 4000 := by
      have := hm.2.2.2
      rw [List.length_append, List.length_cons] at this
      omega
    rw [m7, if_neg (nI_ge (by omega) (by omega)), ck_in (vp_in_nI (by omega) (by decide)), ck_in (vp_in_nI (by omega) (by decide)), nI_clamp (by omega), m1, m2]
    obtain ⟨σ1, e1, q1, l1⟩ := m_puts m6.1 m6.2.1 hF (by omega)
    rw [bd_of e1, ck_in (vp_in_nI (by omega) (by decide)), q1.2.1.1, m1]
    have hpre : (pre ++ [x]).length = pre.length + 1 := by rw [List.length_append]; rfl
    have henc : encL (pre ++ [x]) = encL pre ++ (hd x.1 x.2.1 ++ x.2.2) := by
      rw [encL_app]
      show encL pre ++ (hd x.1 x.2.1 ++ x.2.2 ++ []) = _
      rw [List.append_nil]
    have hlen2 : (encL (pre ++ [x])).length ≤ 10 * 4000 := by
      have := encL_len (pre ++ [x])
      have h5 : (ltL (pre ++ [x])).length = (ltL pre).length + x.2.2.length := by
        rw [ltL_app, List.length_append]
        show _ + (x.2.2 ++ []).length = _
        rw [List.append_nil]
      rw [hpre, h5] at this
      have h6 := hm.2.2.2
      rw [ltL_app, List.length_append, List.length_append, List.length_cons] at h6
      have h7 : (ltL (x :: rest)).length = x.2.2.length + (ltL rest).length := by show (x.2.2 ++ ltL rest).length = _; rw [List.length_append]
      omega
    by_cases c : x.1 = 3
    · rw [if_pos (show nI x.1 = (3 : Int32) by rw [c]; rfl)]
      have hnx := m6.2.2.2.1 c
      obtain ⟨σ2, e2, q2, l2⟩ := m_lets (σ0 := σ) (it := pre.length) (n := x.2.1) (l0 := (ltL pre).length) (bs := x.2.2) (by omega) hnx (by omega) (by omega) m6.2.2.1 m2 m3 (fun k hk => m5 k (by omega)) x.2.1 0 FU σ1 _ (by omega) (by show _ < 100000; omega) q1 l1 (by
        have := hd_len x.1 x.2.1
        have := nb_le x.2.1
        rw [List.length_append]
        omega)
      rw [List.drop_zero, List.append_assoc, ← henc] at l2
      rw [bd_of (show mm_putsLetters (nI pre.length) σ1 = some σ2 from e2)]
      simp only [lt]
      obtain ⟨σ3, e3, q3, l3⟩ := ih (pre ++ [x]) f σ2 (by rw [e]; simp) (by rw [List.length_cons] at hf; omega) ((h.w q1).w q2) l2 hlen2
      rw [hpre] at e3
      exact ⟨σ3, by rw [nI_1, e3], (q1.trans q2).trans q3, l3⟩
    · rw [if_neg (show ¬ nI x.1 = (3 : Int32) from fun z => c ((nI_eq (b := 3) (by have := m6.1; omega) (by decide)).mp z))]
      simp only [lt]
      have hx0 := m6.2.2.2.2 c
      rw [hx0, List.append_nil] at henc
      rw [← henc] at l1
      obtain ⟨σ3, e3, q3, l3⟩ := ih (pre ++ [x]) f σ1 (by rw [e]; simp) (by rw [List.length_cons] at hf; omega) (h.w q1) l1 hlen2
      rw [hpre] at e3
      exact ⟨σ3, by rw [nI_1, e3], q1.trans q3, l3⟩
/-- what a translation leaves in the reference -/
def MOut (σ : MSt) (F : Rd (List Nat)) (r : Int32) (σ' : MSt) : Prop := (mf_tape σ' = mf_tape σ ∧ mf_taped σ' = mf_taped σ ∧ mf_depth σ' = mf_depth σ ∧ mf_room σ' = mf_room σ) ∧ match F with
  | .inl kq => r = -(nI kq.1) ∧ mf_written σ' = mf_written σ ∧ mf_writtenMany σ' = mf_writtenMany σ ∧ mf_errorPlace σ' = nI kq.2
  | .inr bs => r = nI bs.length ∧ mf_writtenMany σ' = nI bs.length ∧ (∀ i, i < bs.length → mf_written σ' i = bb (bs.getD i 0)) ∧ mf_errorPlace σ' = -1
theorem ends_loop {l : List Nat} (hl : l.length ≤ 6000) : ∀ (m k f : Nat) (σ : MSt), k + m = l.length → m < f → MFs σ l → (∀ i, i < k → mf_written σ i = bb (l.getD i 0)) → ∃ σ', mm_ends_L36 f (nI k) σ = some (nI l.length, σ') ∧ (mf_tape σ' = mf_tape σ ∧ mf_taped σ' = mf_taped σ ∧ mf_depth σ' = mf_depth σ ∧ mf_room σ' = mf_room σ) ∧ mf_writtenMany σ' = nI l.length ∧ (∀ i, i < l.length → mf_written σ' i = bb (l.getD i 0)) ∧ mf_errorPlace σ' = mf_errorPlace σ := by
  intro m
  induction m with
  | zero =>
    intro k f σ hk hf h hw
    obtain ⟨f, rfl⟩ : ∃ g, f = g + 1 := ⟨f - 1, by omega⟩
    show ∃ σ', mm_ends_b36 _ (nI k) σ = _ ∧ _
    unfold mm_ends_b36
    rw [h.1, if_pos (nI_le (by omega) (by omega))]
    refine ⟨_, rfl, ?_, ?_, fun i hi => ?_, ?_⟩
    · simp only [mG_thrown_writtenMany, mG_tape_writtenMany, mG_taped_writtenMany, mG_depth_writtenMany, mG_room_writtenMany, mG_written_writtenMany, mG_writtenMany_writtenMany, mG_errorPlace_writtenMany, mG_sorts_writtenMany, mG_numbers_writtenMany, mG_places_writtenMany, mG_things_writtenMany, mG_letters_writtenMany, mG_lettersMany_writtenMany, mG_openThing_writtenMany, mG_openLeft_writtenMany, mG_open_writtenMany, mG_at_writtenMany, mG_fault_writtenMany, mG_fresh_writtenMany, mG_freshMany_writtenMany, mG_figures_writtenMany, and_self]
    · simp only [mG_thrown_writtenMany, mG_tape_writtenMany, mG_taped_writtenMany, mG_depth_writtenMany, mG_room_writtenMany, mG_written_writtenMany, mG_writtenMany_writtenMany, mG_errorPlace_writtenMany, mG_sorts_writtenMany, mG_numbers_writtenMany, mG_places_writtenMany, mG_things_writtenMany, mG_letters_writtenMany, mG_lettersMany_writtenMany, mG_openThing_writtenMany, mG_openLeft_writtenMany, mG_open_writtenMany, mG_at_writtenMany, mG_fault_writtenMany, mG_fresh_writtenMany, mG_freshMany_writtenMany, mG_figures_writtenMany]
    · simp only [mG_thrown_writtenMany, mG_tape_writtenMany, mG_taped_writtenMany, mG_depth_writtenMany, mG_room_writtenMany, mG_written_writtenMany, mG_writtenMany_writtenMany, mG_errorPlace_writtenMany, mG_sorts_writtenMany, mG_numbers_writtenMany, mG_places_writtenMany, mG_things_writtenMany, mG_letters_writtenMany, mG_lettersMany_writtenMany, mG_openThing_writtenMany, mG_openLeft_writtenMany, mG_open_writtenMany, mG_at_writtenMany, mG_fault_writtenMany, mG_fresh_writtenMany, mG_freshMany_writtenMany, mG_figures_writtenMany]
      exact hw i (by omega)
    · simp only [mG_thrown_writtenMany, mG_tape_writtenMany, mG_taped_writtenMany, mG_depth_writtenMany, mG_room_writtenMany, mG_written_writtenMany, mG_writtenMany_writtenMany, mG_errorPlace_writtenMany, mG_sorts_writtenMany, mG_numbers_writtenMany, mG_places_writtenMany, mG_things_writtenMany, mG_letters_writtenMany, mG_lettersMany_writtenMany, mG_openThing_writtenMany, mG_openLeft_writtenMany, mG_open_writtenMany, mG_at_writtenMany, mG_fault_writtenMany, mG_fresh_writtenMany, mG_freshMany_writtenMany, mG_figures_writtenMany]
  | succ m ih =>
    intro k f σ hk hf h hw
    obtain ⟨f, rfl⟩ : ∃ g, f = g + 1 := ⟨f - 1, by omega⟩
    show ∃ σ', mm_ends_b36 (mm_ends_L36 f) (nI k) σ = _ ∧ _
    unfold mm_ends_b36
    rw [h.1, if_neg (nI_ge (by omega) (by omega)), ck_in (vp_in_nI (by omega) (by decide)), ck_in (vp_in_nI (by omega) (by decide)), nI_clamp (by omega), h.2 k (by omega) (by omega), bb_vb]
    simp only [lt]
    rw [nI_1]
    obtain ⟨σ1, e1⟩ : ∃ σ1, σ1 = ms_written σ (upd (mf_written σ) k (bb (l.getD k 0))) := ⟨_, rfl⟩
    have W1 : mf_written σ1 = upd (mf_written σ) k (bb (l.getD k 0)) := by rw [e1, mG_written_written]
    have Q1 : mf_tape σ1 = mf_tape σ ∧ mf_taped σ1 = mf_taped σ ∧ mf_depth σ1 = mf_depth σ ∧ mf_room σ1 = mf_room σ := by rw [e1]; simp only [mG_thrown_written, mG_tape_written, mG_taped_written, mG_depth_written, mG_room_written, mG_written_written, mG_writtenMany_written, mG_errorPlace_written, mG_sorts_written, mG_numbers_written, mG_places_written, mG_things_written, mG_letters_written, mG_lettersMany_written, mG_openThing_written, mG_openLeft_written, mG_open_written, mG_at_written, mG_fault_written, mG_fresh_written, mG_freshMany_written, mG_figures_written, and_self]
    have E1 : mf_errorPlace σ1 = mf_errorPlace σ := by rw [e1, mG_errorPlace_written]
    rw [← e1]
    obtain ⟨σ2, e2, q2, w2, x2, y2⟩ := ih (k + 1) f σ1 (by omega) (by omega) (by rw [e1]; unfold MFs; simp only [mG_thrown_written, mG_tape_written, mG_taped_written, mG_depth_written, mG_room_written, mG_written_written, mG_writtenMany_written, mG_errorPlace_written, mG_sorts_written, mG_numbers_written, mG_places_written, mG_things_written, mG_letters_written, mG_lettersMany_written, mG_openThing_written, mG_openLeft_written, mG_open_written, mG_at_written, mG_fault_written, mG_fresh_written, mG_freshMany_written, mG_figures_written]; exact h) (fun i hi => by
      rw [W1]
      by_cases e : i = k
      · rw [e, pk_us]
      · rw [pk_un e, hw i (by omega)])
    exact ⟨σ2, e2, ⟨q2.1.trans Q1.1, q2.2.1.trans Q1.2.1, q2.2.2.1.trans Q1.2.2.1, q2.2.2.2.trans Q1.2.2.2⟩, w2, x2, y2.trans E1⟩
theorem m_ends {t l : List Nat} {σ : MSt} {rm : Nat} (hT : TpM σ t) (hrm : mf_room σ = nI rm) (hrm6 : rm ≤ 6000) (hf : mf_fault σ = 0) (he : mf_errorPlace σ = -1) (h : MFs σ l) (hl : l.length ≤ 100000) : ∃ r σ', mm_ends σ = some (r, σ') ∧ MOut σ (if l.length ≤ rm then .inr l else .inl (5, t.length)) r σ' := by
  unfold mm_ends mm_ends_b21
  rw [h.1, hrm]
  by_cases c : l.length ≤ rm
  · rw [if_pos c, if_pos (nI_le c (by omega)), hf, if_pos (by decide)]
    obtain ⟨σ2, e2, q2, w2, x2, y2⟩ := ends_loop (l := l) (by omega) l.length 0 FU σ (by omega) (by show _ < 100000; omega) h (fun i hi => by omega)
    exact ⟨_, σ2, e2, q2, rfl, w2, x2, y2.trans he⟩
  · rw [if_neg c, if_neg (nI_ge (by omega) (by omega)), bd_of (wrong_eq hf _ _)]
    obtain ⟨b1, b2, b3⟩ := BadS_mF σ 5 t.length
    have hw : mF σ 5 (mf_taped σ) = mF σ (nI 5) (nI t.length) := by rw [hT.1]; rfl
    simp only []
    rw [hw, b2, if_neg (show ¬ nI 5 ≤ (0 : Int32) by decide)]
    exact ⟨_, _, rfl, ⟨b1.1.1, b1.1.2.1, b1.1.2.2, b1.2.1⟩, rfl, b1.2.2.1, b1.2.2.2, b3⟩
theorem MOut.of {σ σ1 σ' : MSt} {F : Rd (List Nat)} {r : Int32} (g : MFr σ σ1) (h : MOut σ1 F r σ') : MOut σ F r σ' := by
  obtain ⟨⟨h1, h2, h3, h4⟩, h5⟩ := h
  refine ⟨⟨h1.trans g.1.1, h2.trans g.1.2.1, h3.trans g.1.2.2, h4.trans g.2.1⟩, ?_⟩
  cases F with
  | inl kq => exact ⟨h5.1, h5.2.1.trans g.2.2.1, h5.2.2.1.trans g.2.2.2, h5.2.2.2⟩
  | inr bs => exact h5
