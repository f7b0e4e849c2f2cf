/-! PURE AA: toCbor of both -/
theorem m_begin (σ : MSt) : ∃ σ0, mm_begin σ = some σ0 ∧ MFr σ σ0 ∧ (mf_fault σ0 = 0 ∧ mf_errorPlace σ0 = -1) ∧ mf_at σ0 = 0 ∧ mf_things σ0 = 0 ∧ mf_lettersMany σ0 = 0 ∧ mf_open σ0 = 0 := by
  refine ⟨_, rfl, ?_, ⟨?_, ?_⟩, ?_, ?_, ?_, ?_⟩
  · unfold MFr
    simp only [mG_thrown_open, mG_tape_open, mG_taped_open, mG_depth_open, mG_room_open, mG_written_open, mG_writtenMany_open, mG_errorPlace_open, mG_sorts_open, mG_numbers_open, mG_places_open, mG_things_open, mG_letters_open, mG_lettersMany_open, mG_openThing_open, mG_openLeft_open, mG_open_open, mG_at_open, mG_fault_open, mG_fresh_open, mG_freshMany_open, mG_figures_open, mG_thrown_lettersMany, mG_tape_lettersMany, mG_taped_lettersMany, mG_depth_lettersMany, mG_room_lettersMany, mG_written_lettersMany, mG_writtenMany_lettersMany, mG_errorPlace_lettersMany, mG_sorts_lettersMany, mG_numbers_lettersMany, mG_places_lettersMany, mG_things_lettersMany, mG_letters_lettersMany, mG_lettersMany_lettersMany, mG_openThing_lettersMany, mG_openLeft_lettersMany, mG_open_lettersMany, mG_at_lettersMany, mG_fault_lettersMany, mG_fresh_lettersMany, mG_freshMany_lettersMany, mG_figures_lettersMany, mG_thrown_things, mG_tape_things, mG_taped_things, mG_depth_things, mG_room_things, mG_written_things, mG_writtenMany_things, mG_errorPlace_things, mG_sorts_things, mG_numbers_things, mG_places_things, mG_things_things, mG_letters_things, mG_lettersMany_things, mG_openThing_things, mG_openLeft_things, mG_open_things, mG_at_things, mG_fault_things, mG_fresh_things, mG_freshMany_things, mG_figures_things, mG_thrown_at, mG_tape_at, mG_taped_at, mG_depth_at, mG_room_at, mG_written_at, mG_writtenMany_at, mG_errorPlace_at, mG_sorts_at, mG_numbers_at, mG_places_at, mG_things_at, mG_letters_at, mG_lettersMany_at, mG_openThing_at, mG_openLeft_at, mG_open_at, mG_at_at, mG_fault_at, mG_fresh_at, mG_freshMany_at, mG_figures_at, mG_thrown_errorPlace, mG_tape_errorPlace, mG_taped_errorPlace, mG_depth_errorPlace, mG_room_errorPlace, mG_written_errorPlace, mG_writtenMany_errorPlace, mG_errorPlace_errorPlace, mG_sorts_errorPlace, mG_numbers_errorPlace, mG_places_errorPlace, mG_things_errorPlace, mG_letters_errorPlace, mG_lettersMany_errorPlace, mG_openThing_errorPlace, mG_openLeft_errorPlace, mG_open_errorPlace, mG_at_errorPlace, mG_fault_errorPlace, mG_fresh_errorPlace, mG_freshMany_errorPlace, mG_figures_errorPlace, mG_thrown_fault, mG_tape_fault, mG_taped_fault, mG_depth_fault, mG_room_fault, mG_written_fault, mG_writtenMany_fault, mG_errorPlace_fault, mG_sorts_fault, mG_numbers_fault, mG_places_fault, mG_things_fault, mG_letters_fault, mG_lettersMany_fault, mG_openThing_fault, mG_openLeft_fault, mG_open_fault, mG_at_fault, mG_fault_fault, mG_fresh_fault, mG_freshMany_fault, mG_figures_fault, mG_thrown_thrown, mG_tape_thrown, mG_taped_thrown, mG_depth_thrown, mG_room_thrown, mG_written_thrown, mG_writtenMany_thrown, mG_errorPlace_thrown, mG_sorts_thrown, mG_numbers_thrown, mG_places_thrown, mG_things_thrown, mG_letters_thrown, mG_lettersMany_thrown, mG_openThing_thrown, mG_openLeft_thrown, mG_open_thrown, mG_at_thrown, mG_fault_thrown, mG_fresh_thrown, mG_freshMany_thrown, mG_figures_thrown, and_self]
  all_goals simp only [mG_thrown_open, mG_tape_open, mG_taped_open, mG_depth_open, mG_room_open, mG_written_open, mG_writtenMany_open, mG_errorPlace_open, mG_sorts_open, mG_numbers_open, mG_places_open, mG_things_open, mG_letters_open, mG_lettersMany_open, mG_openThing_open, mG_openLeft_open, mG_open_open, mG_at_open, mG_fault_open, mG_fresh_open, mG_freshMany_open, mG_figures_open, mG_thrown_lettersMany, mG_tape_lettersMany, mG_taped_lettersMany, mG_depth_lettersMany, mG_room_lettersMany, mG_written_lettersMany, mG_writtenMany_lettersMany, mG_errorPlace_lettersMany, mG_sorts_lettersMany, mG_numbers_lettersMany, mG_places_lettersMany, mG_things_lettersMany, mG_letters_lettersMany, mG_lettersMany_lettersMany, mG_openThing_lettersMany, mG_openLeft_lettersMany, mG_open_lettersMany, mG_at_lettersMany, mG_fault_lettersMany, mG_fresh_lettersMany, mG_freshMany_lettersMany, mG_figures_lettersMany, mG_thrown_things, mG_tape_things, mG_taped_things, mG_depth_things, mG_room_things, mG_written_things, mG_writtenMany_things, mG_errorPlace_things, mG_sorts_things, mG_numbers_things, mG_places_things, mG_things_things, mG_letters_things, mG_lettersMany_things, mG_openThing_things, mG_openLeft_things, mG_open_things, mG_at_things, mG_fault_things, mG_fresh_things, mG_freshMany_things, mG_figures_things, mG_thrown_at, mG_tape_at, mG_taped_at, mG_depth_at, mG_room_at, mG_written_at, mG_writtenMany_at, mG_errorPlace_at, mG_sorts_at, mG_numbers_at, mG_places_at, mG_things_at, mG_letters_at, mG_lettersMany_at, mG_openThing_at, mG_openLeft_at, mG_open_at, mG_at_at, mG_fault_at, mG_fresh_at, mG_freshMany_at, mG_figures_at, mG_thrown_errorPlace, mG_tape_errorPlace, mG_taped_errorPlace, mG_depth_errorPlace, mG_room_errorPlace, mG_written_errorPlace, mG_writtenMany_errorPlace, mG_errorPlace_errorPlace, mG_sorts_errorPlace, mG_numbers_errorPlace, mG_places_errorPlace, mG_things_errorPlace, mG_letters_errorPlace, mG_lettersMany_errorPlace, mG_openThing_errorPlace, mG_openLeft_errorPlace, mG_open_errorPlace, mG_at_errorPlace, mG_fault_errorPlace, mG_fresh_errorPlace, mG_freshMany_errorPlace, mG_figures_errorPlace, mG_thrown_fault, mG_tape_fault, mG_taped_fault, mG_depth_fault, mG_room_fault, mG_written_fault, mG_writtenMany_fault, mG_errorPlace_fault, mG_sorts_fault, mG_numbers_fault, mG_places_fault, mG_things_fault, mG_letters_fault, mG_lettersMany_fault, mG_openThing_fault, mG_openLeft_fault, mG_open_fault, mG_at_fault, mG_fault_fault, mG_fresh_fault, mG_freshMany_fault, mG_figures_fault, mG_thrown_thrown, mG_tape_thrown, mG_taped_thrown, mG_depth_thrown, mG_room_thrown, mG_written_thrown, mG_writtenMany_thrown, mG_errorPlace_thrown, mG_sorts_thrown, mG_numbers_thrown, mG_places_thrown, mG_things_thrown, mG_letters_thrown, mG_lettersMany_thrown, mG_openThing_thrown, mG_openLeft_thrown, mG_open_thrown, mG_at_thrown, mG_fault_thrown, mG_fresh_thrown, mG_freshMany_thrown, mG_figures_thrown]
theorem MSfirst {t : List Nat} {σ σ0 : MSt} {d : Nat} (hT : TpM σ t) (hd : mf_depth σ = nI d) (g : MFr σ σ0) (h : (mf_fault σ0 = 0 ∧ mf_errorPlace σ0 = -1) ∧ mf_at σ0 = 0 ∧ mf_things σ0 = 0 ∧ mf_lettersMany σ0 = 0 ∧ mf_open σ0 = 0) : MS t d σ0 0 [] [] [] := by
  obtain ⟨⟨h1, h2⟩, h3, h4, h5, h6⟩ := h
  refine ⟨⟨hT.fr g, by rw [g.1.2.2]; exact hd⟩, ⟨h3, h1, ⟨h4, fun i hi => absurd hi (Nat.not_lt_zero _)⟩, h5, fun i hi => absurd hi (Nat.not_lt_zero _)⟩, ⟨h6, by decide, fun i hi => absurd hi (Nat.not_lt_zero _)⟩, by decide, by decide, Nat.zero_le _⟩
/-- what reading the whole text comes to in the reference -/
theorem m_readsJson {t : List Nat} {σ0 : MSt} {d : Nat} (hd40 : d ≤ 40) (h : MS t d σ0 0 [] [] []) : match sVal t d (sB t 0) with
    | .inl kq => ∃ σ', mm_readsJson σ0 = some σ' ∧ BadS σ0 σ' kq
    | .inr y => ∃ σ', MS t d σ' (sB t y.2) (thL 0 y.1) (ltL y.1) [] ∧ MG σ0 σ' ∧ mm_readsJson σ0 = if sB t y.2 = t.length then some σ' else some (mF σ' 1 (nI (sB t y.2))) := by
  have hT := h.1.1
  have hle := hT.2.1
  have hb := sB_le (Nat.zero_le t.length)
  obtain ⟨G, hG⟩ : ∃ g, FU = g + 1 := ⟨99999, rfl⟩
  have hG2 : 4100 ≤ G := by
    have : FU = 100000 := rfl
    omega
  have M1 := h.at (p' := sB t 0) (Nat.zero_le _) hb.2
  obtain ⟨σ1, e1⟩ : ∃ σ1, σ1 = ms_at σ0 (nI (sB t 0)) := ⟨_, rfl⟩
  have G1 : MG σ0 σ1 := by rw [e1]; exact (MLq.at σ0 _).1.g
  rw [← e1] at M1
  have hrun : mm_readsJson σ0 = VA G (nI ([] : List Nat).length) σ1 := by
    unfold mm_readsJson
    rw [m_blanks hT (Nat.zero_le _) h.2.1.1, ← e1, bd_of (a := some σ1) rfl, hG, L6_item]
    have O1 := M1.2.2.1
    unfold mm_item mm_item_b27 mm_item_b41
    rw [O1.1, if_pos (show nI ([] : List Nat).length ≤ (0 : Int32) by decide), bd_of (isMap_none O1)]
    simp only []
    rw [if_neg (show ¬ false = true by decide), bd_eta2]
    rfl
  have v := v_value (t := t) hd40 d σ1 (sB t 0) [] [] [] M1 (by show 0 + d = d; omega)
  cases hr : sVal t d (sB t 0) with
  | inl kq =>
    rw [hr] at v
    obtain ⟨σ', ex, g⟩ := v G (by omega)
    exact ⟨σ', by rw [hrun, ex], g.fr G1.1⟩
  | inr y =>
    obtain ⟨ts, q⟩ := y
    rw [hr] at v
    obtain ⟨σ', M2, G2, run⟩ := v
    obtain ⟨f', g', z1, z2, z3⟩ := run G (by omega)
    refine ⟨σ', M2, G1.trans G2, ?_⟩
    obtain ⟨⟨T2, D2⟩, R2, O2, Tl2, Ll2, P2⟩ := id M2
    have P2' : sB t q ≤ t.length := P2
    have z1' : t.length + 2 - sB t q ≤ f' := z1
    have z2' : t.length + 2 - sB t q ≤ g' := z2
    obtain ⟨f', rfl⟩ : ∃ g, f' = g + 1 := ⟨f' - 1, by omega⟩
    obtain ⟨g', rfl⟩ : ∃ g, g' = g + 1 := ⟨g' - 1, by omega⟩
    rw [hrun, z3]
    show bd (mm_goesOn_b4 (mm_goesOn_L4 g') σ') _ = _
    unfold mm_goesOn_b4 mm_goesOn_b45
    rw [O2.1, if_pos (show nI ([] : List Nat).length ≤ (0 : Int32) by decide), if_pos (show nI ([] : List Nat).length = 0 from rfl), bd_of rfl]
    show mm_readsJson_b6 (mm_readsJson_L6 f') 0 σ' = _
    unfold mm_readsJson_b6
    rw [if_pos rfl, R2.2.1, if_pos rfl, T2.1, R2.1]
    show (if nI t.length ≤ nI (sB t q) then some σ' else _) = if sB t q = t.length then some σ' else some (mF σ' 1 (nI (sB t q)))
    by_cases c : sB t q = t.length
    · rw [if_pos c, if_pos (nI_le (by omega) (by omega))]
    · rw [if_neg c, if_neg (nI_ge (by omega) (by omega)), bd_of (stuck_eq R2.2.1), R2.1]
theorem m_toCbor {t : List Nat} {σ : MSt} {d rm : Nat} (hT : TpM σ t) (hd : mf_depth σ = nI d) (hd40 : d ≤ 40) (hrm : mf_room σ = nI rm) (hrm6 : rm ≤ 6000) : ∃ r σ', mm_toCbor σ = some (r, σ') ∧ MOut σ (fin t rm (mapR (fun y => (encL y.1, sB t y.2)) (sVal t d (sB t 0)))) r σ' := by
  have hle := hT.2.1
  have ht := hT.2.2.1
  obtain ⟨σ0, e0, g0, h0⟩ := m_begin σ
  have M0 := MSfirst hT hd g0 h0
  have hr := m_readsJson hd40 M0
  have bad : ∀ (k q : Nat) (σ' : MSt), 1 ≤ k ∧ k ≤ 6 → mm_readsJson σ0 = some σ' → BadS σ σ' (k, q) → ∃ r σ', mm_toCbor σ = some (r, σ') ∧ MOut σ (.inl (k, q)) r σ' := by
    intro k q σ' hk ex hb
    unfold mm_toCbor
    rw [bd_of e0, bd_of ex, hb.2.1, if_neg (nI_np (by show 0 < k; omega) (by show k < _; omega))]
    have b1 := hb.1
    exact ⟨_, σ', rfl, ⟨b1.1.1, b1.1.2.1, b1.1.2.2, b1.2.1⟩, rfl, b1.2.2.1, b1.2.2.2, hb.2.2⟩
  cases hv : sVal t d (sB t 0) with
  | inl kq =>
    have hk := sVal_k t d _ kq hv
    rw [hv] at hr
    obtain ⟨σ', ex, hb⟩ := hr
    exact bad kq.1 kq.2 σ' hk ex (hb.fr g0)
  | inr y =>
    obtain ⟨ts, q⟩ := y
    have gb := sVal_bd ht hle d _ (sB_le (Nat.zero_le _)).2 ts q hv
    have gq := gb.2.2.1
    have gl := gb.2.2.2.1
    have gw := gb.2.2.2.2
    have ge := encL_len ts
    rw [hv] at hr
    obtain ⟨σ', M2, G2, ex⟩ := hr
    have G3 : MFr σ σ' := g0.trans G2.1
    show ∃ r σ', mm_toCbor σ = some (r, σ') ∧ MOut σ (if sB t q = t.length then (if (encL ts).length ≤ rm then .inr (encL ts) else .inl (5, t.length)) else .inl (1, sB t q)) r σ'
    have ex' : mm_readsJson σ0 = if sB t q = t.length then some σ' else some (mF σ' 1 (nI (sB t q))) := ex
    by_cases c : sB t q = t.length
    · rw [if_pos c] at ex' ⊢
      unfold mm_toCbor
      rw [bd_of e0, bd_of ex', M2.2.1.2.1, if_pos (by decide)]
      unfold mm_writesCbor
      obtain ⟨σ2, e2⟩ : ∃ σ2, σ2 = ms_freshMany σ' (0 : Int32) := ⟨_, rfl⟩
      have W2 : MWq σ' σ2 := by
        rw [e2]
        unfold MWq MFr
        simp only [mG_thrown_freshMany, mG_tape_freshMany, mG_taped_freshMany, mG_depth_freshMany, mG_room_freshMany, mG_written_freshMany, mG_writtenMany_freshMany, mG_errorPlace_freshMany, mG_sorts_freshMany, mG_numbers_freshMany, mG_places_freshMany, mG_things_freshMany, mG_letters_freshMany, mG_lettersMany_freshMany, mG_openThing_freshMany, mG_openLeft_freshMany, mG_open_freshMany, mG_at_freshMany, mG_fault_freshMany, mG_fresh_freshMany, mG_freshMany_freshMany, mG_figures_freshMany, and_self]
      have F2 : MFs σ2 [] := ⟨by rw [e2, mG_freshMany_freshMany]; rfl, fun i hi => absurd hi (Nat.not_lt_zero _)⟩
      have Ts : MTs σ' ts := ⟨M2.2.1.2.2.1, M2.2.1.2.2.2, gw, by omega⟩
      obtain ⟨σ3, e3, q3, l3⟩ := writesCbor_loop (ts := ts) ts [] FU σ2 rfl (by show _ < 100000; omega) (Ts.w W2) F2 (Nat.zero_le _)
      have Q3 := W2.trans q3
      obtain ⟨r, σ4, e4, o4⟩ := m_ends (M2.1.1.fr Q3.1.1) (by rw [Q3.1.1.2.1, G3.2.1]; exact hrm) hrm6 (Q3.1.2.2.trans M2.2.1.2.1) ((Q3.1.2.1.trans G2.2).trans h0.1.2) l3 (by omega)
      rw [← e2, bd_of (show mm_writesCbor_L7 FU (0 : Int32) σ2 = some (r, σ4) from e3.trans e4)]
      exact ⟨r, σ4, rfl, MOut.of (G3.trans Q3.1.1) o4⟩
    · rw [if_neg c] at ex' ⊢
      exact bad 1 (sB t q) _ (by decide) ex' ((BadS_mF σ' 1 (sB t q)).fr G3)
theorem fin_len {t : List Nat} {rm : Nat} {r : Rd (List Nat × Nat)} {bs : List Nat} (h : fin t rm r = .inr bs) : bs.length ≤ rm := by
  cases r with
  | inl k => cases h
  | inr y =>
    unfold fin at h
    simp only [] at h
    split at h
    · split at h
      · rename_i c
        rw [← Sum.inr.inj h]
        exact c
      · cases h
    · cases h
theorem out_inv {τ τ' : TSt} {σ σ' : MSt} {F : Rd (List Nat)} {r r' : Int32} (h : Inv τ σ) (hF : ∀ bs, F = .inr bs → bs.length ≤ 6000) (hT : TOut τ F r τ') (hM : MOut σ F r' σ') : r = r' ∧ Inv τ' σ' := by
  obtain ⟨tp, wr, dr, d, rm, h1, h2, h3, h4, h5, h6, h7, h8⟩ := h
  obtain ⟨⟨a1, a2, a3⟩, ⟨o, c4, c5⟩, a4⟩ := hT
  obtain ⟨⟨b1, b2, b3, b4⟩, b5⟩ := hM
  cases F with
  | inl kq =>
    obtain ⟨c1, c2, c3⟩ := a4
    obtain ⟨d1, d2, d3, d4⟩ := b5
    refine ⟨c1.trans d1.symm, tp, wr, o, d, rm, by rw [a3]; exact h1, by rw [c2]; exact h2, ⟨c4, c5⟩, by rw [a1, b3]; exact h4, by rw [a2, b4]; exact h5, by rw [b1, b2]; exact h6, by rw [d2, d3]; exact h7, c3.trans d4.symm⟩
  | inr bs =>
    obtain ⟨c1, c2, c3⟩ := a4
    obtain ⟨d1, d2, d3, d4⟩ := b5
    have hl := hF bs rfl
    refine ⟨c1.trans d1.symm, tp, bs, o, d, rm, by rw [a3]; exact h1, ⟨c2, hl⟩, ⟨c4, c5⟩, by rw [a1, b3]; exact h4, by rw [a2, b4]; exact h5, by rw [b1, b2]; exact h6, ⟨d2, d3⟩, c3.trans d4.symm⟩
theorem st_toCbor {τ : TSt} {σ : MSt} (h : Inv τ σ) : ∃ (r : Int32) (τ' : TSt) (σ' : MSt), tt_toCbor 42 τ = some (r, τ') ∧ mm_toCbor σ = some (r, σ') ∧ Inv τ' σ' := by
  obtain ⟨tp, wr, dr, d, rm, h1, h2, h3, h4, h5, h6, h7, h8⟩ := id h
  have hT : TpM σ tp := ⟨h6.1, h1.2, h1.1.2.2, h6.2⟩
  obtain ⟨r, τ', e1, o1⟩ := t_toCbor (t := tp) h1 h3.1 h3.2 h2.1 h2.2 h4.1 h4.2.2 h5.1 h5.2.2
  obtain ⟨r', σ', e2, o2⟩ := m_toCbor hT h4.2.1 h4.2.2 h5.2.1 h5.2.2
  have z := out_inv h (fun bs hb => Nat.le_trans (fin_len hb) h5.2.2) o1 o2
  exact ⟨r, τ', σ', e1, by rw [z.1]; exact e2, z.2⟩
