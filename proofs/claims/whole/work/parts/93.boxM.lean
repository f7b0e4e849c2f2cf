/-! PURE X: arrays and maps, read by the reference -/
theorem v_box {t : List Nat} {D d : Nat} (hV : VL t D d) {isMap : Bool} {σ : MSt} {p : Nat} {T : List Th} {L st : List Nat} (h : MS t D σ p T L st) (hst : st.length + (d + 1) = D) (hD40 : D ≤ 40) (hp : p < t.length) (hval : mm_value σ = mm_opens (nI (srt isMap)) σ) : VOK t D σ p T L st (sBox t (sVal t d) isMap p) := by
  obtain ⟨⟨hT, hD⟩, hR, hO, hTl, hLl, hp'⟩ := id h
  have hle := hT.2.1
  have ht := hT.2.2.1
  have hb := sB_le (t := t) (p := p + 1) (by omega)
  obtain ⟨σ1, hop, M1, G1⟩ := v_open (isMap := isMap) h hst hD40 hp
  have M2 := M1.at (p' := sB t (p + 1)) hb.1 hb.2
  obtain ⟨σ2, e2⟩ : ∃ σ2, σ2 = ms_at σ1 (nI (sB t (p + 1))) := ⟨_, rfl⟩
  have G2 : MG σ σ2 := by rw [e2]; exact G1.trans (MLq.at σ1 _).1.g
  rw [← e2] at M2
  obtain ⟨⟨T2, D2⟩, R2, O2, Tl2, Ll2, P2⟩ := id M2
  have s2 := (R2.2.2.1.2 T.length (by rw [List.length_append, List.length_singleton]; omega)).1
  rw [gT_mid] at s2
  have hcl := closer_eq T2 P2 R2.1 (isMap_top (isMap := isMap) O2 (by omega) s2)
  have hva : ∀ f, VA f (nI st.length) σ = if gL t (sB t (p + 1)) = cls isMap then mm_readsJson_b45 (mm_readsJson_L6 f) σ2 else mm_readsJson_L6 f 1 σ2 := by
    intro f
    unfold VA
    rw [hval, hop, bd_of rfl]
    unfold aft
    rw [if_pos rfl]
    have hl : (st ++ [T.length]).length = st.length + 1 := by rw [List.length_append]; rfl
    have o1 := M1.2.2.1.1
    rw [hl] at o1
    rw [show mf_open ((true, σ1) : Bool × MSt).2 = nI (st.length + 1) from o1, if_neg (nI_ge (by omega) (by omega)), m_blanks M1.1.1 M1.2.2.2.2.2 M1.2.1.1, ← e2, bd_of (a := some σ2) rfl, bd_of hcl]
    simp only []
    by_cases c : gL t (sB t (p + 1)) = cls isMap
    · rw [if_pos c, decide_eq_true c, if_pos rfl]
    · rw [if_neg c, decide_eq_false c, if_neg (by decide)]
  unfold sBox
  by_cases c : gL t (sB t (p + 1)) = cls isMap
  · have hc := cls_in ht hle c
    have b3 := sB_le (t := t) (p := sB t (p + 1) + 1) (by omega)
    rw [if_pos c]
    obtain ⟨G, hG⟩ : ∃ g, FU = g + 1 := ⟨99999, rfl⟩
    have hG2 : 4100 ≤ G := by
      have : FU = 100000 := rfl
      omega
    have MO4 : MO (ms_open σ2 (nI st.length)) st := by
      refine ⟨by rw [mG_open_open], hO.2.1, fun i hi => ?_⟩
      have := O2.2.2 i (by rw [List.length_append]; omega)
      rw [mG_openThing_open, this, getD_app hi]
    have M4 : MS t D (ms_open σ2 (nI st.length)) (sB t (p + 1)) (T ++ [(srt isMap, 0, L.length)]) L st := by
      refine ⟨?_, ?_, MO4, Tl2, Ll2, P2⟩
      · unfold TpM
        simp only [mG_thrown_open, mG_tape_open, mG_taped_open, mG_depth_open, mG_room_open, mG_written_open, mG_writtenMany_open, mG_errorPlace_open, mG_sorts_open, mG_numbers_open, mG_places_open, mG_things_open, mG_letters_open, mG_lettersMany_open, mG_openThing_open, mG_openLeft_open, mG_open_open, mG_at_open, mG_fault_open, mG_fresh_open, mG_freshMany_open, mG_figures_open]
        exact ⟨T2, D2⟩
      · unfold MR MTh MLt
        simp only [mG_thrown_open, mG_tape_open, mG_taped_open, mG_depth_open, mG_room_open, mG_written_open, mG_writtenMany_open, mG_errorPlace_open, mG_sorts_open, mG_numbers_open, mG_places_open, mG_things_open, mG_letters_open, mG_lettersMany_open, mG_openThing_open, mG_openLeft_open, mG_open_open, mG_at_open, mG_fault_open, mG_fresh_open, mG_freshMany_open, mG_figures_open]
        exact R2
    have M5 := M4.at (p' := sB t (sB t (p + 1) + 1)) (by omega) b3.2
    refine ⟨_, by show MS t D _ _ (T ++ [(srt isMap, 0, L.length)]) (L ++ ([] ++ [])) st; rw [List.append_nil, List.append_nil]; exact M5, G2.trans ⟨?_, ?_⟩, fun f hf => ⟨f, G, by show t.length + 2 - sB t (sB t (p + 1) + 1) ≤ f; omega, by show t.length + 2 - sB t (sB t (p + 1) + 1) ≤ G; omega, ?_⟩⟩
    · unfold MFr
      simp only [mG_thrown_open, mG_tape_open, mG_taped_open, mG_depth_open, mG_room_open, mG_written_open, mG_writtenMany_open, mG_errorPlace_open, mG_sorts_open, mG_numbers_open, mG_places_open, mG_things_open, mG_letters_open, mG_lettersMany_open, mG_openThing_open, mG_openLeft_open, mG_open_open, mG_at_open, mG_fault_open, mG_fresh_open, mG_freshMany_open, mG_figures_open, mG_thrown_at, mG_tape_at, mG_taped_at, mG_depth_at, mG_room_at, mG_written_at, mG_writtenMany_at, mG_errorPlace_at, mG_sorts_at, mG_numbers_at, mG_places_at, mG_things_at, mG_letters_at, mG_lettersMany_at, mG_openThing_at, mG_openLeft_at, mG_open_at, mG_at_at, mG_fault_at, mG_fresh_at, mG_freshMany_at, mG_figures_at, and_self]
    · simp only [mG_thrown_open, mG_tape_open, mG_taped_open, mG_depth_open, mG_room_open, mG_written_open, mG_writtenMany_open, mG_errorPlace_open, mG_sorts_open, mG_numbers_open, mG_places_open, mG_things_open, mG_letters_open, mG_lettersMany_open, mG_openThing_open, mG_openLeft_open, mG_open_open, mG_at_open, mG_fault_open, mG_fresh_open, mG_freshMany_open, mG_figures_open, mG_thrown_at, mG_tape_at, mG_taped_at, mG_depth_at, mG_room_at, mG_written_at, mG_writtenMany_at, mG_errorPlace_at, mG_sorts_at, mG_numbers_at, mG_places_at, mG_things_at, mG_letters_at, mG_lettersMany_at, mG_openThing_at, mG_openLeft_at, mG_open_at, mG_at_at, mG_fault_at, mG_fresh_at, mG_freshMany_at, mG_figures_at]
    · rw [hva, if_pos c, b45_eq T2 P2 R2.1, sB_idem (show p + 1 ≤ t.length by omega), show ms_at σ2 (nI (sB t (p + 1))) = σ2 by rw [← R2.1, ms_at_id]]
      rw [hG, go_step T2 R2.2.1 P2 R2.1 O2 (by omega) s2, if_pos c]
  · rw [if_neg c]
    have r := v_part hV (isMap := isMap) 4001 σ2 (sB t (p + 1)) 0 L.length T [] L st (by omega) hb.2 (by rw [sB_idem (show p + 1 ≤ t.length by omega)]; exact M2) (by omega)
    rw [sB_idem (show p + 1 ≤ t.length by omega)] at r
    cases hr : sPts t (sVal t d) isMap 4001 (sB t (p + 1)) with
    | inl kq =>
      rw [hr] at r
      intro f hf
      obtain ⟨σ', ex, g⟩ := r f (by omega)
      exact ⟨σ', by rw [hva, if_neg c, ex], g.fr G2.1⟩
    | inr y =>
      obtain ⟨ys, n1, q⟩ := y
      rw [hr] at r
      obtain ⟨σ3, M3, G3, run3⟩ := r
      refine ⟨σ3, ?_, G2.trans G3, fun f hf => ?_⟩
      · rw [Nat.zero_add, List.nil_append] at M3
        exact M3
      · obtain ⟨f', g', z1, z2, z3⟩ := run3 f (by omega)
        exact ⟨f', g', z1, z2, by rw [hva, if_neg c, z3]⟩
theorem v_deep {t : List Nat} {D : Nat} {isMap : Bool} {σ : MSt} {p : Nat} {T : List Th} {L st : List Nat} (h : MS t D σ p T L st) (hst : st.length = D) (hval : mm_value σ = mm_opens (nI (srt isMap)) σ) : VOK t D σ p T L st (.inl (4, p)) := by
  obtain ⟨⟨hT, hD⟩, hR, hO, hTl, hLl, hp'⟩ := id h
  intro f hf
  refine ⟨mF σ 4 (nI p), ?_, BadS_mF σ 4 p⟩
  unfold VA
  rw [hval]
  unfold mm_opens
  rw [hO.1, hD, if_pos (by rw [hst]), hR.1, bd_of (wrong_eq hR.2.1 _ _), bd_of rfl]
  unfold aft
  rw [if_neg (show ¬ false = true by decide)]
theorem v_value {t : List Nat} {D : Nat} (hD40 : D ≤ 40) : ∀ d, VL t D d := by
  have opens : ∀ (isMap : Bool) (σ : MSt) (p : Nat), TpM σ t → mf_at σ = nI p → p ≤ t.length → gL t p = (if isMap = true then 123 else 91) → mm_value σ = mm_opens (nI (srt isMap)) σ := by
    intro isMap σ p hT hat hp hg
    have hle := hT.2.1
    unfold mm_value
    rw [bd_of (here_eq hT (by omega) hat)]
    simp only [bd_eta]
    cases isMap with
    | true =>
      have c : gL t p = 123 := hg
      rw [if_neg (show ¬ gL t p = 34 by rw [c]; decide), if_neg (show ¬ gL t p = 91 by rw [c]; decide), if_pos c]
      rfl
    | false =>
      have c : gL t p = 91 := hg
      rw [if_neg (show ¬ gL t p = 34 by rw [c]; decide), if_pos c]
      rfl
  intro d
  induction d with
  | zero =>
    intro σ p T L st h hst
    rw [sVal_eq]
    by_cases c1 : gL t p = 91
    · rw [if_pos c1]
      exact v_deep (isMap := false) h (by omega) (opens false σ p h.1.1 h.2.1.1 h.2.2.2.2.2 c1)
    rw [if_neg c1]
    by_cases c2 : gL t p = 123
    · rw [if_pos c2]
      exact v_deep (isMap := true) h (by omega) (opens true σ p h.1.1 h.2.1.1 h.2.2.2.2.2 c2)
    rw [if_neg c2]
    exact v_sca h c1 c2
  | succ d ih =>
    intro σ p T L st h hst
    rw [sVal_eq]
    by_cases c1 : gL t p = 91
    · rw [if_pos c1]
      exact v_box ih h hst hD40 (gL_lit (v := 91) (by decide) rfl c1) (opens false σ p h.1.1 h.2.1.1 h.2.2.2.2.2 c1)
    rw [if_neg c1]
    by_cases c2 : gL t p = 123
    · rw [if_pos c2]
      exact v_box ih h hst hD40 (gL_lit (v := 123) (by decide) rfl c2) (opens true σ p h.1.1 h.2.1.1 h.2.2.2.2.2 c2)
    rw [if_neg c2]
    exact v_sca h c1 c2
