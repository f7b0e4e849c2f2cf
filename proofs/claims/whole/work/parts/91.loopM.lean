/-! PURE V: the reference's loop over a JSON text -/
def MO (σ : MSt) (st : List Nat) : Prop := mf_open σ = nI st.length ∧ st.length ≤ 40 ∧ ∀ i, i < st.length → mf_openThing σ i = nI (st.getD i 0)
def MS (t : List Nat) (D : Nat) (σ : MSt) (p : Nat) (T : List Th) (L : List Nat) (st : List Nat) : Prop := (TpM σ t ∧ mf_depth σ = nI D) ∧ MR σ p T L ∧ MO σ st ∧ T.length ≤ p ∧ L.length ≤ p ∧ p ≤ t.length
def MG (σ σ' : MSt) : Prop := MFr σ σ' ∧ mf_errorPlace σ' = mf_errorPlace σ
theorem MG.trans {a b c : MSt} (h : MG a b) (g : MG b c) : MG a c := ⟨h.1.trans g.1, g.2.trans h.2⟩
theorem MQu.g {a b : MSt} (h : MQu a b) : MG a b := ⟨h.1, h.2.2⟩
def BadS (σ σ' : MSt) (kq : Nat × Nat) : Prop := MFr σ σ' ∧ mf_fault σ' = nI kq.1 ∧ mf_errorPlace σ' = nI kq.2
theorem BadS.fr {a b c : MSt} {kq : Nat × Nat} (g : MFr a b) (h : BadS b c kq) : BadS a c kq := ⟨g.trans h.1, h.2⟩
theorem BadS_mF (σ : MSt) (k q : Nat) : BadS σ (mF σ (nI k) (nI q)) (k, q) := by
  refine ⟨MFr_mF _ _ _, ?_, ?_⟩
  · unfold mF; simp only [mG_thrown_fault, mG_tape_fault, mG_taped_fault, mG_depth_fault, mG_room_fault, mG_written_fault, mG_writtenMany_fault, mG_errorPlace_fault, mG_sorts_fault, mG_numbers_fault, mG_places_fault, mG_things_fault, mG_letters_fault, mG_lettersMany_fault, mG_openThing_fault, mG_openLeft_fault, mG_open_fault, mG_at_fault, mG_fault_fault, mG_fresh_fault, mG_freshMany_fault, mG_figures_fault, mG_thrown_errorPlace, mG_tape_errorPlace, mG_taped_errorPlace, mG_depth_errorPlace, mG_room_errorPlace, mG_written_errorPlace, mG_writtenMany_errorPlace, mG_errorPlace_errorPlace, mG_sorts_errorPlace, mG_numbers_errorPlace, mG_places_errorPlace, mG_things_errorPlace, mG_letters_errorPlace, mG_lettersMany_errorPlace, mG_openThing_errorPlace, mG_openLeft_errorPlace, mG_open_errorPlace, mG_at_errorPlace, mG_fault_errorPlace, mG_fresh_errorPlace, mG_freshMany_errorPlace, mG_figures_errorPlace]
  · unfold mF; simp only [mG_thrown_fault, mG_tape_fault, mG_taped_fault, mG_depth_fault, mG_room_fault, mG_written_fault, mG_writtenMany_fault, mG_errorPlace_fault, mG_sorts_fault, mG_numbers_fault, mG_places_fault, mG_things_fault, mG_letters_fault, mG_lettersMany_fault, mG_openThing_fault, mG_openLeft_fault, mG_open_fault, mG_at_fault, mG_fault_fault, mG_fresh_fault, mG_freshMany_fault, mG_figures_fault, mG_thrown_errorPlace, mG_tape_errorPlace, mG_taped_errorPlace, mG_depth_errorPlace, mG_room_errorPlace, mG_written_errorPlace, mG_writtenMany_errorPlace, mG_errorPlace_errorPlace, mG_sorts_errorPlace, mG_numbers_errorPlace, mG_places_errorPlace, mG_things_errorPlace, mG_letters_errorPlace, mG_lettersMany_errorPlace, mG_openThing_errorPlace, mG_openLeft_errorPlace, mG_open_errorPlace, mG_at_errorPlace, mG_fault_errorPlace, mG_fresh_errorPlace, mG_freshMany_errorPlace, mG_figures_errorPlace]
theorem MO.q {σ σ' : MSt} {st : List Nat} (h : MO σ st) (g : MQu σ σ') : MO σ' st := ⟨by rw [g.2.1.1]; exact h.1, h.2.1, fun i hi => by rw [g.2.1.2.1]; exact h.2.2 i hi⟩
theorem MS.q {t : List Nat} {D : Nat} {σ σ' : MSt} {p p' : Nat} {T T' : List Th} {L L' : List Nat} {st : List Nat} (h : MS t D σ p T L st) (g : MQu σ σ') (hr : MR σ' p' T' L') (h1 : T'.length ≤ p') (h2 : L'.length ≤ p') (h3 : p' ≤ t.length) : MS t D σ' p' T' L' st := ⟨⟨h.1.1.fr g.1, by rw [g.1.1.2.2]; exact h.1.2⟩, hr, h.2.2.1.q g, h1, h2, h3⟩
theorem nI_np {n : Nat} (h : 0 < n) (h2 : n < 2 ^ 31) : ¬ nI n ≤ (0 : Int32) := show ¬ nI n ≤ nI 0 from nI_ge h h2
theorem getD_snocN (st : List Nat) (b : Nat) : (st ++ [b]).getD st.length 0 = b := by rw [getD_app2 (Nat.le_refl _), Nat.sub_self]; rfl
theorem isMap_top {σ : MSt} {st : List Nat} {b : Nat} {isMap : Bool} (h : MO σ (st ++ [b])) (hb : b < 4200) (hs : mf_sorts σ b = nI (srt isMap)) : mm_isMap σ = some (isMap, σ) := by
  obtain ⟨h1, h2, h3⟩ := h
  have hl : (st ++ [b]).length = st.length + 1 := by rw [List.length_append]; rfl
  rw [hl] at h1 h2 h3
  have h4 := h3 st.length (by omega)
  rw [getD_snocN] at h4
  unfold mm_isMap
  rw [h1, if_neg (nI_np (n := st.length + 1) (by omega) (by omega)), show nI (st.length + 1) - 1 = nI st.length from pk_sub (b := 1) (by omega), ck_in (vp_in_nI (by omega) (by decide)), nI_clamp (by omega), h4, ck_in (vp_in_nI hb (by decide)), nI_clamp (by omega), hs]
  cases isMap with
  | true => rw [if_pos (by decide)]
  | false => rw [if_neg (by decide)]
theorem isMap_none {σ : MSt} (h : MO σ []) : mm_isMap σ = some (false, σ) := by
  unfold mm_isMap
  rw [h.1, if_pos (by decide)]
theorem closer_eq {t : List Nat} {σ : MSt} {p : Nat} {isMap : Bool} (hT : TpM σ t) (hp : p ≤ t.length) (hat : mf_at σ = nI p) (hm : mm_isMap σ = some (isMap, σ)) : mm_isCloser σ = some (decide (gL t p = cls isMap), σ) := by
  have hle := hT.2.1
  unfold mm_isCloser
  rw [bd_of (here_eq hT (by omega) hat)]
  simp only []
  rw [bd_of hm]
  simp only []
  have b18 : ∀ c : Int32, mm_isCloser_b18 c (gL t p) σ = some (decide (gL t p = c), σ) := by
    intro c
    unfold mm_isCloser_b18
    by_cases e : gL t p = c
    · rw [if_pos e, decide_eq_true e]
    · rw [if_neg e, decide_eq_false e]
  cases isMap with
  | true => rw [if_pos rfl, b18]; rfl
  | false => rw [if_neg (by decide), b18]; rfl
/-- behind an item -/
def aft (k6 : Int32 → MSt → Option MSt) (was : Int32) (x7 : Bool × MSt) : Option MSt := (if x7.1 = true then (if (mf_open x7.2) ≤ was then mm_readsJson_b45 k6  x7.2 else bd (mm_blanks  x7.2) (fun (x10 : MSt) => bd (mm_isCloser  x10) (fun (x11 : Bool × MSt) => (if x11.1 = true then mm_readsJson_b45 k6  x11.2 else k6 1 x11.2)))) else some x7.2)
theorem L6_item (f : Nat) (σ : MSt) : mm_readsJson_L6 (f + 1) 1 σ = bd (mm_item σ) (aft (mm_readsJson_L6 f) (mf_open σ)) := by
  show mm_readsJson_b6 (mm_readsJson_L6 f) 1 σ = _
  unfold mm_readsJson_b6
  rw [if_neg (show ¬ (1 : Int32) = 0 by decide)]
  rfl
theorem L6_bad {σ : MSt} (f : Nat) (h : mf_fault σ ≠ 0) : mm_readsJson_L6 (f + 1) 0 σ = some σ := by
  show mm_readsJson_b6 (mm_readsJson_L6 f) 0 σ = _
  unfold mm_readsJson_b6
  rw [if_pos rfl, if_neg h]
/-- behind a value, blanks passed -/
def BB (f g : Nat) (σ : MSt) : Option MSt := bd (mm_goesOn_L4 g σ) (fun x => mm_readsJson_L6 f (bI x.1) x.2)
theorem b45_eq {t : List Nat} {σ : MSt} {q f : Nat} (hT : TpM σ t) (hq : q ≤ t.length) (hat : mf_at σ = nI q) : mm_readsJson_b45 (mm_readsJson_L6 f) σ = BB f FU (ms_at σ (nI (sB t q))) := by
  unfold mm_readsJson_b45 mm_goesOn BB
  rw [m_blanks hT hq hat, bd_of (a := some (ms_at σ (nI (sB t q)))) rfl]
theorem go_step {t : List Nat} {σ : MSt} {p b f g : Nat} {st : List Nat} {isMap : Bool} (hT : TpM σ t) (hf : mf_fault σ = 0) (hp : p ≤ t.length) (hat : mf_at σ = nI p) (hO : MO σ (st ++ [b])) (hb : b < 4200) (hs : mf_sorts σ b = nI (srt isMap)) : BB f (g + 1) σ = if gL t p = cls isMap then BB f g (ms_at (ms_open σ (nI st.length)) (nI (sB t (p + 1)))) else if gL t p = 44 then mm_readsJson_L6 f 1 (ms_at σ (nI (sB t (p + 1)))) else mm_readsJson_L6 f 0 (mF σ 1 (nI p)) := by
  have hle := hT.2.1
  have hl : (st ++ [b]).length = st.length + 1 := by rw [List.length_append]; rfl
  have hO1 := hO.1
  have hO2 := hO.2.1
  rw [hl] at hO1 hO2
  show bd (mm_goesOn_b4 (mm_goesOn_L4 g) σ) _ = _
  unfold mm_goesOn_b4
  rw [hO1, if_neg (nI_np (n := st.length + 1) (by omega) (by omega)), bd_of (closer_eq hT hp hat (isMap_top hO hb hs))]
  simp only []
  by_cases c : gL t p = cls isMap
  · have hp2 : p < t.length := cls_in hT.2.2.1 hle c
    rw [if_pos c, decide_eq_true c, if_pos rfl, hO1, show nI (st.length + 1) - 1 = nI st.length from pk_sub (b := 1) (by omega), hat, nI_1]
    rw [m_blanks (t := t) (p := p + 1) (by
      refine TpM.at (σ := ms_open σ (nI st.length)) ?_ _
      unfold TpM
      simp only [mG_thrown_open, mG_tape_open, mG_taped_open, mG_depth_open, mG_room_open, mG_written_open, mG_writtenMany_open, mG_errorPlace_open, mG_sorts_open, mG_numbers_open, mG_places_open, mG_things_open, mG_letters_open, mG_lettersMany_open, mG_openThing_open, mG_openLeft_open, mG_open_open, mG_at_open, mG_fault_open, mG_fresh_open, mG_freshMany_open, mG_figures_open]
      exact hT) (by omega) (by rw [mG_at_at]), bd_of (a := some _) rfl, ms_aa]
    rfl
  · rw [if_neg c, decide_eq_false c, if_neg (by decide)]
    unfold mm_goesOn_b45
    rw [hO1, if_neg (nI_ne0 (by omega) (by omega)), bd_of (here_eq hT (by omega) hat)]
    simp only []
    by_cases c2 : gL t p = 44
    · have hp2 : p < t.length := gL_lit (v := 44) (by decide) rfl c2
      rw [if_pos c2, if_pos c2, hat, nI_1, m_blanks (hT.at _) (p := p + 1) (by omega) (by rw [mG_at_at]), ms_aa, bd_of (a := some (ms_at σ (nI (sB t (p + 1))))) rfl, bd_of rfl]
      rfl
    · rw [if_neg c2, if_neg c2, bd_of (stuck_eq hf), hat, bd_of rfl]
      rfl
theorem bd_eta2 (x : Option (Bool × MSt)) : bd x (fun y => if y.1 = true then some (true, y.2) else some (false, y.2)) = x := by
  cases x with
  | none => rfl
  | some y =>
    obtain ⟨b, s⟩ := y
    cases b <;> rfl
theorem m_key {t : List Nat} {σ : MSt} {p0 : Nat} {T : List Th} {L : List Nat} (hT : TpM σ t) (h : MR σ (sB t p0) T L) (hp : p0 ≤ t.length) (hTl : T.length ≤ sB t p0) (hLl : L.length ≤ sB t p0) : match sKey t true p0 with
    | .inl kq => MBad σ kq.1 kq.2 (mm_key σ)
    | .inr y => sB t p0 ≤ y.2 ∧ ∃ σ', mm_key σ = some (true, σ') ∧ MQu σ σ' ∧ MR σ' (sB t y.2) (T ++ thL L.length y.1) (L ++ ltL y.1) := by
  have hle := hT.2.1
  have hb := sB_le hp
  unfold mm_key sKey
  rw [if_pos rfl, bd_of (here_eq hT (by omega) h.1)]
  simp only []
  by_cases c : gL t (sB t p0) = 34
  · have hp2 := gL_lit (v := 34) (by decide) rfl c
    rw [if_pos c, if_pos c]
    have hs := m_string hT h hp2 hTl hLl
    cases hr : sStr t (sB t p0) with
    | inl kq =>
      rw [hr] at hs
      obtain ⟨σ', ex, g⟩ := hs
      simp only []
      rw [ex, bd_of rfl]
      exact ⟨σ', rfl, g⟩
    | inr y =>
      obtain ⟨bs, q⟩ := y
      have g1 := sStr_bd hT.2.2.1 hle hp2 hr
      have hq := g1.2.1.2.1
      have hb2 := sB_le hq
      rw [hr] at hs
      obtain ⟨σ1, ex, q1, r1⟩ := hs
      have T1 := hT.fr q1.1
      simp only []
      rw [ex, bd_of rfl]
      simp only []
      rw [if_pos trivial, m_blanks T1 hq r1.1, bd_of (a := some (ms_at σ1 (nI (sB t q)))) rfl, bd_of (here_eq (T1.at _) (p := sB t q) (by omega) (by rw [mG_at_at]))]
      simp only []
      by_cases c2 : gL t (sB t q) = 58
      · have hc2 := gL_lit (v := 58) (by decide) rfl c2
        rw [if_pos c2, if_pos c2, mG_at_at, ms_aa, nI_1, m_blanks (T1.at _) (p := sB t q + 1) (by omega) (by rw [mG_at_at]), ms_aa, bd_of (a := some (ms_at σ1 (nI (sB t (sB t q + 1))))) rfl]
        exact ⟨by show sB t p0 ≤ sB t q + 1; omega, _, rfl, q1.trans (MLq.at σ1 _).1, by rw [mG_at_at], by rw [mG_fault_at]; exact r1.2.1, r1.2.2.1.lq (MLq.at _ _), r1.2.2.2.at _⟩
      · rw [if_neg c2, if_neg c2, bd_of (stuck_eq (by rw [mG_fault_at]; exact r1.2.1)), mG_at_at]
        exact MBad.fr q1.1 (MBad.of (k := 1) (MFr_at σ1 _) rfl)
  · rw [if_neg c, if_neg c, bd_of (stuck_eq h.2.1), h.1]
    exact MBad.of (k := 1) (MFr_rfl σ) rfl
/-- one more item of what is open -/
theorem item_top {t : List Nat} {D : Nat} {σ : MSt} {p c l0 : Nat} {T0 ts : List Th} {L st : List Nat} {isMap : Bool} (h : MS t D σ p (T0 ++ (srt isMap, c, l0) :: ts) L (st ++ [T0.length])) : ∃ σ1, mm_item σ = mm_item_b27 σ1 ∧ MQu σ σ1 ∧ MR σ1 p (T0 ++ (srt isMap, c + 1, l0) :: ts) L ∧ mm_isMap σ1 = some (isMap, σ1) := by
  obtain ⟨⟨hT, hD⟩, hR, hO, hTl, hLl, hp⟩ := h
  have hle := hT.2.1
  have hl : (st ++ [T0.length]).length = st.length + 1 := by rw [List.length_append]; rfl
  obtain ⟨h1, h2, h3⟩ := id hO
  rw [hl] at h1 h2 h3
  have h4 := h3 st.length (by omega)
  rw [getD_snocN] at h4
  have hlen : ∀ x : Th, (T0 ++ x :: ts).length = T0.length + (ts.length + 1) := fun x => by rw [List.length_append]; rfl
  rw [hlen] at hTl
  have g := hR.2.2.1.2 T0.length (by rw [hlen]; omega)
  rw [gT_mid] at g
  obtain ⟨σ1, e1⟩ : ∃ σ1, σ1 = ms_numbers σ (vp_updL (mf_numbers σ) T0.length (lN (c + 1))) := ⟨_, rfl⟩
  have Q1 : MQu σ σ1 := by
    rw [e1]
    unfold MQu MFr
    simp only [mG_thrown_numbers, mG_tape_numbers, mG_taped_numbers, mG_depth_numbers, mG_room_numbers, mG_written_numbers, mG_writtenMany_numbers, mG_errorPlace_numbers, mG_sorts_numbers, mG_numbers_numbers, mG_places_numbers, mG_things_numbers, mG_letters_numbers, mG_lettersMany_numbers, mG_openThing_numbers, mG_openLeft_numbers, mG_open_numbers, mG_at_numbers, mG_fault_numbers, mG_fresh_numbers, mG_freshMany_numbers, mG_figures_numbers, and_self]
  have S1 : mf_sorts σ1 = mf_sorts σ := by rw [e1]; simp only [mG_thrown_numbers, mG_tape_numbers, mG_taped_numbers, mG_depth_numbers, mG_room_numbers, mG_written_numbers, mG_writtenMany_numbers, mG_errorPlace_numbers, mG_sorts_numbers, mG_numbers_numbers, mG_places_numbers, mG_things_numbers, mG_letters_numbers, mG_lettersMany_numbers, mG_openThing_numbers, mG_openLeft_numbers, mG_open_numbers, mG_at_numbers, mG_fault_numbers, mG_fresh_numbers, mG_freshMany_numbers, mG_figures_numbers]
  refine ⟨σ1, ?_, Q1, ⟨?_, ?_, ⟨?_, ?_⟩, ?_⟩, isMap_top (hO.q Q1) (by omega) (by rw [S1]; exact g.1)⟩
  · unfold mm_item
    rw [h1, if_neg (nI_np (n := st.length + 1) (by omega) (by omega)), show nI (st.length + 1) - 1 = nI st.length from pk_sub (b := 1) (by omega), ck_in (vp_in_nI (by omega) (by decide)), nI_clamp (by omega), h4, ck_in (vp_in_nI (by omega) (by decide)), ck_in (vp_in_nI (by omega) (by decide)), nI_clamp (by omega), g.2.1, show (lN c + 1 : Int64) = lN (c + 1) from lN_add c 1, e1]
  · rw [e1, mG_at_numbers]; exact hR.1
  · rw [e1, mG_fault_numbers]; exact hR.2.1
  · rw [e1, mG_things_numbers, hR.2.2.1.1, hlen, hlen]
  · intro i hi
    rw [hlen] at hi
    have gi := hR.2.2.1.2 i (by rw [hlen]; exact hi)
    rw [S1, show mf_places σ1 = mf_places σ by rw [e1, mG_places_numbers], show mf_numbers σ1 = vp_updL (mf_numbers σ) T0.length (lN (c + 1)) by rw [e1, mG_numbers_numbers]]
    by_cases e : i = T0.length
    · subst e
      rw [gT_mid] at gi ⊢
      rw [pk_uLs]
      exact ⟨gi.1, rfl, gi.2.2⟩
    · rw [pk_uLn e, gT_ne (y := (srt isMap, c, l0)) e]
      exact gi
  · unfold MLt
    rw [e1, mG_lettersMany_numbers, mG_letters_numbers]
    exact hR.2.2.2
