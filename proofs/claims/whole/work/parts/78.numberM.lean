/-! PURE I: a number, read by the reference -/
/-- what a reading leaves as it was -/
def MFr (σ σ' : MSt) : Prop := (mf_tape σ' = mf_tape σ ∧ mf_taped σ' = mf_taped σ ∧ mf_depth σ' = mf_depth σ) ∧ mf_room σ' = mf_room σ ∧ mf_written σ' = mf_written σ ∧ mf_writtenMany σ' = mf_writtenMany σ
theorem MFr_rfl (σ : MSt) : MFr σ σ := ⟨⟨Eq.refl _, Eq.refl _, Eq.refl _⟩, Eq.refl _, Eq.refl _, Eq.refl _⟩
theorem MFr.trans {a b c : MSt} (h : MFr a b) (g : MFr b c) : MFr a c := ⟨⟨g.1.1.trans h.1.1, g.1.2.1.trans h.1.2.1, g.1.2.2.trans h.1.2.2⟩, g.2.1.trans h.2.1, g.2.2.1.trans h.2.2.1, g.2.2.2.trans h.2.2.2⟩
theorem MFr_at (σ : MSt) (v : Int32) : MFr σ (ms_at σ v) := by
  unfold MFr
  simp only [mG_thrown_at, mG_tape_at, mG_taped_at, mG_depth_at, mG_room_at, mG_written_at, mG_writtenMany_at, mG_errorPlace_at, mG_sorts_at, mG_numbers_at, mG_places_at, mG_things_at, mG_letters_at, mG_lettersMany_at, mG_openThing_at, mG_openLeft_at, mG_open_at, mG_at_at, mG_fault_at, mG_fresh_at, mG_freshMany_at, mG_figures_at, and_self]
theorem MFr_mF (σ : MSt) (k p : Int32) : MFr σ (mF σ k p) := by
  unfold MFr mF
  simp only [mG_thrown_fault, mG_tape_fault, mG_taped_fault, mG_depth_fault, mG_room_fault, mG_written_fault, mG_writtenMany_fault, mG_errorPlace_fault, mG_sorts_fault, mG_numbers_fault, mG_places_fault, mG_things_fault, mG_letters_fault, mG_lettersMany_fault, mG_openThing_fault, mG_openLeft_fault, mG_open_fault, mG_at_fault, mG_fault_fault, mG_fresh_fault, mG_freshMany_fault, mG_figures_fault, mG_thrown_errorPlace, mG_tape_errorPlace, mG_taped_errorPlace, mG_depth_errorPlace, mG_room_errorPlace, mG_written_errorPlace, mG_writtenMany_errorPlace, mG_errorPlace_errorPlace, mG_sorts_errorPlace, mG_numbers_errorPlace, mG_places_errorPlace, mG_things_errorPlace, mG_letters_errorPlace, mG_lettersMany_errorPlace, mG_openThing_errorPlace, mG_openLeft_errorPlace, mG_open_errorPlace, mG_at_errorPlace, mG_fault_errorPlace, mG_fresh_errorPlace, mG_freshMany_errorPlace, mG_figures_errorPlace, and_self]
theorem MFr_mT (σ : MSt) (s : Int32) (n : Int64) : MFr σ (mT σ s n) := by
  unfold MFr mT
  simp only [mG_thrown_sorts, mG_tape_sorts, mG_taped_sorts, mG_depth_sorts, mG_room_sorts, mG_written_sorts, mG_writtenMany_sorts, mG_errorPlace_sorts, mG_sorts_sorts, mG_numbers_sorts, mG_places_sorts, mG_things_sorts, mG_letters_sorts, mG_lettersMany_sorts, mG_openThing_sorts, mG_openLeft_sorts, mG_open_sorts, mG_at_sorts, mG_fault_sorts, mG_fresh_sorts, mG_freshMany_sorts, mG_figures_sorts, mG_thrown_numbers, mG_tape_numbers, mG_taped_numbers, mG_depth_numbers, mG_room_numbers, mG_written_numbers, mG_writtenMany_numbers, mG_errorPlace_numbers, mG_sorts_numbers, mG_numbers_numbers, mG_places_numbers, mG_things_numbers, mG_letters_numbers, mG_lettersMany_numbers, mG_openThing_numbers, mG_openLeft_numbers, mG_open_numbers, mG_at_numbers, mG_fault_numbers, mG_fresh_numbers, mG_freshMany_numbers, mG_figures_numbers, mG_thrown_places, mG_tape_places, mG_taped_places, mG_depth_places, mG_room_places, mG_written_places, mG_writtenMany_places, mG_errorPlace_places, mG_sorts_places, mG_numbers_places, mG_places_places, mG_things_places, mG_letters_places, mG_lettersMany_places, mG_openThing_places, mG_openLeft_places, mG_open_places, mG_at_places, mG_fault_places, mG_fresh_places, mG_freshMany_places, mG_figures_places, mG_thrown_things, mG_tape_things, mG_taped_things, mG_depth_things, mG_room_things, mG_written_things, mG_writtenMany_things, mG_errorPlace_things, mG_sorts_things, mG_numbers_things, mG_places_things, mG_things_things, mG_letters_things, mG_lettersMany_things, mG_openThing_things, mG_openLeft_things, mG_open_things, mG_at_things, mG_fault_things, mG_fresh_things, mG_freshMany_things, mG_figures_things, and_self]
theorem TpM.fr {σ σ' : MSt} {t : List Nat} (h : TpM σ t) (g : MFr σ σ') : TpM σ' t := by
  obtain ⟨h1, h2, h3, h4⟩ := h
  exact ⟨by rw [g.1.2.1]; exact h1, h2, h3, fun i hi => by rw [g.1.1]; exact h4 i hi⟩
def MBad (σ : MSt) (k q : Nat) (x : Option (Bool × MSt)) : Prop := ∃ σ', x = some (false, σ') ∧ MFr σ σ' ∧ mf_fault σ' = nI k ∧ mf_errorPlace σ' = nI q
theorem MBad.of {σ σ1 : MSt} {k q : Nat} {x : Option (Bool × MSt)} (g : MFr σ σ1) (h : x = some (false, mF σ1 (nI k) (nI q))) : MBad σ k q x := by
  refine ⟨_, h, g.trans (MFr_mF _ _ _), ?_, ?_⟩
  · unfold mF; simp only [mG_thrown_fault, mG_tape_fault, mG_taped_fault, mG_depth_fault, mG_room_fault, mG_written_fault, mG_writtenMany_fault, mG_errorPlace_fault, mG_sorts_fault, mG_numbers_fault, mG_places_fault, mG_things_fault, mG_letters_fault, mG_lettersMany_fault, mG_openThing_fault, mG_openLeft_fault, mG_open_fault, mG_at_fault, mG_fault_fault, mG_fresh_fault, mG_freshMany_fault, mG_figures_fault, mG_thrown_errorPlace, mG_tape_errorPlace, mG_taped_errorPlace, mG_depth_errorPlace, mG_room_errorPlace, mG_written_errorPlace, mG_writtenMany_errorPlace, mG_errorPlace_errorPlace, mG_sorts_errorPlace, mG_numbers_errorPlace, mG_places_errorPlace, mG_things_errorPlace, mG_letters_errorPlace, mG_lettersMany_errorPlace, mG_openThing_errorPlace, mG_openLeft_errorPlace, mG_open_errorPlace, mG_at_errorPlace, mG_fault_errorPlace, mG_fresh_errorPlace, mG_freshMany_errorPlace, mG_figures_errorPlace]
  · unfold mF; simp only [mG_thrown_fault, mG_tape_fault, mG_taped_fault, mG_depth_fault, mG_room_fault, mG_written_fault, mG_writtenMany_fault, mG_errorPlace_fault, mG_sorts_fault, mG_numbers_fault, mG_places_fault, mG_things_fault, mG_letters_fault, mG_lettersMany_fault, mG_openThing_fault, mG_openLeft_fault, mG_open_fault, mG_at_fault, mG_fault_fault, mG_fresh_fault, mG_freshMany_fault, mG_figures_fault, mG_thrown_errorPlace, mG_tape_errorPlace, mG_taped_errorPlace, mG_depth_errorPlace, mG_room_errorPlace, mG_written_errorPlace, mG_writtenMany_errorPlace, mG_errorPlace_errorPlace, mG_sorts_errorPlace, mG_numbers_errorPlace, mG_places_errorPlace, mG_things_errorPlace, mG_letters_errorPlace, mG_lettersMany_errorPlace, mG_openThing_errorPlace, mG_openLeft_errorPlace, mG_open_errorPlace, mG_at_errorPlace, mG_fault_errorPlace, mG_fresh_errorPlace, mG_freshMany_errorPlace, mG_figures_errorPlace]
/-- what a reading of one scalar comes to in the reference -/
def MNum (σ : MSt) (r : Rd ((Nat × Nat) × Nat)) (x : Option (Bool × MSt)) : Prop := match r with
  | .inl kq => MBad σ kq.1 kq.2 x
  | .inr y => x = some (true, mT (ms_at σ (nI y.2)) (nI y.1.1) (lN y.1.2))
section NUMM
variable {t : List Nat} {σ : MSt} {p : Nat}
theorem m_num_end {a b pl : Nat} {a5 : Int32} (hT : TpM σ t) (hf : mf_fault σ = 0) (hth : vp_in (mf_things σ) 4200) (hab : a < b) (hbl : b ≤ t.length) (hdg : ∀ i, a ≤ i → i < b → isDg (gL t i) = true) (hz : t.getD a 0 = 48 → b = a + 1) (h5 : a5 = if pl = b then 1 else 0) :
    MNum σ (if pl = b ∧ dv t a (b - a) ≤ lim (decide (gL t p = 45)) then .inr (numTh (decide (gL t p = 45)) (dv t a (b - a)), b) else .inl (3, p)) (mm_number_b178 (nI p) (bI (decide (gL t p = 45))) (nI a) (nI b) a5 (ms_at σ (nI pl))) := by
  have hT2 := hT.at (nI pl)
  have hf2 : mf_fault (ms_at σ (nI pl)) = 0 := by rw [mG_fault_at]; exact hf
  have hw2 : ∀ σ1 : MSt, mf_fault σ1 = 0 → mm_number_b194 (nI p) σ1 = some (false, mF σ1 3 (nI p)) := by
    intro σ1 h1
    unfold mm_number_b194
    rw [bd_of (wrong_eq h1 _ _)]
    simp only []
    rw [if_neg (show ¬ false = true by decide)]
  unfold mm_number_b178
  by_cases c : pl = b
  · rw [if_pos c] at h5
    subst h5
    subst c
    rw [if_neg (show ¬ (1 : Int32) = 0 by decide)]
    have hw := m_whole (neg := decide (gL t p = 45)) (a := a) (n := pl - a) hT2 (by omega) (by omega) (fun i g1 g2 => hdg i g1 (by omega)) (fun z => by have := hz z; omega) (by rw [mG_things_at]; exact hth)
    rw [show a + (pl - a) = pl by omega] at hw
    rw [hw]
    by_cases c3 : dv t a (pl - a) ≤ lim (decide (gL t p = 45))
    · rw [if_pos c3, if_pos ⟨rfl, c3⟩, bd_of rfl]
      simp only []
      rw [if_pos trivial]
      rfl
    · rw [if_neg c3, if_neg (fun z => c3 z.2), bd_of rfl]
      simp only []
      rw [if_neg (show ¬ false = true by decide), hw2 _ hf2]
      exact MBad.of (MFr_at σ _) rfl
  · rw [if_neg c] at h5
    subst h5
    rw [if_pos (show (0 : Int32) = 0 from rfl), if_neg (fun z => c z.1), hw2 _ hf2]
    exact MBad.of (MFr_at σ _) rfl
theorem m_fin {a b c : Nat} {a5 : Int32} (hT : TpM σ t) (hf : mf_fault σ = 0) (hth : vp_in (mf_things σ) 4200) (hab : a < b) (hbl : b ≤ t.length) (hdg : ∀ i, a ≤ i → i < b → isDg (gL t i) = true) (hz : t.getD a 0 = 48 → b = a + 1) (hbc : b ≤ c) (hcl : c ≤ t.length) (h5 : a5 = if c = b then 1 else 0) :
    MNum σ (sNumE t p a b c) (mm_number_b110 (nI p) (bI (decide (gL t p = 45))) (nI a) (nI b) a5 (ms_at σ (nI c))) := by
  have hle := hT.2.1
  have ha : ∀ q, mf_at (ms_at σ (nI q)) = nI q := fun q => by rw [mG_at_at]
  have hf2 : ∀ q : Int32, mf_fault (ms_at σ q) = 0 := fun q => by rw [mG_fault_at]; exact hf
  have dig : ∀ q, q ≤ t.length → b < q → MNum σ (if isDg (gL t q) = true then .inl (3, p) else .inl (1, q)) (mm_number_b169 (nI p) (bI (decide (gL t p = 45))) (nI a) (nI b) (0 : Int32) (ms_at σ (nI q))) := by
    intro q hq hbq
    unfold mm_number_b169
    rw [m_digits (hT.at _) hq (ha q) (hf2 _)]
    by_cases c1 : isDg (gL t q) = true
    · have hs := sD_pos.mpr c1
      rw [if_pos c1, if_pos c1, bd_of rfl]
      simp only []
      rw [if_pos trivial, ms_aa]
      have := m_num_end (p := p) (pl := sD t q) (a5 := 0) hT hf hth hab hbl hdg hz (by rw [if_neg (by omega)])
      rw [if_neg (fun z => by omega)] at this
      exact this
    · rw [if_neg c1, if_neg c1, bd_of rfl]
      simp only []
      rw [if_neg (show ¬ false = true by decide)]
      exact MBad.of (MFr_at σ _) rfl
  have b128 : c < t.length → MNum σ (if gL t (c + 1) = 43 ∨ gL t (c + 1) = 45 then (if isDg (gL t (c + 2)) = true then .inl (3, p) else .inl (1, c + 2)) else (if isDg (gL t (c + 1)) = true then .inl (3, p) else .inl (1, c + 1))) (mm_number_b128 (nI p) (bI (decide (gL t p = 45))) (nI a) (nI b) (ms_at σ (nI c))) := by
    intro hc
    unfold mm_number_b128 mm_number_b159
    rw [mG_at_at, ms_aa, nI_1, bd_of (here_eq (hT.at _) (by omega) (ha (c + 1)))]
    simp only []
    by_cases c1 : gL t (c + 1) = 43
    · have hc2 : c + 1 < t.length := gL_lit (v := 43) (by decide) rfl c1
      rw [if_pos c1, if_pos (Or.inl c1), mG_at_at, ms_aa, nI_1]
      exact dig (c + 2) (by omega) (by omega)
    · rw [if_neg c1, bd_of (here_eq (hT.at _) (by omega) (ha (c + 1)))]
      simp only []
      by_cases c2 : gL t (c + 1) = 45
      · have hc2 : c + 1 < t.length := gL_lit (v := 45) (by decide) rfl c2
        rw [if_pos c2, if_pos (Or.inr c2), mG_at_at, ms_aa, nI_1]
        exact dig (c + 2) (by omega) (by omega)
      · rw [if_neg c2, if_neg (fun z => z.elim c1 c2)]
        exact dig (c + 1) (by omega) (by omega)
  unfold mm_number_b110 sNumE
  rw [bd_of (here_eq (hT.at _) (by omega) (ha c))]
  simp only []
  by_cases c1 : gL t c = 101
  · rw [if_pos c1, if_pos (Or.inl c1)]
    exact b128 (gL_lit (v := 101) (by decide) rfl c1)
  · rw [if_neg c1, bd_of (here_eq (hT.at _) (by omega) (ha c))]
    simp only []
    by_cases c2 : gL t c = 69
    · rw [if_pos c2, if_pos (Or.inr c2)]
      exact b128 (gL_lit (v := 69) (by decide) rfl c2)
    · rw [if_neg c2, if_neg (fun z => z.elim c1 c2)]
      exact m_num_end hT hf hth hab hbl hdg hz h5
theorem m_numF {a b : Nat} (hT : TpM σ t) (hf : mf_fault σ = 0) (hth : vp_in (mf_things σ) 4200) (hab : a < b) (hbl : b ≤ t.length) (hdg : ∀ i, a ≤ i → i < b → isDg (gL t i) = true) (hz : t.getD a 0 = 48 → b = a + 1) :
    MNum σ (sNumF t p a b) (mm_number_b70 (nI p) (bI (decide (gL t p = 45))) (nI a) (ms_at σ (nI b))) := by
  have hle := hT.2.1
  have ha : ∀ q, mf_at (ms_at σ (nI q)) = nI q := fun q => by rw [mG_at_at]
  have hf2 : ∀ q : Int32, mf_fault (ms_at σ q) = 0 := fun q => by rw [mG_fault_at]; exact hf
  unfold mm_number_b70 sNumF
  simp only [lt]
  rw [ha b, bd_of (here_eq (hT.at _) (by omega) (ha b))]
  simp only []
  by_cases c1 : gL t b = 46
  · have hb2 : b < t.length := gL_lit (v := 46) (by decide) rfl c1
    rw [if_pos c1, if_pos c1, ha b, ms_aa, nI_1, m_digits (hT.at _) (by omega) (ha (b + 1)) (hf2 _)]
    by_cases c2 : isDg (gL t (b + 1)) = true
    · have hs := sD_pos.mpr c2
      have hs2 := sD_le (t := t) (p := b + 1) (by omega)
      rw [if_pos c2, if_pos c2, bd_of rfl]
      simp only []
      rw [if_pos trivial, ms_aa]
      exact m_fin hT hf hth hab hbl hdg hz (by omega) hs2.2 (by rw [if_neg (by omega)])
    · rw [if_neg c2, if_neg c2, bd_of rfl]
      simp only []
      rw [if_neg (show ¬ false = true by decide)]
      exact MBad.of (MFr_at σ _) rfl
  · rw [if_neg c1, if_neg c1]
    exact m_fin hT hf hth hab hbl hdg hz (Nat.le_refl _) hbl (by rw [if_pos rfl])
theorem m_number (hT : TpM σ t) (hf : mf_fault σ = 0) (hth : vp_in (mf_things σ) 4200) (hp : p ≤ t.length) (hat : mf_at σ = nI p) : MNum σ (sNum t p) (mm_number σ) := by
  have hle := hT.2.1
  have ht := hT.2.2.1
  have ha : ∀ q, mf_at (ms_at σ (nI q)) = nI q := fun q => by rw [mG_at_at]
  have hf2 : ∀ q : Int32, mf_fault (ms_at σ q) = 0 := fun q => by rw [mG_fault_at]; exact hf
  have b34 : ∀ a, a ≤ t.length → MNum σ (sNumA t p a) (mm_number_b34 (nI p) (bI (decide (gL t p = 45))) (ms_at σ (nI a))) := by
    intro a hal
    unfold mm_number_b34 sNumA
    simp only [lt]
    rw [ha a, bd_of (here_eq (hT.at _) (by omega) (ha a))]
    simp only []
    by_cases c1 : gL t a = 48
    · have ha2 : a < t.length := gL_lit (v := 48) (by decide) rfl c1
      rw [if_pos c1, if_pos c1, ha a, ms_aa, nI_1]
      exact m_numF hT hf hth (by omega) (by omega) (fun i g1 g2 => by rw [show i = a by omega, c1]; decide) (fun _ => rfl)
    · rw [if_neg c1, if_neg c1, m_digits (hT.at _) hal (ha a) (hf2 _)]
      by_cases c2 : isDg (gL t a) = true
      · have hs := sD_pos.mpr c2
        have hs2 := sD_le (t := t) (p := a) hal
        have hda := isDg_at ht c2
        rw [if_pos c2, if_pos c2, bd_of rfl]
        simp only []
        rw [if_pos trivial, ms_aa]
        exact m_numF hT hf hth hs hs2.2 (fun i g1 g2 => sD_dg _ _ i g1 g2) (fun z => absurd (show gL t a = 48 by rw [gL_in hda.1, z]; rfl) c1)
      · rw [if_neg c2, if_neg c2, bd_of rfl]
        simp only []
        rw [if_neg (show ¬ false = true by decide)]
        exact MBad.of (MFr_at σ _) rfl
  unfold mm_number sNum
  simp only [lt]
  rw [hat, bd_of (here_eq hT (by omega) hat)]
  simp only []
  by_cases c : gL t p = 45
  · have hp2 : p < t.length := gL_lit (v := 45) (by decide) rfl c
    have := b34 (p + 1) (by omega)
    rw [decide_eq_true c] at this
    rw [if_pos c, if_pos c]
    unfold mm_number_b19
    rw [if_neg (show ¬ (1 : Int32) = 0 by decide), hat, nI_1]
    exact this
  · have := b34 p hp
    rw [decide_eq_false c] at this
    rw [if_neg c, if_neg c]
    unfold mm_number_b19
    rw [if_pos (show (0 : Int32) = 0 from rfl)]
    rw [← hat, ms_at_id, hat] at this
    exact this
end NUMM
