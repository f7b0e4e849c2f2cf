/-! PURE S: letters in the reference -/
/-- the letters are L -/
def MLt (σ : MSt) (L : List Nat) : Prop := mf_lettersMany σ = nI L.length ∧ ∀ i, i < L.length → mf_letters σ i = bb (L.getD i 0)
/-- what stays over a value: also what is open -/
def MQu (σ σ' : MSt) : Prop := MFr σ σ' ∧ (mf_open σ' = mf_open σ ∧ mf_openThing σ' = mf_openThing σ ∧ mf_openLeft σ' = mf_openLeft σ) ∧ mf_errorPlace σ' = mf_errorPlace σ
theorem MQu.rfl' (σ : MSt) : MQu σ σ := ⟨MFr_rfl σ, ⟨rfl, rfl, rfl⟩, rfl⟩
theorem MQu.trans {a b c : MSt} (h : MQu a b) (g : MQu b c) : MQu a c := ⟨h.1.trans g.1, ⟨g.2.1.1.trans h.2.1.1, g.2.1.2.1.trans h.2.1.2.1, g.2.1.2.2.trans h.2.1.2.2⟩, g.2.2.trans h.2.2⟩
/-- what stays where letters alone are read: also the things -/
def MLq (σ σ' : MSt) : Prop := MQu σ σ' ∧ mf_fault σ' = mf_fault σ ∧ mf_things σ' = mf_things σ ∧ mf_sorts σ' = mf_sorts σ ∧ mf_numbers σ' = mf_numbers σ ∧ mf_places σ' = mf_places σ
theorem MLq.rfl' (σ : MSt) : MLq σ σ := ⟨MQu.rfl' σ, rfl, rfl, rfl, rfl, rfl⟩
theorem MLq.trans {a b c : MSt} (h : MLq a b) (g : MLq b c) : MLq a c := ⟨h.1.trans g.1, g.2.1.trans h.2.1, g.2.2.1.trans h.2.2.1, g.2.2.2.1.trans h.2.2.2.1, g.2.2.2.2.1.trans h.2.2.2.2.1, g.2.2.2.2.2.trans h.2.2.2.2.2⟩
theorem MLq.at (σ : MSt) (v : Int32) : MLq σ (ms_at σ v) := by
  unfold MLq MQu MFr
  simp only [mG_thrown_at, mG_tape_at, mG_taped_at, mG_depth_at, mG_room_at, mG_written_at, mG_writtenMany_at, mG_errorPlace_at, mG_sorts_at, mG_numbers_at, mG_places_at, mG_things_at, mG_letters_at, mG_lettersMany_at, mG_openThing_at, mG_openLeft_at, mG_open_at, mG_at_at, mG_fault_at, mG_fresh_at, mG_freshMany_at, mG_figures_at, and_self]
theorem MLt.at {σ : MSt} {L : List Nat} (h : MLt σ L) (v : Int32) : MLt (ms_at σ v) L := by
  unfold MLt
  simp only [mG_thrown_at, mG_tape_at, mG_taped_at, mG_depth_at, mG_room_at, mG_written_at, mG_writtenMany_at, mG_errorPlace_at, mG_sorts_at, mG_numbers_at, mG_places_at, mG_things_at, mG_letters_at, mG_lettersMany_at, mG_openThing_at, mG_openLeft_at, mG_open_at, mG_at_at, mG_fault_at, mG_fresh_at, mG_freshMany_at, mG_figures_at]
  exact h
theorem getD_snoc {L : List Nat} {x i : Nat} (h : i < L.length + 1) : (L ++ [x]).getD i 0 = if i = L.length then x else L.getD i 0 := by
  by_cases e : i = L.length
  · rw [if_pos e, getD_app2 (by omega), e, Nat.sub_self]; rfl
  · rw [if_neg e, getD_app (by omega)]
theorem m_letter {σ : MSt} {L : List Nat} (h : MLt σ L) (hl : L.length < 8200) (v : Int32) : ∃ σ', mm_letter v σ = some σ' ∧ MLq σ σ' ∧ mf_at σ' = mf_at σ ∧ MLt σ' (L ++ [lowb v]) := by
  unfold mm_letter
  rw [h.1, ck_in (vp_in_nI hl (by decide))]
  refine ⟨_, rfl, ?_, ?_, ?_, ?_⟩
  · unfold MLq MQu MFr
    simp only [mG_thrown_letters, mG_tape_letters, mG_taped_letters, mG_depth_letters, mG_room_letters, mG_written_letters, mG_writtenMany_letters, mG_errorPlace_letters, mG_sorts_letters, mG_numbers_letters, mG_places_letters, mG_things_letters, mG_letters_letters, mG_lettersMany_letters, mG_openThing_letters, mG_openLeft_letters, mG_open_letters, mG_at_letters, mG_fault_letters, mG_fresh_letters, mG_freshMany_letters, mG_figures_letters, mG_thrown_lettersMany, mG_tape_lettersMany, mG_taped_lettersMany, mG_depth_lettersMany, mG_room_lettersMany, mG_written_lettersMany, mG_writtenMany_lettersMany, mG_errorPlace_lettersMany, mG_sorts_lettersMany, mG_numbers_lettersMany, mG_places_lettersMany, mG_things_lettersMany, mG_letters_lettersMany, mG_lettersMany_lettersMany, mG_openThing_lettersMany, mG_openLeft_lettersMany, mG_open_lettersMany, mG_at_lettersMany, mG_fault_lettersMany, mG_fresh_lettersMany, mG_freshMany_lettersMany, mG_figures_lettersMany, and_self]
  · simp only [mG_thrown_letters, mG_tape_letters, mG_taped_letters, mG_depth_letters, mG_room_letters, mG_written_letters, mG_writtenMany_letters, mG_errorPlace_letters, mG_sorts_letters, mG_numbers_letters, mG_places_letters, mG_things_letters, mG_letters_letters, mG_lettersMany_letters, mG_openThing_letters, mG_openLeft_letters, mG_open_letters, mG_at_letters, mG_fault_letters, mG_fresh_letters, mG_freshMany_letters, mG_figures_letters, mG_thrown_lettersMany, mG_tape_lettersMany, mG_taped_lettersMany, mG_depth_lettersMany, mG_room_lettersMany, mG_written_lettersMany, mG_writtenMany_lettersMany, mG_errorPlace_lettersMany, mG_sorts_lettersMany, mG_numbers_lettersMany, mG_places_lettersMany, mG_things_lettersMany, mG_letters_lettersMany, mG_lettersMany_lettersMany, mG_openThing_lettersMany, mG_openLeft_lettersMany, mG_open_lettersMany, mG_at_lettersMany, mG_fault_lettersMany, mG_fresh_lettersMany, mG_freshMany_lettersMany, mG_figures_lettersMany]
  · simp only [mG_thrown_letters, mG_tape_letters, mG_taped_letters, mG_depth_letters, mG_room_letters, mG_written_letters, mG_writtenMany_letters, mG_errorPlace_letters, mG_sorts_letters, mG_numbers_letters, mG_places_letters, mG_things_letters, mG_letters_letters, mG_lettersMany_letters, mG_openThing_letters, mG_openLeft_letters, mG_open_letters, mG_at_letters, mG_fault_letters, mG_fresh_letters, mG_freshMany_letters, mG_figures_letters, mG_thrown_lettersMany, mG_tape_lettersMany, mG_taped_lettersMany, mG_depth_lettersMany, mG_room_lettersMany, mG_written_lettersMany, mG_writtenMany_lettersMany, mG_errorPlace_lettersMany, mG_sorts_lettersMany, mG_numbers_lettersMany, mG_places_lettersMany, mG_things_lettersMany, mG_letters_lettersMany, mG_lettersMany_lettersMany, mG_openThing_lettersMany, mG_openLeft_lettersMany, mG_open_lettersMany, mG_at_lettersMany, mG_fault_lettersMany, mG_fresh_lettersMany, mG_freshMany_lettersMany, mG_figures_lettersMany]
    rw [nI_1, List.length_append]
    rfl
  · intro i hi
    rw [List.length_append, List.length_singleton] at hi
    simp only [mG_thrown_letters, mG_tape_letters, mG_taped_letters, mG_depth_letters, mG_room_letters, mG_written_letters, mG_writtenMany_letters, mG_errorPlace_letters, mG_sorts_letters, mG_numbers_letters, mG_places_letters, mG_things_letters, mG_letters_letters, mG_lettersMany_letters, mG_openThing_letters, mG_openLeft_letters, mG_open_letters, mG_at_letters, mG_fault_letters, mG_fresh_letters, mG_freshMany_letters, mG_figures_letters, mG_thrown_lettersMany, mG_tape_lettersMany, mG_taped_lettersMany, mG_depth_lettersMany, mG_room_lettersMany, mG_written_lettersMany, mG_writtenMany_lettersMany, mG_errorPlace_lettersMany, mG_sorts_lettersMany, mG_numbers_lettersMany, mG_places_lettersMany, mG_things_lettersMany, mG_letters_lettersMany, mG_lettersMany_lettersMany, mG_openThing_lettersMany, mG_openLeft_lettersMany, mG_open_lettersMany, mG_at_lettersMany, mG_fault_lettersMany, mG_fresh_lettersMany, mG_freshMany_lettersMany, mG_figures_lettersMany]
    rw [nI_clamp (by omega), bb_nar, getD_snoc hi]
    by_cases e : i = L.length
    · rw [if_pos e, e, pk_us]
    · rw [if_neg e, pk_un e, h.2 i (by omega)]
theorem m_letterN {σ : MSt} {L : List Nat} (h : MLt σ L) (hl : L.length < 8200) {n : Nat} (hn : n < 256) {v : Int32} (hv : v = nI n) : ∃ σ', mm_letter v σ = some σ' ∧ MLq σ σ' ∧ mf_at σ' = mf_at σ ∧ MLt σ' (L ++ [n]) := by
  have := m_letter h hl v
  rw [hv, lowb_byte hn] at this
  rw [hv]
  exact this
theorem m_sign {σ : MSt} {L : List Nat} (h : MLt σ L) (hl : L.length + 4 ≤ 8200) {v : Nat} (hv : v < 1114112) : ∃ σ', mm_sign (nI v) σ = some σ' ∧ MLq σ σ' ∧ mf_at σ' = mf_at σ ∧ MLt σ' (L ++ utf v) := by
  have d64 : ∀ a, a < 2 ^ 31 → nI a / (64 : Int32) = nI (a / 64) := fun a ha => pk_div (d := 64) ha (by decide) (by decide)
  have d4096 : nI v / (4096 : Int32) = nI (v / 4096) := pk_div (d := 4096) (by omega) (by decide) (by decide)
  have d262 : nI v / (262144 : Int32) = nI (v / 262144) := pk_div (d := 262144) (by omega) (by decide) (by decide)
  have r64 : ∀ a, a < 2 ^ 31 → (128 : Int32) + (nI a - nI a / (64 : Int32) * (64 : Int32)) = nI (128 + a % 64) := fun a ha => by rw [show nI a - nI a / (64 : Int32) * (64 : Int32) = nI (a % 64) from pk_rem (d := 64) ha (by decide) (by decide)]; exact nI_add 128 _
  unfold mm_sign utf
  by_cases c1 : v < 128
  · rw [if_neg (show ¬ (128 : Int32) ≤ nI v from nI_ge c1 (by decide)), if_pos c1]
    obtain ⟨σ1, e1, q1, a1, l1⟩ := m_letterN h (by omega) (n := v) (by omega) rfl
    rw [bd_of e1]
    exact ⟨σ1, rfl, q1, a1, l1⟩
  rw [if_pos (show (128 : Int32) ≤ nI v from nI_le (a := 128) (by omega) (by omega)), if_neg c1]
  by_cases c2 : v < 2048
  · rw [if_neg (show ¬ (2048 : Int32) ≤ nI v from nI_ge c2 (by decide)), if_pos c2]
    obtain ⟨σ1, e1, q1, a1, l1⟩ := m_letterN h (by omega) (n := 192 + v / 64) (v := (192 : Int32) + nI v / (64 : Int32)) (by omega) (by rw [d64 v (by omega)]; exact nI_add 192 _)
    rw [bd_of e1]
    obtain ⟨σ2, e2, q2, a2, l2⟩ := m_letterN l1 (by rw [List.length_append, List.length_singleton]; omega) (n := 128 + v % 64) (by omega) (r64 v (by omega))
    rw [bd_of e2]
    refine ⟨σ2, rfl, q1.trans q2, a2.trans a1, ?_⟩
    simpa using l2
  rw [if_pos (show (2048 : Int32) ≤ nI v from nI_le (a := 2048) (by omega) (by omega)), if_neg c2]
  by_cases c3 : v < 65536
  · rw [if_neg (show ¬ (65536 : Int32) ≤ nI v from nI_ge c3 (by decide)), if_pos c3]
    obtain ⟨σ1, e1, q1, a1, l1⟩ := m_letterN h (by omega) (n := 224 + v / 4096) (v := (224 : Int32) + nI v / (4096 : Int32)) (by omega) (by rw [d4096]; exact nI_add 224 _)
    rw [bd_of e1]
    obtain ⟨σ2, e2, q2, a2, l2⟩ := m_letterN l1 (by rw [List.length_append, List.length_singleton]; omega) (n := 128 + v / 64 % 64) (v := (128 : Int32) + ((nI v / (64 : Int32)) - (nI v / (64 : Int32)) / (64 : Int32) * (64 : Int32))) (by omega) (by rw [d64 v (by omega)]; exact r64 (v / 64) (by omega))
    rw [bd_of e2]
    obtain ⟨σ3, e3, q3, a3, l3⟩ := m_letterN l2 (by simp only [List.length_append, List.length_singleton]; omega) (n := 128 + v % 64) (by omega) (r64 v (by omega))
    rw [bd_of e3]
    refine ⟨σ3, rfl, (q1.trans q2).trans q3, a3.trans (a2.trans a1), ?_⟩
    simpa using l3
  rw [if_pos (show (65536 : Int32) ≤ nI v from nI_le (a := 65536) (by omega) (by omega)), if_neg c3]
  obtain ⟨σ1, e1, q1, a1, l1⟩ := m_letterN h (by omega) (n := 240 + v / 262144) (v := (240 : Int32) + nI v / (262144 : Int32)) (by omega) (by rw [d262]; exact nI_add 240 _)
  rw [bd_of e1]
  obtain ⟨σ2, e2, q2, a2, l2⟩ := m_letterN l1 (by rw [List.length_append, List.length_singleton]; omega) (n := 128 + v / 4096 % 64) (v := (128 : Int32) + ((nI v / (4096 : Int32)) - (nI v / (4096 : Int32)) / (64 : Int32) * (64 : Int32))) (by omega) (by rw [d4096]; exact r64 (v / 4096) (by omega))
  rw [bd_of e2]
  obtain ⟨σ3, e3, q3, a3, l3⟩ := m_letterN l2 (by simp only [List.length_append, List.length_singleton]; omega) (n := 128 + v / 64 % 64) (v := (128 : Int32) + ((nI v / (64 : Int32)) - (nI v / (64 : Int32)) / (64 : Int32) * (64 : Int32))) (by omega) (by rw [d64 v (by omega)]; exact r64 (v / 64) (by omega))
  rw [bd_of e3]
  obtain ⟨σ4, e4, q4, a4, l4⟩ := m_letterN l3 (by simp only [List.length_append, List.length_singleton]; omega) (n := 128 + v % 64) (by omega) (r64 v (by omega))
  rw [bd_of e4]
  refine ⟨σ4, rfl, ((q1.trans q2).trans q3).trans q4, a4.trans (a3.trans (a2.trans a1)), ?_⟩
  simpa using l4
theorem nI_n0 {n : Nat} (h : n < 2 ^ 31) : (0 : Int32) ≤ nI n := Int32.not_lt.mp (nI_pos h)
section FRM
variable {t : List Nat} {σ : MSt}
theorem four_step (hT : TpM σ t) {q k c : Nat} (hk : k < 4) (hq : q < 2 ^ 20) (g : Nat) : mm_four_L4 (g + 1) (nI q) (nI c) (nI k) σ = if hx t (q + k) = 16 then some (-1, σ) else mm_four_L4 g (nI q) (nI (c * 16 + hx t (q + k))) (nI (k + 1)) σ := by
  obtain ⟨h1, h2, h3, h4⟩ := id hT
  have fin : mm_four_b34 (mm_four_L4 g) (nI q) (nI c) (nI k) (eX1_hexValue (gL t (q + k))) σ = if hx t (q + k) = 16 then some (-1, σ) else mm_four_L4 g (nI q) (nI (c * 16 + hx t (q + k))) (nI (k + 1)) σ := by
    unfold mm_four_b34
    rcases hx_spec h3 (q + k) with ⟨g1, g2⟩ | ⟨g1, g2, g3⟩
    · rw [g2, if_pos g1, if_neg (by decide)]
    · rw [g2, if_pos (nI_n0 (by omega)), if_neg (show ¬ hx t (q + k) = 16 by omega)]
      simp only [lt]
      rw [show (16 : Int32) * nI c = nI (16 * c) from pk_mul 16 c, nI_add, nI_1, Nat.mul_comm 16 c]
  show mm_four_b4 (mm_four_L4 g) _ _ _ σ = _
  unfold mm_four_b4
  rw [if_neg (show ¬ (4 : Int32) ≤ nI k from nI_ge hk (by decide)), nI_add, h1]
  by_cases c1 : q + k < t.length
  · rw [if_neg (nI_ge c1 (by omega)), ck_in (vp_in_nI (by omega) (by decide)), nI_clamp (by omega), h4 _ c1, hexOf_eq, ← gL_in c1]
    exact fin
  · rw [if_pos (nI_le (by omega) (by omega)), show (-1 : Int32) = eX1_hexValue (gL t (q + k)) by rw [gL_out (by omega)]; decide]
    rw [fin, gL_out (by omega)]
    congr 1
theorem m_four (hT : TpM σ t) {q : Nat} (hq : q < 2 ^ 20) : mm_four (nI q) σ = some (v4 (hx4 t q), σ) := by
  obtain ⟨f, hf⟩ : ∃ f, FU = f + 5 := ⟨99995, rfl⟩
  unfold mm_four
  rw [hf, show (0 : Int32) = nI 0 from rfl, four_step hT (by decide) hq]
  unfold hx4
  by_cases q0 : hx t (q + 0) = 16
  · rw [if_pos q0, if_pos (show hx t q = 16 from q0)]; rfl
  rw [if_neg q0, if_neg (show ¬ hx t q = 16 from q0), four_step hT (by decide) hq]
  by_cases q1 : hx t (q + 1) = 16
  · rw [if_pos q1, if_pos q1]; rfl
  rw [if_neg q1, if_neg q1, four_step hT (by decide) hq]
  by_cases q2 : hx t (q + 2) = 16
  · rw [if_pos q2, if_pos q2]; rfl
  rw [if_neg q2, if_neg q2, four_step hT (by decide) hq]
  by_cases q3 : hx t (q + 3) = 16
  · rw [if_pos q3, if_pos q3]; rfl
  rw [if_neg q3, if_neg q3]
  show mm_four_b4 _ _ _ _ σ = _
  unfold mm_four_b4
  rw [if_pos (by decide)]
  simp only [Nat.zero_mul, Nat.zero_add]
  rfl
end FRM
/-- what reading letters comes to in the reference -/
def MLO (σ : MSt) (L : List Nat) (r : Rd (List Nat × Nat)) (x : Option (Bool × MSt)) : Prop := match r with
  | .inl kq => MBad σ kq.1 kq.2 x
  | .inr y => ∃ σ', x = some (true, σ') ∧ MLq σ σ' ∧ mf_at σ' = nI y.2 ∧ MLt σ' (L ++ y.1)
theorem MBad.fr {σ σ1 : MSt} {k q : Nat} {x : Option (Bool × MSt)} (g : MFr σ σ1) (h : MBad σ1 k q x) : MBad σ k q x := by
  obtain ⟨σ', e, f, z⟩ := h
  exact ⟨σ', e, g.trans f, z⟩
theorem MLO.fr {σ σ1 : MSt} {L : List Nat} {r : Rd (List Nat × Nat)} {x : Option (Bool × MSt)} (g : MLq σ σ1) (h : MLO σ1 L r x) : MLO σ L r x := by
  cases r with
  | inl kq => exact MBad.fr g.1.1 h
  | inr y =>
    obtain ⟨σ', e, q, z⟩ := h
    exact ⟨σ', e, g.trans q, z⟩
