/-! PURE N: a JSON string, in the class -/
theorem second_eq {v : Nat} (h : v < 2 ^ 30) : eX1_isSecondHalf (nI v) = decide (56320 ≤ v ∧ v ≤ 57343) := by
  unfold eX1_isSecondHalf
  by_cases c1 : v < 56320
  · rw [if_pos (show nI v < (56320 : Int32) from nI_lt (b := 56320) c1 (by decide))]
    exact (decide_eq_false (by omega)).symm
  rw [if_neg (show ¬ nI v < (56320 : Int32) from nI_nlt (b := 56320) (by omega) (by omega))]
  by_cases c2 : 57343 < v
  · rw [if_pos (show (57343 : Int32) < nI v from nI_lt (a := 57343) c2 (by omega))]
    exact (decide_eq_false (by omega)).symm
  · rw [if_neg (show ¬ (57343 : Int32) < nI v from nI_nlt (a := 57343) (by omega) (by decide))]
    exact (decide_eq_true (by omega)).symm
theorem first_eq {v : Nat} (h : v < 2 ^ 30) : eX1_isFirstHalf (nI v) = decide (55296 ≤ v ∧ v ≤ 56319) := by
  unfold eX1_isFirstHalf
  by_cases c1 : v < 55296
  · rw [if_pos (show nI v < (55296 : Int32) from nI_lt (b := 55296) c1 (by decide))]
    exact (decide_eq_false (by omega)).symm
  rw [if_neg (show ¬ nI v < (55296 : Int32) from nI_nlt (b := 55296) (by omega) (by omega))]
  by_cases c2 : 56319 < v
  · rw [if_pos (show (56319 : Int32) < nI v from nI_lt (a := 56319) c2 (by omega))]
    exact (decide_eq_false (by omega)).symm
  · rw [if_neg (show ¬ (56319 : Int32) < nI v from nI_nlt (a := 56319) (by omega) (by decide))]
    exact (decide_eq_true (by omega)).symm
theorem hx4_lt {t : List Nat} (ht : ∀ x ∈ t, x < 256) {q v : Nat} (h : hx4 t q = .inr v) : v < 65536 ∧ q + 4 ≤ t.length := by
  unfold hx4 at h
  split at h
  · cases h
  split at h
  · cases h
  split at h
  · cases h
  split at h
  · cases h
  rename_i c0 c1 c2 c3
  have e := Sum.inr.inj h
  have g0 := (hx_spec ht q).resolve_left (fun z => c0 z.1)
  have g1 := (hx_spec ht (q + 1)).resolve_left (fun z => c1 z.1)
  have g2 := (hx_spec ht (q + 2)).resolve_left (fun z => c2 z.1)
  have g3 := (hx_spec ht (q + 3)).resolve_left (fun z => c3 z.1)
  omega
section CJ
variable {t : List Nat} {p : Nat} {σ : JSt} {out : List Nat}
theorem num_step (hT : TpR (jf_tape σ) t) (hpl : jf_place σ = nI p) (hp : p < 2 ^ 20) {k : Nat} (hk : k < 4) (g : Nat) : jj_readNumberedSign_L7 6000 (g + 1) (nI (p + 2 + k)) σ = if hx t (p + 2 + k) = 16 then some (false, jF σ 1 (nI (p + 2 + k))) else jj_readNumberedSign_L7 6000 g (nI (p + 2 + (k + 1))) σ := by
  show jj_readNumberedSign_b7 6000 _ _ σ = _
  unfold jj_readNumberedSign_b7
  rw [hpl, show nI p + (6 : Int32) = nI (p + 6) from nI_add p 6, if_neg (nI_ge (by omega) (by omega)), bd_of (hT.at (by omega))]
  simp only [lt]
  rw [js_tape_id]
  rcases hx_spec hT.1.2.2 (p + 2 + k) with ⟨h1, h2⟩ | ⟨h1, h2, h3⟩
  · rw [if_pos h1, if_pos h2]
    rfl
  · rw [if_neg (show ¬ hx t (p + 2 + k) = 16 by omega), h2, if_neg (nI_m1 (by omega)), nI_1]
    rfl
theorem z_num_step (hT : TpR (jf_tape σ) t) (hpl : jf_place σ = nI p) (hp : p < 2 ^ 20) {k : Nat} (hk : k < 4) (g : Nat) : jj_readNumberedSign_L7 0 (g + 1) (nI (p + 2 + k)) σ = if hx t (p + 2 + k) = 16 then some (false, jF σ 1 (nI (p + 2 + k))) else jj_readNumberedSign_L7 0 g (nI (p + 2 + (k + 1))) σ := by
  show jj_readNumberedSign_b7 0 _ _ σ = _
  unfold jj_readNumberedSign_b7
  rw [hpl, show nI p + (6 : Int32) = nI (p + 6) from nI_add p 6, if_neg (nI_ge (by omega) (by omega)), bd_of (hT.at (by omega))]
  simp only [lt]
  rw [js_tape_id]
  rcases hx_spec hT.1.2.2 (p + 2 + k) with ⟨h1, h2⟩ | ⟨h1, h2, h3⟩
  · rw [if_pos h1, if_pos h2]
    rfl
  · rw [if_neg (show ¬ hx t (p + 2 + k) = 16 by omega), h2, if_neg (nI_m1 (by omega)), nI_1]
    rfl
theorem j_coded (hT : TpR (jf_tape σ) t) (hpl : jf_place σ = nI p) (hp : p < t.length) (h1 : gL t p = 92) (h2 : gL t (p + 1) = 117) (hR : RowL 6000 (jf_target σ) out) (ho : out.length ≤ 70000) : JOk σ out (sCod t p) (jj_readNumberedSign 6000 σ) := by
  have hle := hT.2
  have ht := hT.1.2.2
  have hid : js_place σ (nI p) = σ := by rw [← hpl, js_place_id]
  have bad : ∀ k q, JOk σ out (.inl (k, q)) (some (false, jF σ (nI k) (nI q))) := fun k q => ⟨nI p, jf_target σ, out, by rw [hid]; rfl, hR, by omega⟩
  obtain ⟨f, hf⟩ : ∃ f, FU = f + 5 := ⟨99995, rfl⟩
  unfold jj_readNumberedSign
  simp only [lt]
  rw [hpl, show nI p + (2 : Int32) = nI (p + 2 + 0) from nI_add p 2, hf, num_step hT hpl (by omega) (by decide)]
  unfold sCod
  by_cases q0 : hx t (p + 2) = 16
  · rw [if_pos q0, show hx4 t (p + 2) = .inl (p + 2) by unfold hx4; rw [if_pos q0]]
    exact bad 1 _
  rw [if_neg q0, num_step hT hpl (by omega) (by decide)]
  by_cases q1 : hx t (p + 2 + 1) = 16
  · rw [if_pos q1, show hx4 t (p + 2) = .inl (p + 2 + 1) by unfold hx4; rw [if_neg q0, if_pos q1]]
    exact bad 1 _
  rw [if_neg q1, num_step hT hpl (by omega) (by decide)]
  by_cases q2 : hx t (p + 2 + 2) = 16
  · rw [if_pos q2, show hx4 t (p + 2) = .inl (p + 2 + 2) by unfold hx4; rw [if_neg q0, if_neg q1, if_pos q2]]
    exact bad 1 _
  rw [if_neg q2, num_step hT hpl (by omega) (by decide)]
  by_cases q3 : hx t (p + 2 + 3) = 16
  · rw [if_pos q3, show hx4 t (p + 2) = .inl (p + 2 + 3) by unfold hx4; rw [if_neg q0, if_neg q1, if_neg q2, if_pos q3]]
    exact bad 1 _
  rw [if_neg q3]
  obtain ⟨v, hv⟩ : ∃ v, hx4 t (p + 2) = .inr v := ⟨_, by unfold hx4; rw [if_neg q0, if_neg q1, if_neg q2, if_neg q3]⟩
  have hv2 := hx4_lt ht hv
  rw [hv]
  show JOk σ out _ (jj_readNumberedSign_b7 6000 _ _ σ)
  unfold jj_readNumberedSign_b7
  rw [hpl, show nI p + (6 : Int32) = nI (p + 6) from nI_add p 6, if_pos (nI_le (by omega) (by omega)), bd_of (show jj_codeOfEscape 6000 (nI p) σ = some (nI v, σ) by rw [codeOf_eq hT (by omega), if_pos ⟨h1, h2⟩, hv]; rfl)]
  simp only []
  rw [second_eq (by omega)]
  by_cases c1 : 56320 ≤ v ∧ v ≤ 57343
  · rw [if_pos c1, decide_eq_true c1, if_pos rfl, hpl]
    exact bad 2 p
  rw [if_neg c1, decide_eq_false c1, if_neg (show ¬ false = true by decide), first_eq (by omega)]
  by_cases c2 : 55296 ≤ v ∧ v ≤ 56319
  · rw [decide_eq_true c2, if_pos rfl, if_neg (fun z => z c2), hpl, show nI p + (6 : Int32) = nI (p + 6) from nI_add p 6]
    by_cases c3 : gL t (p + 6) = 92 ∧ gL t (p + 7) = 117
    · rw [if_pos c3]
      cases hw : hx4 t (p + 8) with
      | inl q =>
        rw [bd_of (show jj_codeOfEscape 6000 (nI (p + 6)) σ = some (-1, σ) by rw [codeOf_eq hT (by omega), if_pos (show gL t (p + 6) = 92 ∧ gL t (p + 6 + 1) = 117 from c3), show p + 6 + 2 = p + 8 by omega, hw]; rfl)]
        simp only []
        rw [show eX1_isSecondHalf (-1) = false by decide, if_neg (show ¬ false = true by decide), hpl]
        exact bad 2 p
      | inr w =>
        have hw2 := hx4_lt ht hw
        rw [bd_of (show jj_codeOfEscape 6000 (nI (p + 6)) σ = some (nI w, σ) by rw [codeOf_eq hT (by omega), if_pos (show gL t (p + 6) = 92 ∧ gL t (p + 6 + 1) = 117 from c3), show p + 6 + 2 = p + 8 by omega, hw]; rfl)]
        simp only []
        rw [second_eq (by omega)]
        by_cases c4 : 56320 ≤ w ∧ w ≤ 57343
        · rw [if_pos c4, decide_eq_true c4, if_pos rfl]
          have e : ((65536 : Int32) + ((nI v - (55296 : Int32)) <<< ((10 : Int32) &&& 31))) + (nI w - (56320 : Int32)) = nI (65536 + (v - 55296) * 1024 + (w - 56320)) := by
            rw [show nI v - (55296 : Int32) = nI (v - 55296) from pk_sub (b := 55296) c2.1, show nI w - (56320 : Int32) = nI (w - 56320) from pk_sub (b := 56320) c4.1, pk_shlN ((10 : Int32) &&& 31) 10 (by decide) (by omega), show (65536 : Int32) = nI 65536 from rfl, nI_add, nI_add]
          obtain ⟨U, hU⟩ : ∃ U, U = 65536 + (v - 55296) * 1024 + (w - 56320) := ⟨_, rfl⟩
          rw [e, ← hU]
          obtain ⟨tg, e1, e2⟩ := putSign_eq (v := U) (by omega) hR ho
          rw [bd_of e1]
          refine ⟨tg, ?_, e2⟩
          rw [show jf_place (js_target σ tg) = jf_place σ from rfl, hpl, show nI p + (12 : Int32) = nI (p + 12) from nI_add p 12]
          rfl
        · rw [if_neg c4, decide_eq_false c4, if_neg (show ¬ false = true by decide), hpl]
          exact bad 2 p
    · rw [if_neg c3, bd_of (show jj_codeOfEscape 6000 (nI (p + 6)) σ = some (-1, σ) by rw [codeOf_eq hT (by omega), if_neg (show ¬ (gL t (p + 6) = 92 ∧ gL t (p + 6 + 1) = 117) from c3)])]
      simp only []
      rw [show eX1_isSecondHalf (-1) = false by decide, if_neg (show ¬ false = true by decide), hpl]
      exact bad 2 p
  · rw [decide_eq_false c2, if_neg (show ¬ false = true by decide), if_pos c2]
    obtain ⟨tg, e1, e2⟩ := putSign_eq (v := v) (by omega) hR ho
    rw [bd_of e1]
    refine ⟨tg, ?_, e2⟩
    rw [show jf_place (js_target σ tg) = jf_place σ from rfl, hpl, show nI p + (6 : Int32) = nI (p + 6) from nI_add p 6]
    rfl
theorem z_j_coded (hT : TpR (jf_tape σ) t) (hpl : jf_place σ = nI p) (hp : p < t.length) (h1 : gL t p = 92) (h2 : gL t (p + 1) = 117) (hR : RowL 0 (jf_target σ) out) (ho : out.length ≤ 70000) : z_JOk σ out (sCod t p) (jj_readNumberedSign 0 σ) := by
  have hle := hT.2
  have ht := hT.1.2.2
  have hid : js_place σ (nI p) = σ := by rw [← hpl, js_place_id]
  have bad : ∀ k q, z_JOk σ out (.inl (k, q)) (some (false, jF σ (nI k) (nI q))) := fun k q => ⟨nI p, jf_target σ, out, by rw [hid]; rfl, hR, by omega⟩
  obtain ⟨f, hf⟩ : ∃ f, FU = f + 5 := ⟨99995, rfl⟩
  unfold jj_readNumberedSign
  simp only [lt]
  rw [hpl, show nI p + (2 : Int32) = nI (p + 2 + 0) from nI_add p 2, hf, z_num_step hT hpl (by omega) (by decide)]
  unfold sCod
  by_cases q0 : hx t (p + 2) = 16
  · rw [if_pos q0, show hx4 t (p + 2) = .inl (p + 2) by unfold hx4; rw [if_pos q0]]
    exact bad 1 _
  rw [if_neg q0, z_num_step hT hpl (by omega) (by decide)]
  by_cases q1 : hx t (p + 2 + 1) = 16
  · rw [if_pos q1, show hx4 t (p + 2) = .inl (p + 2 + 1) by unfold hx4; rw [if_neg q0, if_pos q1]]
    exact bad 1 _
  rw [if_neg q1, z_num_step hT hpl (by omega) (by decide)]
  by_cases q2 : hx t (p + 2 + 2) = 16
  · rw [if_pos q2, show hx4 t (p + 2) = .inl (p + 2 + 2) by unfold hx4; rw [if_neg q0, if_neg q1, if_pos q2]]
    exact bad 1 _
  rw [if_neg q2, z_num_step hT hpl (by omega) (by decide)]
  by_cases q3 : hx t (p + 2 + 3) = 16
  · rw [if_pos q3, show hx4 t (p + 2) = .inl (p + 2 + 3) by unfold hx4; rw [if_neg q0, if_neg q1, if_neg q2, if_pos q3]]
    exact bad 1 _
  rw [if_neg q3]
  obtain ⟨v, hv⟩ : ∃ v, hx4 t (p + 2) = .inr v := ⟨_, by unfold hx4; rw [if_neg q0, if_neg q1, if_neg q2, if_neg q3]⟩
  have hv2 := hx4_lt ht hv
  rw [hv]
  show z_JOk σ out _ (jj_readNumberedSign_b7 0 _ _ σ)
  unfold jj_readNumberedSign_b7
  rw [hpl, show nI p + (6 : Int32) = nI (p + 6) from nI_add p 6, if_pos (nI_le (by omega) (by omega)), bd_of (show jj_codeOfEscape 0 (nI p) σ = some (nI v, σ) by rw [z_codeOf_eq hT (by omega), if_pos ⟨h1, h2⟩, hv]; rfl)]
  simp only []
  rw [second_eq (by omega)]
  by_cases c1 : 56320 ≤ v ∧ v ≤ 57343
  · rw [if_pos c1, decide_eq_true c1, if_pos rfl, hpl]
    exact bad 2 p
  rw [if_neg c1, decide_eq_false c1, if_neg (show ¬ false = true by decide), first_eq (by omega)]
  by_cases c2 : 55296 ≤ v ∧ v ≤ 56319
  · rw [decide_eq_true c2, if_pos rfl, if_neg (fun z => z c2), hpl, show nI p + (6 : Int32) = nI (p + 6) from nI_add p 6]
    by_cases c3 : gL t (p + 6) = 92 ∧ gL t (p + 7) = 117
    · rw [if_pos c3]
      cases hw : hx4 t (p + 8) with
      | inl q =>
        rw [bd_of (show jj_codeOfEscape 0 (nI (p + 6)) σ = some (-1, σ) by rw [z_codeOf_eq hT (by omega), if_pos (show gL t (p + 6) = 92 ∧ gL t (p + 6 + 1) = 117 from c3), show p + 6 + 2 = p + 8 by omega, hw]; rfl)]
        simp only []
        rw [show eX1_isSecondHalf (-1) = false by decide, if_neg (show ¬ false = true by decide), hpl]
        exact bad 2 p
      | inr w =>
        have hw2 := hx4_lt ht hw
        rw [bd_of (show jj_codeOfEscape 0 (nI (p + 6)) σ = some (nI w, σ) by rw [z_codeOf_eq hT (by omega), if_pos (show gL t (p + 6) = 92 ∧ gL t (p + 6 + 1) = 117 from c3), show p + 6 + 2 = p + 8 by omega, hw]; rfl)]
        simp only []
        rw [second_eq (by omega)]
        by_cases c4 : 56320 ≤ w ∧ w ≤ 57343
        · rw [if_pos c4, decide_eq_true c4, if_pos rfl]
          have e : ((65536 : Int32) + ((nI v - (55296 : Int32)) <<< ((10 : Int32) &&& 31))) + (nI w - (56320 : Int32)) = nI (65536 + (v - 55296) * 1024 + (w - 56320)) := by
            rw [show nI v - (55296 : Int32) = nI (v - 55296) from pk_sub (b := 55296) c2.1, show nI w - (56320 : Int32) = nI (w - 56320) from pk_sub (b := 56320) c4.1, pk_shlN ((10 : Int32) &&& 31) 10 (by decide) (by omega), show (65536 : Int32) = nI 65536 from rfl, nI_add, nI_add]
          obtain ⟨U, hU⟩ : ∃ U, U = 65536 + (v - 55296) * 1024 + (w - 56320) := ⟨_, rfl⟩
          rw [e, ← hU]
          obtain ⟨tg, e1, e2⟩ := z_putSign_eq (v := U) (by omega) hR ho
          rw [bd_of e1]
          refine ⟨tg, ?_, e2⟩
          rw [show jf_place (js_target σ tg) = jf_place σ from rfl, hpl, show nI p + (12 : Int32) = nI (p + 12) from nI_add p 12]
          rfl
        · rw [if_neg c4, decide_eq_false c4, if_neg (show ¬ false = true by decide), hpl]
          exact bad 2 p
    · rw [if_neg c3, bd_of (show jj_codeOfEscape 0 (nI (p + 6)) σ = some (-1, σ) by rw [z_codeOf_eq hT (by omega), if_neg (show ¬ (gL t (p + 6) = 92 ∧ gL t (p + 6 + 1) = 117) from c3)])]
      simp only []
      rw [show eX1_isSecondHalf (-1) = false by decide, if_neg (show ¬ false = true by decide), hpl]
      exact bad 2 p
  · rw [decide_eq_false c2, if_neg (show ¬ false = true by decide), if_pos c2]
    obtain ⟨tg, e1, e2⟩ := z_putSign_eq (v := v) (by omega) hR ho
    rw [bd_of e1]
    refine ⟨tg, ?_, e2⟩
    rw [show jf_place (js_target σ tg) = jf_place σ from rfl, hpl, show nI p + (6 : Int32) = nI (p + 6) from nI_add p 6]
    rfl
end CJ
theorem utf_len (v : Nat) (h : v < 1114112) : (utf v).length ≤ 4 ∧ (v < 65536 → (utf v).length ≤ 3) ∧ ∀ x ∈ utf v, x < 256 := by
  unfold utf
  refine ⟨?_, fun h2 => ?_, ?_⟩
  · split
    · simp
    split
    · simp
    split
    · simp
    · simp
  · by_cases c1 : v < 128
    · rw [if_pos c1]; simp
    by_cases c2 : v < 2048
    · rw [if_neg c1, if_pos c2]; simp
    · rw [if_neg c1, if_neg c2, if_pos h2]; simp
  · split
    · intro x hx; simp at hx; omega
    split
    · intro x hx; simp at hx; omega
    split
    · intro x hx; simp at hx; omega
    · intro x hx; simp at hx; omega
theorem mem_sl {t : List Nat} {p n x : Nat} (h : x ∈ sl t p n) : x ∈ t := List.mem_of_mem_drop (List.mem_of_mem_take h)
/-- what one sign takes and gives -/
theorem sSgn_bd {t : List Nat} (ht : ∀ x ∈ t, x < 256) {p : Nat} {bs : List Nat} {p' : Nat} (h : sSgn t p = .inr (bs, p')) : p < p' ∧ p' ≤ t.length ∧ bs.length ≤ p' - p ∧ bs.length ≤ 4 ∧ ∀ x ∈ bs, x < 256 := by
  unfold sSgn at h
  split at h
  · rename_i c1
    split at h
    · rename_i c2
      unfold sCod at h
      cases hv : hx4 t (p + 2) with
      | inl q => rw [hv] at h; cases h
      | inr v =>
        have hv2 := hx4_lt ht hv
        rw [hv] at h
        simp only [] at h
        split at h
        · cases h
        split at h
        · obtain ⟨rfl, rfl⟩ := Prod.mk.inj (Sum.inr.inj h)
          have hu := utf_len v (by omega)
          have := hu.2.1 (by omega)
          exact ⟨by omega, by omega, by omega, by omega, hu.2.2⟩
        split at h
        · cases hw : hx4 t (p + 8) with
          | inl q => rw [hw] at h; cases h
          | inr w =>
            have hw2 := hx4_lt ht hw
            rw [hw] at h
            simp only [] at h
            split at h
            · rename_i c3 c4 c5 c6
              obtain ⟨rfl, rfl⟩ := Prod.mk.inj (Sum.inr.inj h)
              have c7 : 55296 ≤ v ∧ v ≤ 56319 := Decidable.byContradiction c4
              have hu := utf_len (65536 + (v - 55296) * 1024 + (w - 56320)) (by omega)
              exact ⟨by omega, by omega, by omega, by omega, hu.2.2⟩
            · cases h
        · cases h
    · split at h
      · cases h
      · rename_i c3
        obtain ⟨rfl, rfl⟩ := Prod.mk.inj (Sum.inr.inj h)
        have g := (letN_spec ht (p + 1)).resolve_left (fun z => c3 z.1)
        refine ⟨by omega, by omega, by simp, by simp, fun x hx => ?_⟩
        rw [List.mem_singleton.mp hx]
        omega
  · split at h
    · cases h
    split at h
    · cases h
    · rename_i c1 c2 c3
      obtain ⟨rfl, rfl⟩ := Prod.mk.inj (Sum.inr.inj h)
      have hp : p < t.length := by
        rcases Nat.lt_or_ge p t.length with z | z
        · exact z
        · rw [gL_out z] at c2; exact absurd (by decide) c2
      have hs := sgn_bd t p t.length hp
      have hl := sl_len (t := t) (p := p) (n := sgn t p t.length) hs.2
      refine ⟨by omega, hs.2, by omega, by omega, fun x hx => ht x (mem_sl hx)⟩
/-- a string's signs from p on, up to its " -/
def sStrF (t : List Nat) : Nat → Nat → Rd (List Nat × Nat)
  | 0, p => .inl (1, p)
  | m + 1, p => if gL t p = 34 then .inr ([], p + 1) else match sSgn t p with
    | .inl k => .inl k
    | .inr bp => match sStrF t m bp.2 with
      | .inl k => .inl k
      | .inr cq => .inr (bp.1 ++ cq.1, cq.2)
def sStr (t : List Nat) (p : Nat) : Rd (List Nat × Nat) := sStrF t 4002 (p + 1)
theorem sStrF_bd {t : List Nat} (ht : ∀ x ∈ t, x < 256) : ∀ m p, p ≤ t.length → ∀ bs q, sStrF t m p = .inr (bs, q) → p < q ∧ q ≤ t.length ∧ bs.length + 1 ≤ q - p ∧ ∀ x ∈ bs, x < 256 := by
  intro m
  induction m with
  | zero => intro p hp bs q h; cases h
  | succ m ih =>
    intro p hp bs q h
    unfold sStrF at h
    split at h
    · rename_i c
      obtain ⟨rfl, rfl⟩ := Prod.mk.inj (Sum.inr.inj h)
      have := gL_lit (v := 34) (by decide) rfl c
      exact ⟨by omega, by omega, by simp, fun x hx => absurd hx List.not_mem_nil⟩
    · cases hs : sSgn t p with
      | inl k => rw [hs] at h; cases h
      | inr bp =>
        obtain ⟨b1, p1⟩ := bp
        have g1 := sSgn_bd ht hs
        rw [hs] at h
        simp only [] at h
        cases hr : sStrF t m p1 with
        | inl k => rw [hr] at h; cases h
        | inr cq =>
          obtain ⟨c1, q1⟩ := cq
          have g2 := ih p1 g1.2.1 c1 q1 hr
          rw [hr] at h
          have h2 : (Sum.inr (b1 ++ c1, q1) : Rd (List Nat × Nat)) = .inr (bs, q) := h
          obtain ⟨e1, e2⟩ := Prod.mk.inj (Sum.inr.inj h2)
          subst e2
          subst e1
          have hlen : (b1 ++ c1).length = b1.length + c1.length := List.length_append
          refine ⟨by omega, g2.2.1, by omega, fun x hx => ?_⟩
          rcases List.mem_append.mp hx with z | z
          · exact g1.2.2.2.2 x z
          · exact g2.2.2.2 x z
