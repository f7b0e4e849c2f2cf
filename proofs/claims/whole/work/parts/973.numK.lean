/-! PURE EE: numbers in decimal digits, written by the class -/
theorem dig_cons (m n : Nat) : dig (m + 1) n = (48 + n / 10 ^ m % 10) :: dig m n := by
  unfold dig
  rw [List.range_succ_eq_map, List.map_cons, List.map_map]
  have e : ((fun i => 48 + n / 10 ^ (m + 1 - 1 - i) % 10) ∘ Nat.succ) = (fun i => 48 + n / 10 ^ (m - 1 - i) % 10) := by
    funext i
    show 48 + n / 10 ^ (m + 1 - 1 - (i + 1)) % 10 = _
    rw [show m + 1 - 1 - (i + 1) = m - 1 - i by omega]
  rw [e]
  rfl
theorem dig_0 (n : Nat) : dig 0 n = [] := rfl
theorem dig_snoc : ∀ k n, dig (k + 1) n = dig k (n / 10) ++ [48 + n % 10] := by
  intro k
  induction k with
  | zero =>
    intro n
    rw [dig_cons, dig_0, dig_0, Nat.pow_zero, Nat.div_one]
    rfl
  | succ k ih =>
    intro n
    rw [dig_cons, ih n, dig_cons k (n / 10), Nat.div_div_eq_div_mul, Nat.pow_succ, Nat.mul_comm]
    rfl
theorem ndg_eq {n k : Nat} (hn : n ≤ 2 ^ 64) (h1 : 1 ≤ k) (h2 : n < 10 ^ k) (h3 : k = 1 ∨ 10 ^ (k - 1) ≤ n) : ndg n = k := by
  obtain ⟨g1, g2, g3, g4⟩ := ndg_spec hn
  have h5 : ndg n ≤ k := ndF_le 20 n k h2 h1
  rcases Nat.lt_or_ge (ndg n) k with z | z
  · exfalso
    rcases h3 with e | h3
    · omega
    · have : 10 ^ ndg n ≤ 10 ^ (k - 1) := Nat.pow_le_pow_right (by decide) (by omega)
      omega
  · omega
theorem dec_1 {n : Nat} (h : n < 10) : dec n = [48 + n] := by
  unfold dec
  rw [ndg_eq (k := 1) (by omega) (Nat.le_refl _) (by omega) (Or.inl rfl), dig_snoc, dig_0, Nat.mod_eq_of_lt h]
  rfl
theorem dec_app {T last j : Nat} (hl : last < 10) (hT : T < 10 ^ (j + 1)) (h0 : 10 ^ j ≤ T) (hn : 10 * T + last ≤ 2 ^ 64) : dec (10 * T + last) = dig (j + 1) T ++ [48 + last] := by
  unfold dec
  have e : ndg (10 * T + last) = j + 2 := by
    refine ndg_eq hn (by omega) ?_ (Or.inr ?_)
    · rw [Nat.pow_succ]
      omega
    · show 10 ^ (j + 1) ≤ _
      rw [Nat.pow_succ]
      omega
  rw [e, dig_snoc, show (10 * T + last) / 10 = T by omega, show (10 * T + last) % 10 = last by omega]
theorem p10_lt {j : Nat} (h : j ≤ 18) : 10 ^ j < 2 ^ 63 := Nat.lt_of_le_of_lt (Nat.pow_le_pow_right (by decide) h) (by decide)
theorem lN_pos {n : Nat} (h0 : 0 < n) (h : n < 2 ^ 63) : ¬ lN n ≤ (0 : Int64) := fun z => by
  have := (pk_lLE (b := 0) h (by decide)).mp z
  omega
theorem lN_ne0 {n : Nat} (h0 : 0 < n) (h : n < 2 ^ 63) : ¬ lN n = (0 : Int64) := fun z => by
  have := (pk_lEQ (b := 0) h (by decide)).mp z
  omega
theorem b101_row {last : Nat} (hl : last < 10) {σ : KSt} {out : List Nat} (hR : RowL 6000 (kf_target σ) out) (ho : out.length ≤ 200000) : ∃ tg, kk_putDigits_b101 6000 (nI last) σ = some (ks_target σ tg) ∧ RowL 6000 tg (out ++ [48 + last]) := by
  unfold kk_putDigits_b101
  obtain ⟨r1, g1, q1⟩ := rr_putN hR (by omega) (n := 48 + last) (v := (48 : Int32) + nI last) (by omega) (nI_add 48 last)
  rw [bd_of g1]
  exact ⟨r1, rfl, q1⟩
theorem z_b101_row {last : Nat} (hl : last < 10) {σ : KSt} {out : List Nat} (hR : RowL 0 (kf_target σ) out) (ho : out.length ≤ 200000) : ∃ tg, kk_putDigits_b101 0 (nI last) σ = some (ks_target σ tg) ∧ RowL 0 tg (out ++ [48 + last]) := by
  unfold kk_putDigits_b101
  obtain ⟨r1, g1, q1⟩ := z_rr_putN hR (by omega) (n := 48 + last) (v := (48 : Int32) + nI last) (by omega) (nI_add 48 last)
  rw [bd_of g1]
  exact ⟨r1, rfl, q1⟩
theorem dig_loop {T j last : Nat} (h0 : 0 < T) (hT : T < 2000000000000000000) (hj : j ≤ 18) (hl : last < 10) : ∀ (m s f : Nat) (σ : KSt) (out : List Nat), s + m = j + 1 → m < f → RowL 6000 (kf_target σ) out → out.length + m ≤ 200000 → ∃ tg, kk_putDigits_L44 6000 f (lN T) (nI last) (lN (10 ^ m / 10)) (lN (T % 10 ^ m)) (nI s) σ = some (ks_target σ tg) ∧ RowL 6000 tg (out ++ (dig m T ++ [48 + last])) := by
  have hT63 : T < 2 ^ 63 := by omega
  intro m
  induction m with
  | zero =>
    intro s f σ out hs hf hR ho
    obtain ⟨f, rfl⟩ : ∃ g, f = g + 1 := ⟨f - 1, by omega⟩
    have hb : kk_putDigits_L44 6000 (f + 1) (lN T) (nI last) (lN (10 ^ 0 / 10)) (lN (T % 10 ^ 0)) (nI s) σ = kk_putDigits_b101 6000 (nI last) σ := by
      show kk_putDigits_b44 6000 (kk_putDigits_L44 6000 f) _ _ _ _ _ σ = _
      unfold kk_putDigits_b44
      rw [if_pos (show lN (10 ^ 0 / 10) ≤ (0 : Int64) by decide)]
      exact ite_self _
    rw [hb, dig_0, List.nil_append]
    exact b101_row hl hR (by omega)
  | succ m ih =>
    intro s f σ out hs hf hR ho
    obtain ⟨f, rfl⟩ : ∃ g, f = g + 1 := ⟨f - 1, by omega⟩
    have hm : 10 ^ m < 2 ^ 63 := p10_lt (by omega)
    have hm0 : 0 < 10 ^ m := Nat.pow_pos (by decide)
    have hr : T % 10 ^ (m + 1) < 2 ^ 63 := Nat.lt_of_le_of_lt (Nat.mod_le _ _) hT63
    have e1 : 10 ^ (m + 1) / 10 = 10 ^ m := by rw [Nat.pow_succ, Nat.mul_div_cancel _ (by decide)]
    have e2 : T % 10 ^ (m + 1) / 10 ^ m = T / 10 ^ m % 10 := by rw [Nat.pow_succ, Nat.mod_mul_right_div_self]
    have e3 : T % 10 ^ (m + 1) % 10 ^ m = T % 10 ^ m := Nat.mod_mod_of_dvd _ ⟨10, Nat.pow_succ 10 m⟩
    show ∃ tg, kk_putDigits_b44 6000 (kk_putDigits_L44 6000 f) (lN T) (nI last) (lN (10 ^ (m + 1) / 10)) (lN (T % 10 ^ (m + 1))) (nI s) σ = _ ∧ _
    unfold kk_putDigits_b44
    rw [e1, if_neg (show ¬ (19 : Int32) ≤ nI s from nI_ge (b := 19) (by omega) (by decide)), if_neg (lN_pos hm0 hm), if_neg (lN_pos h0 hT63)]
    have cz1 : ∀ {α : Type} (k : Option α), cz (lN (10 ^ m)) k = k := fun k => if_neg (lN_ne0 hm0 hm)
    rw [cz1, pk_lDiv hr hm0 hm, lN_i, e2]
    obtain ⟨r1, g1, q1⟩ := rr_putN hR (by omega) (n := 48 + T / 10 ^ m % 10) (v := (48 : Int32) + nI (T / 10 ^ m % 10)) (by omega) (nI_add 48 _)
    rw [bd_of g1, cz1]
    simp only [lt]
    have e4 : lN (T % 10 ^ (m + 1)) - lN (T / 10 ^ m % 10) * lN (10 ^ m) = lN (T % 10 ^ m) := by
      have := pk_lRem hr hm0 hm
      rw [pk_lDiv hr hm0 hm, e2, e3] at this
      exact this
    have e5 : lN (10 ^ m) / (10 : Int64) = lN (10 ^ m / 10) := pk_lDiv (b := 10) hm (by decide) (by decide)
    rw [e4, e5, nI_1]
    obtain ⟨tg, g2, q2⟩ := ih (s + 1) f (ks_target σ r1) _ (by omega) (by omega) (by simp only [kG_depthLimit_depthLimit, kG_depthLimit_place, kG_depthLimit_faultKind, kG_depthLimit_faultPlace, kG_depthLimit_type, kG_depthLimit_number, kG_depthLimit_tape, kG_depthLimit_target, kG_place_depthLimit, kG_place_place, kG_place_faultKind, kG_place_faultPlace, kG_place_type, kG_place_number, kG_place_tape, kG_place_target, kG_faultKind_depthLimit, kG_faultKind_place, kG_faultKind_faultKind, kG_faultKind_faultPlace, kG_faultKind_type, kG_faultKind_number, kG_faultKind_tape, kG_faultKind_target, kG_faultPlace_depthLimit, kG_faultPlace_place, kG_faultPlace_faultKind, kG_faultPlace_faultPlace, kG_faultPlace_type, kG_faultPlace_number, kG_faultPlace_tape, kG_faultPlace_target, kG_type_depthLimit, kG_type_place, kG_type_faultKind, kG_type_faultPlace, kG_type_type, kG_type_number, kG_type_tape, kG_type_target, kG_number_depthLimit, kG_number_place, kG_number_faultKind, kG_number_faultPlace, kG_number_type, kG_number_number, kG_number_tape, kG_number_target, kG_tape_depthLimit, kG_tape_place, kG_tape_faultKind, kG_tape_faultPlace, kG_tape_type, kG_tape_number, kG_tape_tape, kG_tape_target, kG_target_depthLimit, kG_target_place, kG_target_faultKind, kG_target_faultPlace, kG_target_type, kG_target_number, kG_target_tape, kG_target_target]; exact q1) (by rw [len_snoc]; omega)
    refine ⟨tg, g2, ?_⟩
    rw [dig_cons]
    rw [List.append_assoc] at q2
    exact q2
theorem z_dig_loop {T j last : Nat} (h0 : 0 < T) (hT : T < 2000000000000000000) (hj : j ≤ 18) (hl : last < 10) : ∀ (m s f : Nat) (σ : KSt) (out : List Nat), s + m = j + 1 → m < f → RowL 0 (kf_target σ) out → out.length + m ≤ 200000 → ∃ tg, kk_putDigits_L44 0 f (lN T) (nI last) (lN (10 ^ m / 10)) (lN (T % 10 ^ m)) (nI s) σ = some (ks_target σ tg) ∧ RowL 0 tg (out ++ (dig m T ++ [48 + last])) := by
  have hT63 : T < 2 ^ 63 := by omega
  intro m
  induction m with
  | zero =>
    intro s f σ out hs hf hR ho
    obtain ⟨f, rfl⟩ : ∃ g, f = g + 1 := ⟨f - 1, by omega⟩
    have hb : kk_putDigits_L44 0 (f + 1) (lN T) (nI last) (lN (10 ^ 0 / 10)) (lN (T % 10 ^ 0)) (nI s) σ = kk_putDigits_b101 0 (nI last) σ := by
      show kk_putDigits_b44 0 (kk_putDigits_L44 0 f) _ _ _ _ _ σ = _
      unfold kk_putDigits_b44
      rw [if_pos (show lN (10 ^ 0 / 10) ≤ (0 : Int64) by decide)]
      exact ite_self _
    rw [hb, dig_0, List.nil_append]
    exact z_b101_row hl hR (by omega)
  | succ m ih =>
    intro s f σ out hs hf hR ho
    obtain ⟨f, rfl⟩ : ∃ g, f = g + 1 := ⟨f - 1, by omega⟩
    have hm : 10 ^ m < 2 ^ 63 := p10_lt (by omega)
    have hm0 : 0 < 10 ^ m := Nat.pow_pos (by decide)
    have hr : T % 10 ^ (m + 1) < 2 ^ 63 := Nat.lt_of_le_of_lt (Nat.mod_le _ _) hT63
    have e1 : 10 ^ (m + 1) / 10 = 10 ^ m := by rw [Nat.pow_succ, Nat.mul_div_cancel _ (by decide)]
    have e2 : T % 10 ^ (m + 1) / 10 ^ m = T / 10 ^ m % 10 := by rw [Nat.pow_succ, Nat.mod_mul_right_div_self]
    have e3 : T % 10 ^ (m + 1) % 10 ^ m = T % 10 ^ m := Nat.mod_mod_of_dvd _ ⟨10, Nat.pow_succ 10 m⟩
    show ∃ tg, kk_putDigits_b44 0 (kk_putDigits_L44 0 f) (lN T) (nI last) (lN (10 ^ (m + 1) / 10)) (lN (T % 10 ^ (m + 1))) (nI s) σ = _ ∧ _
    unfold kk_putDigits_b44
    rw [e1, if_neg (show ¬ (19 : Int32) ≤ nI s from nI_ge (b := 19) (by omega) (by decide)), if_neg (lN_pos hm0 hm), if_neg (lN_pos h0 hT63)]
    have cz1 : ∀ {α : Type} (k : Option α), cz (lN (10 ^ m)) k = k := fun k => if_neg (lN_ne0 hm0 hm)
    rw [cz1, pk_lDiv hr hm0 hm, lN_i, e2]
    obtain ⟨r1, g1, q1⟩ := z_rr_putN hR (by omega) (n := 48 + T / 10 ^ m % 10) (v := (48 : Int32) + nI (T / 10 ^ m % 10)) (by omega) (nI_add 48 _)
    rw [bd_of g1, cz1]
    simp only [lt]
    have e4 : lN (T % 10 ^ (m + 1)) - lN (T / 10 ^ m % 10) * lN (10 ^ m) = lN (T % 10 ^ m) := by
      have := pk_lRem hr hm0 hm
      rw [pk_lDiv hr hm0 hm, e2, e3] at this
      exact this
    have e5 : lN (10 ^ m) / (10 : Int64) = lN (10 ^ m / 10) := pk_lDiv (b := 10) hm (by decide) (by decide)
    rw [e4, e5, nI_1]
    obtain ⟨tg, g2, q2⟩ := ih (s + 1) f (ks_target σ r1) _ (by omega) (by omega) (by simp only [kG_depthLimit_depthLimit, kG_depthLimit_place, kG_depthLimit_faultKind, kG_depthLimit_faultPlace, kG_depthLimit_type, kG_depthLimit_number, kG_depthLimit_tape, kG_depthLimit_target, kG_place_depthLimit, kG_place_place, kG_place_faultKind, kG_place_faultPlace, kG_place_type, kG_place_number, kG_place_tape, kG_place_target, kG_faultKind_depthLimit, kG_faultKind_place, kG_faultKind_faultKind, kG_faultKind_faultPlace, kG_faultKind_type, kG_faultKind_number, kG_faultKind_tape, kG_faultKind_target, kG_faultPlace_depthLimit, kG_faultPlace_place, kG_faultPlace_faultKind, kG_faultPlace_faultPlace, kG_faultPlace_type, kG_faultPlace_number, kG_faultPlace_tape, kG_faultPlace_target, kG_type_depthLimit, kG_type_place, kG_type_faultKind, kG_type_faultPlace, kG_type_type, kG_type_number, kG_type_tape, kG_type_target, kG_number_depthLimit, kG_number_place, kG_number_faultKind, kG_number_faultPlace, kG_number_type, kG_number_number, kG_number_tape, kG_number_target, kG_tape_depthLimit, kG_tape_place, kG_tape_faultKind, kG_tape_faultPlace, kG_tape_type, kG_tape_number, kG_tape_tape, kG_tape_target, kG_target_depthLimit, kG_target_place, kG_target_faultKind, kG_target_faultPlace, kG_target_type, kG_target_number, kG_target_tape, kG_target_target]; exact q1) (by rw [len_snoc]; omega)
    refine ⟨tg, g2, ?_⟩
    rw [dig_cons]
    rw [List.append_assoc] at q2
    exact q2
theorem pow_loop {T : Nat} {last : Int32} (hT : T < 2000000000000000000) : ∀ (m i f : Nat) (σ : KSt), i + m = 18 → m < f → (i = 0 ∨ 10 ^ i ≤ T) → ∃ j, j ≤ 18 ∧ T < 10 ^ (j + 1) ∧ (j = 0 ∨ 10 ^ j ≤ T) ∧ kk_putDigits_L6 6000 f (lN T) last (lN (10 ^ i)) (nI (i + 1)) σ = kk_putDigits_L44 6000 FU (lN T) last (lN (10 ^ j)) (lN T) (0 : Int32) σ := by
  have hT63 : T < 2 ^ 63 := by omega
  intro m
  induction m with
  | zero =>
    intro i f σ hi hf h
    obtain ⟨f, rfl⟩ : ∃ g, f = g + 1 := ⟨f - 1, by omega⟩
    have e : i = 18 := by omega
    subst e
    refine ⟨18, by decide, Nat.lt_of_lt_of_le hT (by decide), h, ?_⟩
    show kk_putDigits_b6 6000 (kk_putDigits_L6 6000 f) _ _ _ _ σ = _
    unfold kk_putDigits_b6
    rw [if_pos (by decide)]
  | succ m ih =>
    intro i f σ hi hf h
    obtain ⟨f, rfl⟩ : ∃ g, f = g + 1 := ⟨f - 1, by omega⟩
    have hp : 10 ^ i < 2 ^ 63 := p10_lt (by omega)
    have e10 : lN T / (10 : Int64) = lN (T / 10) := pk_lDiv (b := 10) hT63 (by decide) (by decide)
    have hb : kk_putDigits_L6 6000 (f + 1) (lN T) last (lN (10 ^ i)) (nI (i + 1)) σ = if lN (T / 10) < lN (10 ^ i) then kk_putDigits_L44 6000 FU (lN T) last (lN (10 ^ i)) (lN T) (0 : Int32) σ else kk_putDigits_L6 6000 f (lN T) last (lN (10 ^ (i + 1))) (nI (i + 1 + 1)) σ := by
      show kk_putDigits_b6 6000 (kk_putDigits_L6 6000 f) _ _ _ _ σ = _
      unfold kk_putDigits_b6
      rw [if_neg (show ¬ (19 : Int32) ≤ nI (i + 1) from nI_ge (b := 19) (by omega) (by decide)), e10]
      simp only [lt]
      rw [show lN (10 ^ i) * (10 : Int64) = lN (10 ^ (i + 1)) by rw [Nat.pow_succ]; exact lN_mul _ 10, nI_1]
    rw [hb]
    by_cases c : T / 10 < 10 ^ i
    · rw [if_pos ((pk_lLT (by omega) hp).mpr c)]
      refine ⟨i, by omega, ?_, h, rfl⟩
      rw [Nat.pow_succ]
      omega
    · rw [if_neg (fun z => c ((pk_lLT (by omega) hp).mp z))]
      refine ih (i + 1) f σ (by omega) (by omega) (Or.inr ?_)
      rw [Nat.pow_succ]
      omega
theorem z_pow_loop {T : Nat} {last : Int32} (hT : T < 2000000000000000000) : ∀ (m i f : Nat) (σ : KSt), i + m = 18 → m < f → (i = 0 ∨ 10 ^ i ≤ T) → ∃ j, j ≤ 18 ∧ T < 10 ^ (j + 1) ∧ (j = 0 ∨ 10 ^ j ≤ T) ∧ kk_putDigits_L6 0 f (lN T) last (lN (10 ^ i)) (nI (i + 1)) σ = kk_putDigits_L44 0 FU (lN T) last (lN (10 ^ j)) (lN T) (0 : Int32) σ := by
  have hT63 : T < 2 ^ 63 := by omega
  intro m
  induction m with
  | zero =>
    intro i f σ hi hf h
    obtain ⟨f, rfl⟩ : ∃ g, f = g + 1 := ⟨f - 1, by omega⟩
    have e : i = 18 := by omega
    subst e
    refine ⟨18, by decide, Nat.lt_of_lt_of_le hT (by decide), h, ?_⟩
    show kk_putDigits_b6 0 (kk_putDigits_L6 0 f) _ _ _ _ σ = _
    unfold kk_putDigits_b6
    rw [if_pos (by decide)]
  | succ m ih =>
    intro i f σ hi hf h
    obtain ⟨f, rfl⟩ : ∃ g, f = g + 1 := ⟨f - 1, by omega⟩
    have hp : 10 ^ i < 2 ^ 63 := p10_lt (by omega)
    have e10 : lN T / (10 : Int64) = lN (T / 10) := pk_lDiv (b := 10) hT63 (by decide) (by decide)
    have hb : kk_putDigits_L6 0 (f + 1) (lN T) last (lN (10 ^ i)) (nI (i + 1)) σ = if lN (T / 10) < lN (10 ^ i) then kk_putDigits_L44 0 FU (lN T) last (lN (10 ^ i)) (lN T) (0 : Int32) σ else kk_putDigits_L6 0 f (lN T) last (lN (10 ^ (i + 1))) (nI (i + 1 + 1)) σ := by
      show kk_putDigits_b6 0 (kk_putDigits_L6 0 f) _ _ _ _ σ = _
      unfold kk_putDigits_b6
      rw [if_neg (show ¬ (19 : Int32) ≤ nI (i + 1) from nI_ge (b := 19) (by omega) (by decide)), e10]
      simp only [lt]
      rw [show lN (10 ^ i) * (10 : Int64) = lN (10 ^ (i + 1)) by rw [Nat.pow_succ]; exact lN_mul _ 10, nI_1]
    rw [hb]
    by_cases c : T / 10 < 10 ^ i
    · rw [if_pos ((pk_lLT (by omega) hp).mpr c)]
      refine ⟨i, by omega, ?_, h, rfl⟩
      rw [Nat.pow_succ]
      omega
    · rw [if_neg (fun z => c ((pk_lLT (by omega) hp).mp z))]
      refine ih (i + 1) f σ (by omega) (by omega) (Or.inr ?_)
      rw [Nat.pow_succ]
      omega
theorem k_digits {T last : Nat} {σ : KSt} {out : List Nat} (hT : T < 2000000000000000000) (hl : last < 10) (hn : 10 * T + last ≤ 2 ^ 64) (hR : RowL 6000 (kf_target σ) out) (ho : out.length + 30 ≤ 200000) : ∃ tg, kk_putDigits 6000 (lN T) (nI last) σ = some (ks_target σ tg) ∧ RowL 6000 tg (out ++ dec (10 * T + last)) := by
  obtain ⟨j, h1, h2, h3, h4⟩ := pow_loop (last := nI last) hT 18 0 FU σ (by decide) (by decide) (Or.inl rfl)
  unfold kk_putDigits
  rw [show kk_putDigits_L6 6000 FU (lN T) (nI last) (1 : Int64) (1 : Int32) σ = _ from h4]
  by_cases c : T = 0
  · have hb : kk_putDigits_L44 6000 FU (lN T) (nI last) (lN (10 ^ j)) (lN T) (0 : Int32) σ = kk_putDigits_b101 6000 (nI last) σ := by
      show kk_putDigits_b44 6000 (kk_putDigits_L44 6000 99999) _ _ _ _ _ σ = _
      unfold kk_putDigits_b44
      rw [c, if_pos (show lN 0 ≤ (0 : Int64) by decide), ite_self, ite_self]
    rw [hb, c, show 10 * 0 + last = last by omega, dec_1 hl]
    exact b101_row hl hR (by omega)
  · have hj : 10 ^ j ≤ T := by
      rcases h3 with e | h3
      · rw [e, Nat.pow_zero]; omega
      · exact h3
    obtain ⟨tg, g1, q1⟩ := dig_loop (j := j) (by omega) hT h1 hl (j + 1) 0 FU σ out (by omega) (by show _ < 100000; omega) hR (by omega)
    have e1 : 10 ^ (j + 1) / 10 = 10 ^ j := by rw [Nat.pow_succ, Nat.mul_div_cancel _ (by decide)]
    rw [e1, Nat.mod_eq_of_lt h2] at g1
    refine ⟨tg, g1, ?_⟩
    rw [dec_app hl h2 hj hn]
    exact q1
theorem z_k_digits {T last : Nat} {σ : KSt} {out : List Nat} (hT : T < 2000000000000000000) (hl : last < 10) (hn : 10 * T + last ≤ 2 ^ 64) (hR : RowL 0 (kf_target σ) out) (ho : out.length + 30 ≤ 200000) : ∃ tg, kk_putDigits 0 (lN T) (nI last) σ = some (ks_target σ tg) ∧ RowL 0 tg (out ++ dec (10 * T + last)) := by
  obtain ⟨j, h1, h2, h3, h4⟩ := z_pow_loop (last := nI last) hT 18 0 FU σ (by decide) (by decide) (Or.inl rfl)
  unfold kk_putDigits
  rw [show kk_putDigits_L6 0 FU (lN T) (nI last) (1 : Int64) (1 : Int32) σ = _ from h4]
  by_cases c : T = 0
  · have hb : kk_putDigits_L44 0 FU (lN T) (nI last) (lN (10 ^ j)) (lN T) (0 : Int32) σ = kk_putDigits_b101 0 (nI last) σ := by
      show kk_putDigits_b44 0 (kk_putDigits_L44 0 99999) _ _ _ _ _ σ = _
      unfold kk_putDigits_b44
      rw [c, if_pos (show lN 0 ≤ (0 : Int64) by decide), ite_self, ite_self]
    rw [hb, c, show 10 * 0 + last = last by omega, dec_1 hl]
    exact z_b101_row hl hR (by omega)
  · have hj : 10 ^ j ≤ T := by
      rcases h3 with e | h3
      · rw [e, Nat.pow_zero]; omega
      · exact h3
    obtain ⟨tg, g1, q1⟩ := z_dig_loop (j := j) (by omega) hT h1 hl (j + 1) 0 FU σ out (by omega) (by show _ < 100000; omega) hR (by omega)
    have e1 : 10 ^ (j + 1) / 10 = 10 ^ j := by rw [Nat.pow_succ, Nat.mul_div_cancel _ (by decide)]
    rw [e1, Nat.mod_eq_of_lt h2] at g1
    refine ⟨tg, g1, ?_⟩
    rw [dec_app hl h2 hj hn]
    exact q1
theorem tenth_eq {v : Nat} (hv : v < 2 ^ 64) : eX0_tenthOf (lN v) = lN (v / 10) := by
  unfold eX0_tenthOf
  rw [show (Int64.toUInt64 (lN v) >>> ((Int32.toInt64 (1 : Int32)).toUInt64 &&& Int64.toUInt64 63)).toInt64 = lN (v / 2 ^ 1) from wb_shr (k := 1) hv (by decide), show lN (v / 2 ^ 1) / (5 : Int64) = lN (v / 2 ^ 1 / 5) from pk_lDiv (b := 5) (by omega) (by decide) (by decide), Nat.div_div_eq_div_mul]
theorem last_eq (v : Nat) : Int64.toInt32 (lN v - (lN (v / 10) * (10 : Int64))) = nI (v % 10) := by
  rw [show lN (v / 10) * (10 : Int64) = lN (v / 10 * 10) from lN_mul _ 10, lN_sub (by omega), lN_i]
  congr 1
  omega
theorem k_decimal {v : Nat} {σ : KSt} {out : List Nat} (hv : v < 2 ^ 64) (hR : RowL 6000 (kf_target σ) out) (ho : out.length + 30 ≤ 200000) : ∃ tg, kk_putDecimal 6000 (lN v) σ = some (ks_target σ tg) ∧ RowL 6000 tg (out ++ dec v) := by
  unfold kk_putDecimal
  simp only [lt]
  rw [tenth_eq hv, last_eq]
  obtain ⟨tg, g1, q1⟩ := k_digits (T := v / 10) (last := v % 10) (by omega) (by omega) (by omega) hR ho
  rw [bd_of g1]
  refine ⟨tg, rfl, ?_⟩
  rw [show 10 * (v / 10) + v % 10 = v by omega] at q1
  exact q1
theorem z_k_decimal {v : Nat} {σ : KSt} {out : List Nat} (hv : v < 2 ^ 64) (hR : RowL 0 (kf_target σ) out) (ho : out.length + 30 ≤ 200000) : ∃ tg, kk_putDecimal 0 (lN v) σ = some (ks_target σ tg) ∧ RowL 0 tg (out ++ dec v) := by
  unfold kk_putDecimal
  simp only [lt]
  rw [tenth_eq hv, last_eq]
  obtain ⟨tg, g1, q1⟩ := z_k_digits (T := v / 10) (last := v % 10) (by omega) (by omega) (by omega) hR ho
  rw [bd_of g1]
  refine ⟨tg, rfl, ?_⟩
  rw [show 10 * (v / 10) + v % 10 = v by omega] at q1
  exact q1
theorem k_negative {v : Nat} {σ : KSt} {out : List Nat} (hv : v < 2 ^ 64) (hR : RowL 6000 (kf_target σ) out) (ho : out.length + 31 ≤ 200000) : ∃ tg, kk_putNegative 6000 (lN v) σ = some (ks_target σ tg) ∧ RowL 6000 tg (out ++ 45 :: dec (v + 1)) := by
  unfold kk_putNegative
  simp only [lt]
  rw [tenth_eq hv, last_eq]
  obtain ⟨r1, g1, q1⟩ := rr_putN hR (by omega) (n := 45) (v := 45) (by decide) rfl
  rw [bd_of g1]
  by_cases c : v % 10 = 9
  · rw [if_pos (show nI (v % 10) = (9 : Int32) by rw [c]; rfl), show lN (v / 10) + (1 : Int64) = lN (v / 10 + 1) from lN_1 _]
    obtain ⟨tg, g2, q2⟩ := k_digits (T := v / 10 + 1) (last := 0) (σ := ks_target σ r1) (out := out ++ [45]) (by omega) (by omega) (by omega) (by simp only [kG_depthLimit_depthLimit, kG_depthLimit_place, kG_depthLimit_faultKind, kG_depthLimit_faultPlace, kG_depthLimit_type, kG_depthLimit_number, kG_depthLimit_tape, kG_depthLimit_target, kG_place_depthLimit, kG_place_place, kG_place_faultKind, kG_place_faultPlace, kG_place_type, kG_place_number, kG_place_tape, kG_place_target, kG_faultKind_depthLimit, kG_faultKind_place, kG_faultKind_faultKind, kG_faultKind_faultPlace, kG_faultKind_type, kG_faultKind_number, kG_faultKind_tape, kG_faultKind_target, kG_faultPlace_depthLimit, kG_faultPlace_place, kG_faultPlace_faultKind, kG_faultPlace_faultPlace, kG_faultPlace_type, kG_faultPlace_number, kG_faultPlace_tape, kG_faultPlace_target, kG_type_depthLimit, kG_type_place, kG_type_faultKind, kG_type_faultPlace, kG_type_type, kG_type_number, kG_type_tape, kG_type_target, kG_number_depthLimit, kG_number_place, kG_number_faultKind, kG_number_faultPlace, kG_number_type, kG_number_number, kG_number_tape, kG_number_target, kG_tape_depthLimit, kG_tape_place, kG_tape_faultKind, kG_tape_faultPlace, kG_tape_type, kG_tape_number, kG_tape_tape, kG_tape_target, kG_target_depthLimit, kG_target_place, kG_target_faultKind, kG_target_faultPlace, kG_target_type, kG_target_number, kG_target_tape, kG_target_target]; exact q1) (by rw [len_snoc]; omega)
    rw [bd_of (show kk_putDigits 6000 (lN (v / 10 + 1)) (0 : Int32) (ks_target σ r1) = _ from g2)]
    refine ⟨tg, rfl, ?_⟩
    rw [show 10 * (v / 10 + 1) + 0 = v + 1 by omega, List.append_assoc] at q2
    exact q2
  · rw [if_neg (show ¬ nI (v % 10) = (9 : Int32) from fun z => c ((nI_eq (b := 9) (by omega) (by decide)).mp z)), nI_1]
    obtain ⟨tg, g2, q2⟩ := k_digits (T := v / 10) (last := v % 10 + 1) (σ := ks_target σ r1) (out := out ++ [45]) (by omega) (by omega) (by omega) (by simp only [kG_depthLimit_depthLimit, kG_depthLimit_place, kG_depthLimit_faultKind, kG_depthLimit_faultPlace, kG_depthLimit_type, kG_depthLimit_number, kG_depthLimit_tape, kG_depthLimit_target, kG_place_depthLimit, kG_place_place, kG_place_faultKind, kG_place_faultPlace, kG_place_type, kG_place_number, kG_place_tape, kG_place_target, kG_faultKind_depthLimit, kG_faultKind_place, kG_faultKind_faultKind, kG_faultKind_faultPlace, kG_faultKind_type, kG_faultKind_number, kG_faultKind_tape, kG_faultKind_target, kG_faultPlace_depthLimit, kG_faultPlace_place, kG_faultPlace_faultKind, kG_faultPlace_faultPlace, kG_faultPlace_type, kG_faultPlace_number, kG_faultPlace_tape, kG_faultPlace_target, kG_type_depthLimit, kG_type_place, kG_type_faultKind, kG_type_faultPlace, kG_type_type, kG_type_number, kG_type_tape, kG_type_target, kG_number_depthLimit, kG_number_place, kG_number_faultKind, kG_number_faultPlace, kG_number_type, kG_number_number, kG_number_tape, kG_number_target, kG_tape_depthLimit, kG_tape_place, kG_tape_faultKind, kG_tape_faultPlace, kG_tape_type, kG_tape_number, kG_tape_tape, kG_tape_target, kG_target_depthLimit, kG_target_place, kG_target_faultKind, kG_target_faultPlace, kG_target_type, kG_target_number, kG_target_tape, kG_target_target]; exact q1) (by rw [len_snoc]; omega)
    rw [bd_of g2]
    refine ⟨tg, rfl, ?_⟩
    rw [show 10 * (v / 10) + (v % 10 + 1) = v + 1 by omega, List.append_assoc] at q2
    exact q2

theorem z_k_negative {v : Nat} {σ : KSt} {out : List Nat} (hv : v < 2 ^ 64) (hR : RowL 0 (kf_target σ) out) (ho : out.length + 31 ≤ 200000) : ∃ tg, kk_putNegative 0 (lN v) σ = some (ks_target σ tg) ∧ RowL 0 tg (out ++ 45 :: dec (v + 1)) := by
  unfold kk_putNegative
  simp only [lt]
  rw [tenth_eq hv, last_eq]
  obtain ⟨r1, g1, q1⟩ := z_rr_putN hR (by omega) (n := 45) (v := 45) (by decide) rfl
  rw [bd_of g1]
  by_cases c : v % 10 = 9
  · rw [if_pos (show nI (v % 10) = (9 : Int32) by rw [c]; rfl), show lN (v / 10) + (1 : Int64) = lN (v / 10 + 1) from lN_1 _]
    obtain ⟨tg, g2, q2⟩ := z_k_digits (T := v / 10 + 1) (last := 0) (σ := ks_target σ r1) (out := out ++ [45]) (by omega) (by omega) (by omega) (by simp only [kG_depthLimit_depthLimit, kG_depthLimit_place, kG_depthLimit_faultKind, kG_depthLimit_faultPlace, kG_depthLimit_type, kG_depthLimit_number, kG_depthLimit_tape, kG_depthLimit_target, kG_place_depthLimit, kG_place_place, kG_place_faultKind, kG_place_faultPlace, kG_place_type, kG_place_number, kG_place_tape, kG_place_target, kG_faultKind_depthLimit, kG_faultKind_place, kG_faultKind_faultKind, kG_faultKind_faultPlace, kG_faultKind_type, kG_faultKind_number, kG_faultKind_tape, kG_faultKind_target, kG_faultPlace_depthLimit, kG_faultPlace_place, kG_faultPlace_faultKind, kG_faultPlace_faultPlace, kG_faultPlace_type, kG_faultPlace_number, kG_faultPlace_tape, kG_faultPlace_target, kG_type_depthLimit, kG_type_place, kG_type_faultKind, kG_type_faultPlace, kG_type_type, kG_type_number, kG_type_tape, kG_type_target, kG_number_depthLimit, kG_number_place, kG_number_faultKind, kG_number_faultPlace, kG_number_type, kG_number_number, kG_number_tape, kG_number_target, kG_tape_depthLimit, kG_tape_place, kG_tape_faultKind, kG_tape_faultPlace, kG_tape_type, kG_tape_number, kG_tape_tape, kG_tape_target, kG_target_depthLimit, kG_target_place, kG_target_faultKind, kG_target_faultPlace, kG_target_type, kG_target_number, kG_target_tape, kG_target_target]; exact q1) (by rw [len_snoc]; omega)
    rw [bd_of (show kk_putDigits 0 (lN (v / 10 + 1)) (0 : Int32) (ks_target σ r1) = _ from g2)]
    refine ⟨tg, rfl, ?_⟩
    rw [show 10 * (v / 10 + 1) + 0 = v + 1 by omega, List.append_assoc] at q2
    exact q2
  · rw [if_neg (show ¬ nI (v % 10) = (9 : Int32) from fun z => c ((nI_eq (b := 9) (by omega) (by decide)).mp z)), nI_1]
    obtain ⟨tg, g2, q2⟩ := z_k_digits (T := v / 10) (last := v % 10 + 1) (σ := ks_target σ r1) (out := out ++ [45]) (by omega) (by omega) (by omega) (by simp only [kG_depthLimit_depthLimit, kG_depthLimit_place, kG_depthLimit_faultKind, kG_depthLimit_faultPlace, kG_depthLimit_type, kG_depthLimit_number, kG_depthLimit_tape, kG_depthLimit_target, kG_place_depthLimit, kG_place_place, kG_place_faultKind, kG_place_faultPlace, kG_place_type, kG_place_number, kG_place_tape, kG_place_target, kG_faultKind_depthLimit, kG_faultKind_place, kG_faultKind_faultKind, kG_faultKind_faultPlace, kG_faultKind_type, kG_faultKind_number, kG_faultKind_tape, kG_faultKind_target, kG_faultPlace_depthLimit, kG_faultPlace_place, kG_faultPlace_faultKind, kG_faultPlace_faultPlace, kG_faultPlace_type, kG_faultPlace_number, kG_faultPlace_tape, kG_faultPlace_target, kG_type_depthLimit, kG_type_place, kG_type_faultKind, kG_type_faultPlace, kG_type_type, kG_type_number, kG_type_tape, kG_type_target, kG_number_depthLimit, kG_number_place, kG_number_faultKind, kG_number_faultPlace, kG_number_type, kG_number_number, kG_number_tape, kG_number_target, kG_tape_depthLimit, kG_tape_place, kG_tape_faultKind, kG_tape_faultPlace, kG_tape_type, kG_tape_number, kG_tape_tape, kG_tape_target, kG_target_depthLimit, kG_target_place, kG_target_faultKind, kG_target_faultPlace, kG_target_type, kG_target_number, kG_target_tape, kG_target_target]; exact q1) (by rw [len_snoc]; omega)
    rw [bd_of g2]
    refine ⟨tg, rfl, ?_⟩
    rw [show 10 * (v / 10) + (v % 10 + 1) = v + 1 by omega, List.append_assoc] at q2
    exact q2
