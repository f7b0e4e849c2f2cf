/-! PURE J: how many bytes a sign has, on both sides -/
theorem fa_or (a b : Nat) : nI a ||| nI b = nI (a ||| b) := by
  apply Int32.toBitVec_inj.1
  show BitVec.ofNat 32 a ||| BitVec.ofNat 32 b = BitVec.ofNat 32 (a ||| b)
  apply BitVec.eq_of_getLsbD_eq
  intro i hi
  simp [hi]
theorem fa_or_sum {a k : Nat} (b : Nat) (h : a < 2 ^ k) : nI (2 ^ k * b) ||| nI a = nI (2 ^ k * b + a) := by rw [fa_or, Nat.two_pow_add_eq_or_of_lt h]
def nSg (b : Nat) : Nat := if b < 224 then 2 else if b < 240 then 3 else 4
def loSg (b : Nat) : Nat := if b = 224 then 160 else if b = 240 then 144 else 128
def hiSg (b : Nat) : Nat := if b = 237 then 159 else if b = 244 then 143 else 191
def flw (t : List Nat) (q e lo hi : Nat) : Bool := decide (q < e) && (decide (lo ≤ t.getD q 0) && decide (t.getD q 0 ≤ hi))
/-- the bytes of the sign at p, ahead of e; 0 if there is none -/
def sgn (t : List Nat) (p e : Nat) : Nat :=
  if t.getD p 0 < 128 then 1 else if t.getD p 0 < 194 then 0 else if 244 < t.getD p 0 then 0 else
  if flw t (p + 1) e (loSg (t.getD p 0)) (hiSg (t.getD p 0)) = true ∧ (nSg (t.getD p 0) = 2 ∨ flw t (p + 2) e 128 191 = true) ∧ (nSg (t.getD p 0) ≠ 4 ∨ flw t (p + 3) e 128 191 = true) then nSg (t.getD p 0) else 0
theorem flw_t {t : List Nat} {q e lo hi : Nat} : flw t q e lo hi = true ↔ q < e ∧ lo ≤ t.getD q 0 ∧ t.getD q 0 ≤ hi := by
  unfold flw
  rw [Bool.and_eq_true, Bool.and_eq_true, decide_eq_true_eq, decide_eq_true_eq, decide_eq_true_eq]
theorem follows_eq {t : List Nat} {σ : MSt} (hT : TpM σ t) {q e lo hi : Nat} (hq : q < 2 ^ 30) (he : e ≤ t.length) (hlo : lo < 2 ^ 30) (hhi : hi < 2 ^ 30) : mm_follows (nI q) (nI e) (nI lo) (nI hi) σ = some (flw t q e lo hi, σ) := by
  obtain ⟨h1, h2, h3, h4⟩ := id hT
  unfold mm_follows flw
  by_cases c1 : q < e
  · have hb := getD_lt h3 q
    rw [if_neg (nI_ge c1 (by omega)), ck_in (vp_in_nI (by omega) (by decide)), ck_in (vp_in_nI (by omega) (by decide)), nI_clamp (by omega), h4 q (by omega), decide_eq_true c1, Bool.true_and]
    by_cases c2 : lo ≤ t.getD q 0
    · rw [if_neg (nI_nlt c2 (by omega)), decide_eq_true c2, Bool.true_and]
      by_cases c3 : t.getD q 0 ≤ hi
      · rw [if_neg (nI_nlt c3 (by omega)), decide_eq_true c3]
      · rw [if_pos (nI_lt (by omega) (by omega)), decide_eq_false c3]
    · rw [if_pos (nI_lt (by omega) (by omega)), decide_eq_false c2, Bool.false_and]
  · rw [if_pos (nI_le (by omega) (by omega)), decide_eq_false c1, Bool.false_and]
theorem signSize_eq {t : List Nat} {σ : MSt} (hT : TpM σ t) {p e : Nat} (hp : p < t.length) (he : e ≤ t.length) : mm_signSize (nI p) (nI e) σ = some (nI (sgn t p e), σ) := by
  obtain ⟨h1, h2, h3, h4⟩ := id hT
  have hb := getD_lt h3 p
  obtain ⟨f, hf⟩ : ∃ f, FU = f + 4 := ⟨99996, rfl⟩
  have stop : ∀ g k, mm_signSize_L139 (g + 1) (nI p) (nI e) (nI k) (nI k) σ = some (nI k, σ) ∨ 2 ^ 31 ≤ k := by
    intro g k
    by_cases hk : k < 2 ^ 31
    · refine Or.inl ?_
      show mm_signSize_b139 _ _ _ _ _ σ = _
      unfold mm_signSize_b139
      rw [if_pos (nI_le (Nat.le_refl _) hk)]
    · exact Or.inr (by omega)
  have step : ∀ g n k, k < n → n ≤ 4 → mm_signSize_L139 (g + 1) (nI p) (nI e) (nI n) (nI k) σ = if flw t (p + k) e 128 191 = true then mm_signSize_L139 g (nI p) (nI e) (nI n) (nI (k + 1)) σ else some (0, σ) := by
    intro g n k hk hn
    show mm_signSize_b139 _ _ _ _ _ σ = _
    unfold mm_signSize_b139
    rw [if_neg (nI_ge hk (by omega)), nI_add, bd_of (show mm_follows (nI (p + k)) (nI e) (128 : Int32) (191 : Int32) σ = some (flw t (p + k) e 128 191, σ) from follows_eq hT (by omega) he (by decide) (by decide))]
    simp only [lt]
    rw [nI_1]
  have b117 : ∀ lo hi n, lo < 256 → hi < 256 → (n = 2 ∨ n = 3 ∨ n = 4) → mm_signSize_b117 (nI p) (nI e) (nI lo) (nI hi) (nI n) σ = some (nI (if flw t (p + 1) e lo hi = true ∧ (n = 2 ∨ flw t (p + 2) e 128 191 = true) ∧ (n ≠ 4 ∨ flw t (p + 3) e 128 191 = true) then n else 0), σ) := by
    intro lo hi n hlo hhi hn
    unfold mm_signSize_b117
    rw [nI_1, bd_of (follows_eq hT (by omega) he (by omega) (by omega)), hf]
    simp only []
    by_cases c1 : flw t (p + 1) e lo hi = true
    · rw [if_pos c1]
      rcases hn with rfl | rfl | rfl
      · rw [if_pos ⟨c1, Or.inl rfl, Or.inl (by decide)⟩]
        exact (stop (f + 3) 2).resolve_right (by decide)
      · rw [show (2 : Int32) = nI 2 from rfl, step (f + 3) 3 2 (by decide) (by decide)]
        by_cases c2 : flw t (p + 2) e 128 191 = true
        · rw [if_pos c2, if_pos ⟨c1, Or.inr c2, Or.inl (by decide)⟩]
          exact (stop (f + 2) 3).resolve_right (by decide)
        · rw [if_neg c2, if_neg (fun z => z.2.1.elim (by decide) c2)]
          rfl
      · rw [show (2 : Int32) = nI 2 from rfl, step (f + 3) 4 2 (by decide) (by decide)]
        by_cases c2 : flw t (p + 2) e 128 191 = true
        · rw [if_pos c2, step (f + 2) 4 3 (by decide) (by decide)]
          by_cases c3 : flw t (p + 3) e 128 191 = true
          · rw [if_pos c3, if_pos ⟨c1, Or.inr c2, Or.inr c3⟩]
            exact (stop (f + 1) 4).resolve_right (by decide)
          · rw [if_neg c3, if_neg (fun z => z.2.2.elim (fun y => y rfl) c3)]
            rfl
        · rw [if_neg c2, if_neg (fun z => z.2.1.elim (by decide) c2)]
          rfl
    · rw [if_neg c1, if_neg (fun z => c1 z.1)]
      rfl
  have b92 : ∀ lo hi, lo < 256 → hi < 256 → mm_signSize_b92 (nI p) (nI e) (nI (t.getD p 0)) (nI lo) (nI hi) σ = some (nI (if flw t (p + 1) e lo hi = true ∧ (nSg (t.getD p 0) = 2 ∨ flw t (p + 2) e 128 191 = true) ∧ (nSg (t.getD p 0) ≠ 4 ∨ flw t (p + 3) e 128 191 = true) then nSg (t.getD p 0) else 0), σ) := by
    intro lo hi hlo hhi
    unfold mm_signSize_b92 nSg
    by_cases c1 : t.getD p 0 < 224
    · rw [if_neg (show ¬ (224 : Int32) ≤ nI (t.getD p 0) from nI_ge c1 (by decide)), if_pos c1]
      exact b117 lo hi 2 hlo hhi (Or.inl rfl)
    · rw [if_pos (show (224 : Int32) ≤ nI (t.getD p 0) from nI_le (a := 224) (by omega) (by omega)), if_neg c1]
      by_cases c2 : t.getD p 0 < 240
      · rw [if_neg (show ¬ (240 : Int32) ≤ nI (t.getD p 0) from nI_ge c2 (by decide)), if_pos c2]
        exact b117 lo hi 3 hlo hhi (Or.inr (Or.inl rfl))
      · rw [if_pos (show (240 : Int32) ≤ nI (t.getD p 0) from nI_le (a := 240) (by omega) (by omega)), if_neg c2]
        exact b117 lo hi 4 hlo hhi (Or.inr (Or.inr rfl))
  have eqI : ∀ v : Nat, v < 256 → (nI (t.getD p 0) = nI v ↔ t.getD p 0 = v) := fun v hv => nI_eq (by omega) (by omega)
  have b61 : ∀ lo, lo < 256 → mm_signSize_b61 (nI p) (nI e) (nI (t.getD p 0)) (nI lo) σ = some (nI (if flw t (p + 1) e lo (hiSg (t.getD p 0)) = true ∧ (nSg (t.getD p 0) = 2 ∨ flw t (p + 2) e 128 191 = true) ∧ (nSg (t.getD p 0) ≠ 4 ∨ flw t (p + 3) e 128 191 = true) then nSg (t.getD p 0) else 0), σ) := by
    intro lo hlo
    unfold mm_signSize_b61
    by_cases c1 : t.getD p 0 = 237
    · rw [if_pos (show nI (t.getD p 0) = (237 : Int32) from (eqI 237 (by decide)).mpr c1), show hiSg (t.getD p 0) = 159 by unfold hiSg; rw [if_pos c1]]
      exact b92 lo 159 hlo (by decide)
    · rw [if_neg (show ¬ nI (t.getD p 0) = (237 : Int32) from fun z => c1 ((eqI 237 (by decide)).mp z))]
      by_cases c2 : t.getD p 0 = 244
      · rw [if_pos (show nI (t.getD p 0) = (244 : Int32) from (eqI 244 (by decide)).mpr c2), show hiSg (t.getD p 0) = 143 by unfold hiSg; rw [if_neg c1, if_pos c2]]
        exact b92 lo 143 hlo (by decide)
      · rw [if_neg (show ¬ nI (t.getD p 0) = (244 : Int32) from fun z => c2 ((eqI 244 (by decide)).mp z)), show hiSg (t.getD p 0) = 191 by unfold hiSg; rw [if_neg c1, if_neg c2]]
        exact b92 lo 191 hlo (by decide)
  unfold mm_signSize sgn
  rw [ck_in (vp_in_nI (by omega) (by decide)), nI_clamp (by omega), h4 p hp]
  simp only [lt]
  by_cases c1 : t.getD p 0 < 128
  · rw [if_neg (show ¬ (128 : Int32) ≤ nI (t.getD p 0) from nI_ge c1 (by decide)), if_pos c1]
    rfl
  rw [if_pos (show (128 : Int32) ≤ nI (t.getD p 0) from nI_le (a := 128) (by omega) (by omega)), if_neg c1]
  by_cases c2 : t.getD p 0 < 194
  · rw [if_pos (show nI (t.getD p 0) < (194 : Int32) from nI_lt (b := 194) c2 (by decide)), if_pos c2]
    rfl
  rw [if_neg (show ¬ nI (t.getD p 0) < (194 : Int32) from nI_nlt (b := 194) (by omega) (by omega)), if_neg c2]
  by_cases c3 : 244 < t.getD p 0
  · rw [if_neg (show ¬ nI (t.getD p 0) ≤ (244 : Int32) from nI_ge c3 (by omega)), if_pos c3]
    rfl
  rw [if_pos (show nI (t.getD p 0) ≤ (244 : Int32) from nI_le (b := 244) (by omega) (by decide)), if_neg c3]
  by_cases c4 : t.getD p 0 = 224
  · rw [if_pos (show nI (t.getD p 0) = (224 : Int32) from (eqI 224 (by decide)).mpr c4), show loSg (t.getD p 0) = 160 by unfold loSg; rw [if_pos c4]]
    exact b61 160 (by decide)
  rw [if_neg (show ¬ nI (t.getD p 0) = (224 : Int32) from fun z => c4 ((eqI 224 (by decide)).mp z))]
  by_cases c5 : t.getD p 0 = 240
  · rw [if_pos (show nI (t.getD p 0) = (240 : Int32) from (eqI 240 (by decide)).mpr c5), show loSg (t.getD p 0) = 144 by unfold loSg; rw [if_neg c4, if_pos c5]]
    exact b61 144 (by decide)
  rw [if_neg (show ¬ nI (t.getD p 0) = (240 : Int32) from fun z => c5 ((eqI 240 (by decide)).mp z)), show loSg (t.getD p 0) = 128 by unfold loSg; rw [if_neg c4, if_neg c5]]
  exact b61 128 (by decide)
