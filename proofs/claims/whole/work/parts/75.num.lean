/-! PURE F: numbers of a JSON text -/
/-- what reading comes to: a fault (kind, place), or something -/
abbrev Rd (α : Type) : Type := (Nat × Nat) ⊕ α
def dg (t : List Nat) (i : Nat) : Nat := t.getD i 0 - 48
/-- the value of k digits from a on -/
def dv (t : List Nat) (a : Nat) : Nat → Nat
  | 0 => 0
  | k + 1 => 10 * dv t a k + dg t (a + k)
theorem isDg_nI {v : Nat} (hv : v < 256) : isDg (nI v) = true ↔ 48 ≤ v ∧ v ≤ 57 := by
  unfold isDg
  rw [Bool.and_eq_true, decide_eq_true_eq, decide_eq_true_eq]
  constructor
  · intro ⟨h1, h2⟩
    exact ⟨(nI_leI (a := 48) (by decide) (by omega)).mp h1, (nI_leI (b := 57) (by omega) (by decide)).mp h2⟩
  · intro ⟨h1, h2⟩
    exact ⟨(nI_leI (a := 48) (by decide) (by omega)).mpr h1, (nI_leI (b := 57) (by omega) (by decide)).mpr h2⟩
theorem isDg_at {t : List Nat} (ht : ∀ x ∈ t, x < 256) {i : Nat} (h : isDg (gL t i) = true) : i < t.length ∧ 48 ≤ t.getD i 0 ∧ t.getD i 0 ≤ 57 := by
  rcases Nat.lt_or_ge i t.length with c | c
  · rw [gL_in c] at h
    exact ⟨c, (isDg_nI (getD_lt ht i)).mp h⟩
  · rw [gL_out c] at h
    exact absurd h (by decide)
theorem dv_lt {t : List Nat} (ht : ∀ x ∈ t, x < 256) {a : Nat} : ∀ k, (∀ i, a ≤ i → i < a + k → isDg (gL t i) = true) → dv t a k < 10 ^ k := by
  intro k
  induction k with
  | zero => intro _; show 0 < 1; decide
  | succ k ih =>
    intro h
    have h1 := ih (fun i g1 g2 => h i g1 (by omega))
    have h2 := isDg_at ht (h (a + k) (by omega) (by omega))
    unfold dv dg
    rw [Nat.pow_succ]
    omega
theorem dv_mono (t : List Nat) (a k j : Nat) : dv t a k * 10 ^ j ≤ dv t a (k + j) := by
  induction j with
  | zero => simp
  | succ j ih =>
    show dv t a k * 10 ^ (j + 1) ≤ 10 * dv t a (k + j) + _
    rw [Nat.pow_succ, ← Nat.mul_assoc]
    omega
theorem dv_up {t : List Nat} (ht : ∀ x ∈ t, x < 256) {a k : Nat} : ∀ j, (∀ i, a ≤ i → i < a + k + j → isDg (gL t i) = true) → dv t a (k + j) < (dv t a k + 1) * 10 ^ j := by
  intro j
  induction j with
  | zero => intro _; simp
  | succ j ih =>
    intro h
    have h1 := ih (fun i g1 g2 => h i g1 (by omega))
    have h2 := isDg_at ht (h (a + (k + j)) (by omega) (by omega))
    show 10 * dv t a (k + j) + dg t (a + (k + j)) < _
    unfold dg
    rw [Nat.pow_succ, ← Nat.mul_assoc]
    omega
theorem dv_first {t : List Nat} {a k : Nat} (h : 1 ≤ dg t a) : 10 ^ k ≤ dv t a (k + 1) := by
  have := dv_mono t a 1 k
  rw [Nat.add_comm k 1]
  have e : dv t a 1 = dg t a := by show 10 * 0 + dg t (a + 0) = _; simp
  rw [e] at this
  exact Nat.le_trans (Nat.le_mul_of_pos_left _ h) this
/-- what CBOR can hold -/
def lim (neg : Bool) : Nat := if neg then 18446744073709551616 else 18446744073709551615
theorem beyond_small (V : Int64) {k : Nat} (hk : k < 19) (d p3 : Int32) : eX1_isBeyond V (nI k) d p3 = false := by
  unfold eX1_isBeyond
  rw [if_neg (show ¬ (19 : Int32) ≤ nI k from nI_ge hk (by decide))]
theorem beyond_big (V : Int64) {k : Nat} (hk : 20 ≤ k) (hk2 : k < 2 ^ 31) (d p3 : Int32) : eX1_isBeyond V (nI k) d p3 = true := by
  unfold eX1_isBeyond
  rw [if_pos (show (19 : Int32) ≤ nI k from nI_le (a := 19) (by omega) hk2), if_pos (show (20 : Int32) ≤ nI k from nI_le (a := 20) hk hk2)]
theorem beyond_19 {V d : Nat} (hV : V < 10 ^ 19) (hd : d < 10) (neg : Bool) : eX1_isBeyond (lN V) (nI 19) (nI d) (bI neg) = decide (lim neg < 10 * V + d) := by
  have ti := lN_ti (m := V) (Nat.lt_trans hV (by decide))
  unfold eX1_isBeyond
  rw [if_pos (by decide), if_neg (by decide)]
  show (if lN V < lN 0 then true else (if lN V ≤ lN 1844674407370955161 then (if lN V = lN 1844674407370955161 then (if bI neg = 0 then eX1_isBeyond_b50 (5 : Int32) (nI d) else eX1_isBeyond_b50 (6 : Int32) (nI d)) else false) else true)) = _
  unfold lim
  by_cases c0 : V < 2 ^ 63
  · rw [if_pos c0] at ti
    rw [if_neg (show ¬ lN V < lN 0 by rw [Int64.lt_iff_toInt_lt, pk_lT (show 0 < 2 ^ 63 by decide), ti]; omega)]
    by_cases c1 : V ≤ 1844674407370955161
    · rw [if_pos ((pk_lLE c0 (by decide)).mpr c1)]
      by_cases c2 : V = 1844674407370955161
      · rw [if_pos (by rw [c2])]
        subst c2
        unfold eX1_isBeyond_b50
        cases neg with
        | false =>
          rw [if_pos bI_f]
          by_cases c3 : d ≤ 5
          · rw [if_pos (show nI d ≤ (5 : Int32) from nI_le (b := 5) c3 (by decide))]
            exact (decide_eq_false (by simp; omega)).symm
          · rw [if_neg (show ¬ nI d ≤ (5 : Int32) from nI_ge (a := 5) (by omega) (by omega))]
            exact (decide_eq_true (by simp; omega)).symm
        | true =>
          rw [if_neg (by decide)]
          by_cases c3 : d ≤ 6
          · rw [if_pos (show nI d ≤ (6 : Int32) from nI_le (b := 6) c3 (by decide))]
            exact (decide_eq_false (by simp; omega)).symm
          · rw [if_neg (show ¬ nI d ≤ (6 : Int32) from nI_ge (a := 6) (by omega) (by omega))]
            exact (decide_eq_true (by simp; omega)).symm
      · rw [if_neg (fun z => c2 ((pk_lEQ c0 (by decide)).mp z))]
        exact (decide_eq_false (by cases neg <;> simp <;> omega)).symm
    · rw [if_neg (fun z => c1 ((pk_lLE c0 (by decide)).mp z))]
      exact (decide_eq_true (by cases neg <;> simp <;> omega)).symm
  · rw [if_neg c0] at ti
    rw [if_pos (show lN V < lN 0 by rw [Int64.lt_iff_toInt_lt, pk_lT (show 0 < 2 ^ 63 by decide), ti]; omega)]
    exact (decide_eq_true (by cases neg <;> simp <;> omega)).symm
/-- the thing that a whole number is -/
def numTh (neg : Bool) (V : Nat) : Nat × Nat := if neg = true ∧ V ≠ 0 then (1, V - 1) else (0, V)
theorem gL_sub48 {t : List Nat} (ht : ∀ x ∈ t, x < 256) {i : Nat} (h : isDg (gL t i) = true) : gL t i - 48 = nI (dg t i) := by
  obtain ⟨h1, h2, h3⟩ := isDg_at ht h
  rw [gL_in h1]
  exact pk_sub (b := 48) h2
theorem dg_lt {t : List Nat} (ht : ∀ x ∈ t, x < 256) {i : Nat} (h : isDg (gL t i) = true) : dg t i < 10 := by
  obtain ⟨h1, h2, h3⟩ := isDg_at ht h
  unfold dg
  omega
theorem lN_mod {a : Nat} : lN (a % 18446744073709551616) = lN a := (wb_mod a).symm
theorem lN_pred {V : Nat} (h : 0 < V) : lN V - 1 = lN (V - 1) := lN_sub (b := 1) h
theorem dv_mono2 (t : List Nat) (a : Nat) {k n : Nat} (h : k ≤ n) : dv t a k ≤ dv t a n := by
  obtain ⟨j, rfl⟩ : ∃ j, n = k + j := ⟨n - k, by omega⟩
  exact Nat.le_trans (Nat.le_mul_of_pos_right _ (Nat.pow_pos (by decide))) (dv_mono t a k j)
theorem dv_one (t : List Nat) (a : Nat) : dv t a 1 = dg t a := by show 10 * 0 + dg t (a + 0) = _; simp
theorem dv_pos {t : List Nat} {a n : Nat} (hn : 1 ≤ n) (h : 1 ≤ dg t a) : 1 ≤ dv t a n := by
  have := dv_mono2 t a hn
  rw [dv_one] at this
  omega
theorem numTh_lt {neg : Bool} {V : Nat} (h : V ≤ lim neg) : (numTh neg V).1 < 8 ∧ (numTh neg V).2 < 2 ^ 64 := by
  unfold numTh
  unfold lim at h
  split
  · rename_i c
    rw [if_pos c.1] at h
    exact ⟨by show (1 : Nat) < 8; decide, by show V - 1 < _; omega⟩
  · rename_i c
    refine ⟨by show (0 : Nat) < 8; decide, ?_⟩
    show V < _
    cases neg with
    | false => simp at h; omega
    | true =>
      have : V = 0 := by
        rcases Nat.eq_zero_or_pos V with z | z
        · exact z
        · exact absurd ⟨rfl, by omega⟩ c
      omega
/-- J: the digits become a head, unless they lead beyond -/
theorem j_whole_loop {t : List Nat} {a n : Nat} {neg : Bool} {out : List Nat} (ht : ∀ x ∈ t, x < 256) (han : a + n ≤ t.length) (hn : 1 ≤ n) (hdg : ∀ i, a ≤ i → i < a + n → isDg (gL t i) = true) (hz : t.getD a 0 = 48 → n = 1) (hout : out.length + 20 < 2 ^ 30) :
    ∀ (m k f : Nat) (σ : JSt), TpR (jf_tape σ) t → RowL 6000 (jf_target σ) out → k + m = n → m < f → k ≤ 20 → (k = 20 → dv t a 20 ≤ lim neg) →
      (dv t a n ≤ lim neg → ∃ tg, jj_putWhole_L6 6000 f (nI a) (nI (a + n)) (bI neg) (lN (dv t a k)) (nI (a + k)) σ = some (true, js_target σ tg) ∧ RowL 6000 tg (out ++ hd (numTh neg (dv t a n)).1 (numTh neg (dv t a n)).2)) ∧
      (lim neg < dv t a n → jj_putWhole_L6 6000 f (nI a) (nI (a + n)) (bI neg) (lN (dv t a k)) (nI (a + k)) σ = some (false, σ)) := by
  intro m
  have hlim : lim neg < 10 ^ 20 := by unfold lim; cases neg <;> decide
  have hlim2 : (10 : Nat) ^ 19 ≤ lim neg := by unfold lim; cases neg <;> decide
  have hfd := isDg_at ht (hdg a (Nat.le_refl _) (by omega))
  induction m with
  | zero =>
    intro k f σ hT hR hk hf hk20 h20
    obtain ⟨f, rfl⟩ : ∃ g, f = g + 1 := ⟨f - 1, by omega⟩
    have hkn : k = n := by omega
    subst hkn
    have hle := hT.2
    have hsmall : dv t a k ≤ lim neg := by
      have h10 := dv_lt ht k hdg
      by_cases c : k ≤ 19
      · have : (10 : Nat) ^ k ≤ 10 ^ 19 := Nat.pow_le_pow_right (by decide) c
        omega
      · have c2 : k = 20 := by omega
        subst c2
        exact h20 rfl
    obtain ⟨q1, q2⟩ := numTh_lt hsmall
    refine ⟨fun _ => ?_, fun z => by omega⟩
    show ∃ tg, jj_putWhole_b6 6000 (jj_putWhole_L6 6000 f) (nI a) (nI (a + k)) (bI neg) (lN (dv t a k)) (nI (a + k)) σ = some (true, js_target σ tg) ∧ _
    unfold jj_putWhole_b6
    rw [if_pos (nI_le (Nat.le_refl _) (by omega))]
    cases neg with
    | false =>
      rw [if_pos bI_f]
      obtain ⟨tg, e1, e2⟩ := putHead_row hR (by decide) (by decide) hout (t := 0) (u := dv t a k) (by decide) q2
      unfold jj_putWhole_b93
      rw [bd_of (show rr_putHead 6000 (0 : Int32) (lN (dv t a k)) (jf_target σ) = some tg from e1)]
      exact ⟨tg, rfl, e2⟩
    | true =>
      rw [if_neg (by decide), bd_of (hT.at (by omega))]
      simp only []
      rw [js_tape_id, gL_in hfd.1]
      by_cases c : t.getD a 0 = 48
      · rw [if_pos (show nI (t.getD a 0) = 48 by rw [c]; rfl)]
        have hk1 := hz c
        subst hk1
        have e0 : dv t a 1 = 0 := by rw [dv_one]; unfold dg; omega
        obtain ⟨tg, e1, e2⟩ := putHead_row hR (by decide) (by decide) hout (t := 0) (u := dv t a 1) (by decide) (by omega)
        unfold jj_putWhole_b93
        rw [bd_of (show rr_putHead 6000 (0 : Int32) (lN (dv t a 1)) (jf_target σ) = some tg from e1)]
        refine ⟨tg, rfl, ?_⟩
        rw [e0] at e2 ⊢
        exact e2
      · rw [if_neg (show ¬ nI (t.getD a 0) = (48 : Int32) from fun z => c ((nI_eq (b := 48) (by omega) (by decide)).mp z))]
        have hp : 1 ≤ dv t a k := dv_pos hn (by unfold dg; omega)
        have hth : numTh true (dv t a k) = (1, dv t a k - 1) := by unfold numTh; rw [if_pos ⟨rfl, by omega⟩]
        rw [hth] at q2 ⊢
        obtain ⟨tg, e1, e2⟩ := putHead_row hR (by decide) (by decide) hout (t := 1) (u := dv t a k - 1) (by decide) q2
        rw [lN_pred hp, bd_of (show rr_putHead 6000 (1 : Int32) (lN (dv t a k - 1)) (jf_target σ) = some tg from e1)]
        exact ⟨tg, rfl, e2⟩
  | succ m ih =>
    intro k f σ hT hR hk hf hk20 h20
    obtain ⟨f, rfl⟩ : ∃ g, f = g + 1 := ⟨f - 1, by omega⟩
    have hle := hT.2
    have hd := hdg (a + k) (by omega) (by omega)
    have step : jj_putWhole_L6 6000 (f + 1) (nI a) (nI (a + n)) (bI neg) (lN (dv t a k)) (nI (a + k)) σ = if eX1_isBeyond (lN (dv t a k)) (nI k) (nI (dg t (a + k))) (bI neg) = true then some (false, σ) else jj_putWhole_L6 6000 f (nI a) (nI (a + n)) (bI neg) (lN (dv t a (k + 1))) (nI (a + (k + 1))) σ := by
      show jj_putWhole_b6 6000 (jj_putWhole_L6 6000 f) (nI a) (nI (a + n)) (bI neg) (lN (dv t a k)) (nI (a + k)) σ = _
      unfold jj_putWhole_b6
      rw [if_neg (nI_ge (by omega) (by omega)), bd_of (hT.at (by omega))]
      simp only [lt]
      rw [gL_sub48 ht hd, js_tape_id, pk_sub (by omega), show a + k - a = k by omega, nI_1, nI_l (by have := dg_lt ht hd; omega), show (10 : Int64) = lN 10 from rfl, lN_mul, lN_add, Nat.mul_comm (dv t a k) 10]
      rfl
    rw [step]
    by_cases c1 : k < 19
    · rw [beyond_small _ c1, if_neg (by decide)]
      exact ih (k + 1) f σ hT hR (by omega) (by omega) (by omega) (fun z => by omega)
    · by_cases c2 : k = 19
      · subst c2
        have hlt19 := dv_lt ht 19 (fun i g1 g2 => hdg i g1 (by omega))
        have e20 : dv t a 20 = 10 * dv t a 19 + dg t (a + 19) := rfl
        rw [beyond_19 hlt19 (dg_lt ht hd) neg]
        by_cases c3 : lim neg < 10 * dv t a 19 + dg t (a + 19)
        · rw [decide_eq_true c3, if_pos rfl]
          have := dv_mono2 t a (show 20 ≤ n by omega)
          exact ⟨fun z => by omega, fun _ => rfl⟩
        · rw [decide_eq_false c3, if_neg (by decide)]
          exact ih 20 f σ hT hR (by omega) (by omega) (by omega) (fun _ => by omega)
      · have c4 : k = 20 := by omega
        subst c4
        rw [beyond_big _ (by decide) (by decide), if_pos rfl]
        have hnz : t.getD a 0 ≠ 48 := fun z => by have := hz z; omega
        have h1 : 1 ≤ dg t a := by unfold dg; omega
        have h2 := dv_first (k := 20) h1
        have h3 := dv_mono2 t a (show 20 + 1 ≤ n by omega)
        exact ⟨fun z => by omega, fun _ => rfl⟩
/-- J: the digits become a head, unless they lead beyond -/
theorem z_j_whole_loop {t : List Nat} {a n : Nat} {neg : Bool} {out : List Nat} (ht : ∀ x ∈ t, x < 256) (han : a + n ≤ t.length) (hn : 1 ≤ n) (hdg : ∀ i, a ≤ i → i < a + n → isDg (gL t i) = true) (hz : t.getD a 0 = 48 → n = 1) (hout : out.length + 20 < 2 ^ 30) :
    ∀ (m k f : Nat) (σ : JSt), TpR (jf_tape σ) t → RowL 0 (jf_target σ) out → k + m = n → m < f → k ≤ 20 → (k = 20 → dv t a 20 ≤ lim neg) →
      (dv t a n ≤ lim neg → ∃ tg, jj_putWhole_L6 0 f (nI a) (nI (a + n)) (bI neg) (lN (dv t a k)) (nI (a + k)) σ = some (true, js_target σ tg) ∧ RowL 0 tg (out ++ hd (numTh neg (dv t a n)).1 (numTh neg (dv t a n)).2)) ∧
      (lim neg < dv t a n → jj_putWhole_L6 0 f (nI a) (nI (a + n)) (bI neg) (lN (dv t a k)) (nI (a + k)) σ = some (false, σ)) := by
  intro m
  have hlim : lim neg < 10 ^ 20 := by unfold lim; cases neg <;> decide
  have hlim2 : (10 : Nat) ^ 19 ≤ lim neg := by unfold lim; cases neg <;> decide
  have hfd := isDg_at ht (hdg a (Nat.le_refl _) (by omega))
  induction m with
  | zero =>
    intro k f σ hT hR hk hf hk20 h20
    obtain ⟨f, rfl⟩ : ∃ g, f = g + 1 := ⟨f - 1, by omega⟩
    have hkn : k = n := by omega
    subst hkn
    have hle := hT.2
    have hsmall : dv t a k ≤ lim neg := by
      have h10 := dv_lt ht k hdg
      by_cases c : k ≤ 19
      · have : (10 : Nat) ^ k ≤ 10 ^ 19 := Nat.pow_le_pow_right (by decide) c
        omega
      · have c2 : k = 20 := by omega
        subst c2
        exact h20 rfl
    obtain ⟨q1, q2⟩ := numTh_lt hsmall
    refine ⟨fun _ => ?_, fun z => by omega⟩
    show ∃ tg, jj_putWhole_b6 0 (jj_putWhole_L6 0 f) (nI a) (nI (a + k)) (bI neg) (lN (dv t a k)) (nI (a + k)) σ = some (true, js_target σ tg) ∧ _
    unfold jj_putWhole_b6
    rw [if_pos (nI_le (Nat.le_refl _) (by omega))]
    cases neg with
    | false =>
      rw [if_pos bI_f]
      obtain ⟨tg, e1, e2⟩ := putHead_row hR (by decide) (by decide) hout (t := 0) (u := dv t a k) (by decide) q2
      unfold jj_putWhole_b93
      rw [bd_of (show rr_putHead 0 (0 : Int32) (lN (dv t a k)) (jf_target σ) = some tg from e1)]
      exact ⟨tg, rfl, e2⟩
    | true =>
      rw [if_neg (by decide), bd_of (hT.at (by omega))]
      simp only []
      rw [js_tape_id, gL_in hfd.1]
      by_cases c : t.getD a 0 = 48
      · rw [if_pos (show nI (t.getD a 0) = 48 by rw [c]; rfl)]
        have hk1 := hz c
        subst hk1
        have e0 : dv t a 1 = 0 := by rw [dv_one]; unfold dg; omega
        obtain ⟨tg, e1, e2⟩ := putHead_row hR (by decide) (by decide) hout (t := 0) (u := dv t a 1) (by decide) (by omega)
        unfold jj_putWhole_b93
        rw [bd_of (show rr_putHead 0 (0 : Int32) (lN (dv t a 1)) (jf_target σ) = some tg from e1)]
        refine ⟨tg, rfl, ?_⟩
        rw [e0] at e2 ⊢
        exact e2
      · rw [if_neg (show ¬ nI (t.getD a 0) = (48 : Int32) from fun z => c ((nI_eq (b := 48) (by omega) (by decide)).mp z))]
        have hp : 1 ≤ dv t a k := dv_pos hn (by unfold dg; omega)
        have hth : numTh true (dv t a k) = (1, dv t a k - 1) := by unfold numTh; rw [if_pos ⟨rfl, by omega⟩]
        rw [hth] at q2 ⊢
        obtain ⟨tg, e1, e2⟩ := putHead_row hR (by decide) (by decide) hout (t := 1) (u := dv t a k - 1) (by decide) q2
        rw [lN_pred hp, bd_of (show rr_putHead 0 (1 : Int32) (lN (dv t a k - 1)) (jf_target σ) = some tg from e1)]
        exact ⟨tg, rfl, e2⟩
  | succ m ih =>
    intro k f σ hT hR hk hf hk20 h20
    obtain ⟨f, rfl⟩ : ∃ g, f = g + 1 := ⟨f - 1, by omega⟩
    have hle := hT.2
    have hd := hdg (a + k) (by omega) (by omega)
    have step : jj_putWhole_L6 0 (f + 1) (nI a) (nI (a + n)) (bI neg) (lN (dv t a k)) (nI (a + k)) σ = if eX1_isBeyond (lN (dv t a k)) (nI k) (nI (dg t (a + k))) (bI neg) = true then some (false, σ) else jj_putWhole_L6 0 f (nI a) (nI (a + n)) (bI neg) (lN (dv t a (k + 1))) (nI (a + (k + 1))) σ := by
      show jj_putWhole_b6 0 (jj_putWhole_L6 0 f) (nI a) (nI (a + n)) (bI neg) (lN (dv t a k)) (nI (a + k)) σ = _
      unfold jj_putWhole_b6
      rw [if_neg (nI_ge (by omega) (by omega)), bd_of (hT.at (by omega))]
      simp only [lt]
      rw [gL_sub48 ht hd, js_tape_id, pk_sub (by omega), show a + k - a = k by omega, nI_1, nI_l (by have := dg_lt ht hd; omega), show (10 : Int64) = lN 10 from rfl, lN_mul, lN_add, Nat.mul_comm (dv t a k) 10]
      rfl
    rw [step]
    by_cases c1 : k < 19
    · rw [beyond_small _ c1, if_neg (by decide)]
      exact ih (k + 1) f σ hT hR (by omega) (by omega) (by omega) (fun z => by omega)
    · by_cases c2 : k = 19
      · subst c2
        have hlt19 := dv_lt ht 19 (fun i g1 g2 => hdg i g1 (by omega))
        have e20 : dv t a 20 = 10 * dv t a 19 + dg t (a + 19) := rfl
        rw [beyond_19 hlt19 (dg_lt ht hd) neg]
        by_cases c3 : lim neg < 10 * dv t a 19 + dg t (a + 19)
        · rw [decide_eq_true c3, if_pos rfl]
          have := dv_mono2 t a (show 20 ≤ n by omega)
          exact ⟨fun z => by omega, fun _ => rfl⟩
        · rw [decide_eq_false c3, if_neg (by decide)]
          exact ih 20 f σ hT hR (by omega) (by omega) (by omega) (fun _ => by omega)
      · have c4 : k = 20 := by omega
        subst c4
        rw [beyond_big _ (by decide) (by decide), if_pos rfl]
        have hnz : t.getD a 0 ≠ 48 := fun z => by have := hz z; omega
        have h1 : 1 ≤ dg t a := by unfold dg; omega
        have h2 := dv_first (k := 20) h1
        have h3 := dv_mono2 t a (show 20 + 1 ≤ n by omega)
        exact ⟨fun z => by omega, fun _ => rfl⟩
theorem j_whole {t : List Nat} {a n : Nat} {neg : Bool} {out : List Nat} {σ : JSt} (hT : TpR (jf_tape σ) t) (hR : RowL 6000 (jf_target σ) out) (han : a + n ≤ t.length) (hn : 1 ≤ n) (hdg : ∀ i, a ≤ i → i < a + n → isDg (gL t i) = true) (hz : t.getD a 0 = 48 → n = 1) (hout : out.length + 20 < 2 ^ 30) :
      (dv t a n ≤ lim neg → ∃ tg, jj_putWhole 6000 (nI a) (nI (a + n)) (bI neg) σ = some (true, js_target σ tg) ∧ RowL 6000 tg (out ++ hd (numTh neg (dv t a n)).1 (numTh neg (dv t a n)).2)) ∧
      (lim neg < dv t a n → jj_putWhole 6000 (nI a) (nI (a + n)) (bI neg) σ = some (false, σ)) := by
  have := hT.2
  exact j_whole_loop hT.1.2.2 han hn hdg hz hout n 0 FU σ hT hR (by omega) (by show n < 100000; omega) (by omega) (fun z => by omega)

theorem z_j_whole {t : List Nat} {a n : Nat} {neg : Bool} {out : List Nat} {σ : JSt} (hT : TpR (jf_tape σ) t) (hR : RowL 0 (jf_target σ) out) (han : a + n ≤ t.length) (hn : 1 ≤ n) (hdg : ∀ i, a ≤ i → i < a + n → isDg (gL t i) = true) (hz : t.getD a 0 = 48 → n = 1) (hout : out.length + 20 < 2 ^ 30) :
      (dv t a n ≤ lim neg → ∃ tg, jj_putWhole 0 (nI a) (nI (a + n)) (bI neg) σ = some (true, js_target σ tg) ∧ RowL 0 tg (out ++ hd (numTh neg (dv t a n)).1 (numTh neg (dv t a n)).2)) ∧
      (lim neg < dv t a n → jj_putWhole 0 (nI a) (nI (a + n)) (bI neg) σ = some (false, σ)) := by
  have := hT.2
  exact z_j_whole_loop hT.1.2.2 han hn hdg hz hout n 0 FU σ hT hR (by omega) (by show n < 100000; omega) (by omega) (fun z => by omega)
