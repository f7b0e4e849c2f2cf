/-! PURE G: numbers in the reference; the number as both read it -/
def lt2 : Nat := 18446744073709551616
theorem pre_c : ∀ k, k < 20 → lt2 / 10 ^ (19 - k) = 10 * (lt2 / 10 ^ (20 - k)) + lt2 / 10 ^ (19 - k) % 10 := by decide +kernel
theorem sCh_c : ∀ k, k < 20 → sCh 4 (nI k) = nI (48 + lt2 / 10 ^ (19 - k) % 10) := by decide +kernel
theorem lt2_dm : ∀ j, j < 20 → lt2 / 10 ^ j * 10 ^ j ≤ lt2 ∧ lt2 < (lt2 / 10 ^ j + 1) * 10 ^ j := by decide +kernel
theorem lt2_0 : lt2 / 10 ^ 20 = 0 := by decide +kernel
/-- the sign of a comparison -/
def cmpI (V : Nat) : Int32 := if V < lt2 then -1 else if V = lt2 then 0 else 1
theorem m_order_loop {t : List Nat} {a : Nat} {σ : MSt} (hT : TpM σ t) (ha : a + 20 ≤ t.length) (hdg : ∀ i, a ≤ i → i < a + 20 → isDg (gL t i) = true) : ∀ (m k f : Nat), k + m = 20 → m < f → dv t a k = lt2 / 10 ^ (20 - k) → mm_order_L25 f (nI a) (nI k) σ = some (cmpI (dv t a 20), σ) := by
  obtain ⟨h1, h2, h3, h4⟩ := id hT
  intro m
  induction m with
  | zero =>
    intro k f hk hf hV
    obtain ⟨f, rfl⟩ : ∃ g, f = g + 1 := ⟨f - 1, by omega⟩
    have hk20 : k = 20 := by omega
    subst hk20
    show mm_order_b25 _ (nI a) (nI 20) σ = _
    unfold mm_order_b25
    rw [if_pos (by decide)]
    have e : dv t a 20 = lt2 := by rw [hV]; decide
    rw [e]
    rfl
  | succ m ih =>
    intro k f hk hf hV
    obtain ⟨f, rfl⟩ : ∃ g, f = g + 1 := ⟨f - 1, by omega⟩
    have hd := isDg_at h3 (hdg (a + k) (by omega) (by omega))
    have hc := pre_c k (by omega)
    have hdm := lt2_dm (19 - k) (by omega)
    have hc10 : lt2 / 10 ^ (19 - k) % 10 < 10 := Nat.mod_lt _ (by decide)
    have hV1 : dv t a (k + 1) = 10 * dv t a k + (t.getD (a + k) 0 - 48) := rfl
    have hup := dv_up h3 (a := a) (k := k + 1) (19 - k) (fun i g1 g2 => hdg i g1 (by omega))
    have hlo := dv_mono t a (k + 1) (19 - k)
    rw [show k + 1 + (19 - k) = 20 by omega] at hup hlo
    show mm_order_b25 (mm_order_L25 f) (nI a) (nI k) σ = _
    unfold mm_order_b25
    rw [if_neg (show ¬ (20 : Int32) ≤ nI k from nI_ge (b := 20) (by omega) (by decide)), ck_in (vp_in_nI (show k < sLn 4 from by show k < 20; omega) (by decide))]
    simp only [lt]
    rw [sCh_c k (by omega), nI_add, ck_in (vp_in_nI (by omega) (by decide)), ck_in (vp_in_nI (by omega) (by decide)), nI_clamp (by omega), h4 _ hd.1]
    by_cases c1 : t.getD (a + k) 0 = 48 + lt2 / 10 ^ (19 - k) % 10
    · rw [if_pos (by rw [c1]), nI_1]
      exact ih (k + 1) f (by omega) (by omega) (by rw [show 20 - (k + 1) = 19 - k by omega, hV1, hV]; omega)
    · rw [if_neg (fun z => c1 ((nI_eq (by omega) (by omega)).mp z))]
      by_cases c2 : 48 + lt2 / 10 ^ (19 - k) % 10 ≤ t.getD (a + k) 0
      · rw [if_pos (nI_le c2 (by omega))]
        have h5 : lt2 / 10 ^ (19 - k) + 1 ≤ dv t a (k + 1) := by rw [hV1, hV]; omega
        have h6 : lt2 < dv t a 20 := Nat.lt_of_lt_of_le hdm.2 (Nat.le_trans (Nat.mul_le_mul_right _ h5) hlo)
        unfold cmpI
        rw [if_neg (by omega), if_neg (by omega)]
      · rw [if_neg (nI_ge (by omega) (by omega))]
        have h5 : dv t a (k + 1) + 1 ≤ lt2 / 10 ^ (19 - k) := by rw [hV1, hV]; omega
        have h6 : dv t a 20 < lt2 := Nat.lt_of_lt_of_le hup (Nat.le_trans (Nat.mul_le_mul_right _ h5) hdm.1)
        unfold cmpI
        rw [if_pos h6]
theorem m_order {t : List Nat} {a n : Nat} {σ : MSt} (hT : TpM σ t) (ha : a + n ≤ t.length) (hn : 1 ≤ n) (hdg : ∀ i, a ≤ i → i < a + n → isDg (gL t i) = true) (hz : t.getD a 0 = 48 → n = 1) : mm_order (nI a) (nI (a + n)) σ = some (cmpI (dv t a n), σ) := by
  have hle := hT.2.1
  have hfd := isDg_at hT.2.2.1 (hdg a (Nat.le_refl _) (by omega))
  unfold mm_order
  simp only [lt]
  rw [pk_sub (by omega), show a + n - a = n by omega]
  by_cases c : n = 20
  · subst c
    rw [if_pos (by rfl)]
    exact m_order_loop hT ha hdg 20 0 FU (by omega) (by decide) (by rw [show 20 - 0 = 20 by rfl, lt2_0]; rfl)
  · rw [if_neg (show ¬ nI n = (20 : Int32) from fun z => c ((nI_eq (b := 20) (by omega) (by decide)).mp z))]
    have h10 := dv_lt hT.2.2.1 n hdg
    by_cases c2 : 20 ≤ n
    · rw [if_pos (show (20 : Int32) ≤ nI n from nI_le (a := 20) c2 (by omega))]
      have hnz : t.getD a 0 ≠ 48 := fun z => by have := hz z; omega
      have h1 : 1 ≤ dg t a := by unfold dg; omega
      have h2 := dv_first (k := 20) h1
      have h3 := dv_mono2 t a (show 20 + 1 ≤ n by omega)
      have h4 : lt2 < 10 ^ 20 := by decide
      unfold cmpI
      rw [if_neg (by omega), if_neg (by omega)]
    · rw [if_neg (show ¬ (20 : Int32) ≤ nI n from nI_ge (b := 20) (by omega) (by decide))]
      have h5 : (10 : Nat) ^ n ≤ 10 ^ 19 := Nat.pow_le_pow_right (by decide) (by omega)
      have h6 : (10 : Nat) ^ 19 < lt2 := by decide
      unfold cmpI
      rw [if_pos (by omega)]
/-- one thing more -/
def mT (σ : MSt) (s : Int32) (n : Int64) : MSt := ms_things (ms_places (ms_numbers (ms_sorts σ (upd (mf_sorts σ) (mf_things σ).toNatClampNeg s)) (vp_updL (mf_numbers σ) (mf_things σ).toNatClampNeg n)) (upd (mf_places σ) (mf_things σ).toNatClampNeg (mf_lettersMany σ))) (mf_things σ + 1)
theorem thing_eq {σ : MSt} (s : Int32) (n : Int64) (h : vp_in (mf_things σ) 4200) : mm_thing s n σ = some (mf_things σ + 1 - 1, mT σ s n) := by
  unfold mm_thing
  rw [ck_in h, ck_in h, ck_in h]
  rfl
theorem m_value_loop {t : List Nat} {a n : Nat} {σ : MSt} {a3 a4 : Int32} (hT : TpM σ t) (ha : a + n ≤ t.length) (hdg : ∀ i, a ≤ i → i < a + n → isDg (gL t i) = true) : ∀ (m k f : Nat), k + m = n → m < f → mm_whole_L30 f (nI (a + n)) a3 a4 (lN (dv t a k)) (nI (a + k)) σ = (if a3 = 0 then mm_whole_b92 (lN (dv t a n)) σ else (if lN (dv t a n) = (0 : Int64) then (if a4 = 0 then mm_whole_b79 (lN (dv t a n)) σ else mm_whole_b92 (lN (dv t a n)) σ) else mm_whole_b79 (lN (dv t a n)) σ)) := by
  obtain ⟨h1, h2, h3, h4⟩ := id hT
  intro m
  induction m with
  | zero =>
    intro k f hk hf
    obtain ⟨f, rfl⟩ : ∃ g, f = g + 1 := ⟨f - 1, by omega⟩
    have hkn : k = n := by omega
    subst hkn
    show mm_whole_b30 _ (nI (a + k)) a3 a4 _ (nI (a + k)) σ = _
    unfold mm_whole_b30
    rw [if_pos (nI_le (Nat.le_refl _) (by omega))]
  | succ m ih =>
    intro k f hk hf
    obtain ⟨f, rfl⟩ : ∃ g, f = g + 1 := ⟨f - 1, by omega⟩
    have hd := isDg_at h3 (hdg (a + k) (by omega) (by omega))
    show mm_whole_b30 (mm_whole_L30 f) (nI (a + n)) a3 a4 _ (nI (a + k)) σ = _
    unfold mm_whole_b30
    rw [if_neg (nI_ge (by omega) (by omega)), ck_in (vp_in_nI (by omega) (by decide)), nI_clamp (by omega), h4 _ hd.1]
    simp only [lt]
    have e : (10 : Int64) * lN (dv t a k) + (nI (t.getD (a + k) 0)).toInt64 - 48 = lN (dv t a (k + 1)) := by
      rw [nI_l (by omega), show (10 : Int64) = lN 10 from rfl, show (48 : Int64) = lN 48 from rfl, lN_mul, lN_add, lN_sub (by omega)]
      congr 1
      show _ = 10 * dv t a k + (t.getD (a + k) 0 - 48)
      omega
    rw [e, nI_1]
    exact ih (k + 1) f (by omega) (by omega)
theorem m_whole {t : List Nat} {a n : Nat} {neg : Bool} {σ : MSt} (hT : TpM σ t) (ha : a + n ≤ t.length) (hn : 1 ≤ n) (hdg : ∀ i, a ≤ i → i < a + n → isDg (gL t i) = true) (hz : t.getD a 0 = 48 → n = 1) (hth : vp_in (mf_things σ) 4200) :
    mm_whole (nI a) (nI (a + n)) (bI neg) σ = if dv t a n ≤ lim neg then some (true, mT σ (nI (numTh neg (dv t a n)).1) (lN (numTh neg (dv t a n)).2)) else some (false, σ) := by
  have hle := hT.2.1
  unfold mm_whole
  rw [bd_of (m_order hT ha hn hdg hz)]
  simp only []
  have hL := fun a4 => m_value_loop (a3 := bI neg) (a4 := a4) hT ha hdg n 0 FU (by omega) (by show n < 100000; omega)
  have hL' : ∀ a4, mm_whole_L30 FU (nI (a + n)) (bI neg) a4 (0 : Int64) (nI a) σ = (if bI neg = 0 then mm_whole_b92 (lN (dv t a n)) σ else (if lN (dv t a n) = (0 : Int64) then (if a4 = 0 then mm_whole_b79 (lN (dv t a n)) σ else mm_whole_b92 (lN (dv t a n)) σ) else mm_whole_b79 (lN (dv t a n)) σ)) := hL
  have e92 : ∀ V, mm_whole_b92 V σ = some (true, mT σ 0 V) := fun V => by unfold mm_whole_b92; rw [bd_of (thing_eq _ _ hth)]
  have e79 : ∀ V, mm_whole_b79 V σ = some (true, mT σ 1 (V - 1)) := fun V => by unfold mm_whole_b79; rw [bd_of (thing_eq _ _ hth)]
  unfold cmpI lim numTh
  by_cases c1 : dv t a n < lt2
  · rw [if_pos c1, if_neg (by decide), if_neg (by decide), hL']
    unfold lt2 at c1
    cases neg with
    | false =>
      rw [if_pos bI_f, e92, if_pos (by simp; omega)]
      simp
      rfl
    | true =>
      rw [if_neg (show ¬ bI true = 0 by decide), if_pos (show dv t a n ≤ (if true = true then 18446744073709551616 else 18446744073709551615) by rw [if_pos rfl]; omega)]
      by_cases c2 : dv t a n = 0
      · rw [c2, if_pos (show lN 0 = (0 : Int64) from rfl), if_neg (show ¬ (-1 : Int32) = 0 by decide), e92]
        rfl
      · rw [if_neg (show ¬ lN (dv t a n) = (0 : Int64) from fun z => c2 (by
          have := congrArg (fun x => x.toBitVec.toNat) z
          simp only [wb_tn c1] at this
          exact this)), e79, if_pos ⟨rfl, c2⟩, lN_pred (by omega)]
        rfl
  · rw [if_neg c1]
    by_cases c2 : dv t a n = lt2
    · rw [if_pos c2, if_neg (by decide), if_pos rfl, c2]
      cases neg with
      | false =>
        rw [if_pos bI_f]
        rfl
      | true =>
        rw [if_neg (by decide), hL', if_neg (by decide), c2, if_pos (by decide), if_pos rfl, e79]
        rfl
    · rw [if_neg c2, if_pos (by decide)]
      unfold lt2 at c1 c2
      rw [if_neg (by cases neg <;> simp <;> omega)]
