/-! PURE DD: signs, texts and words, written by the class -/
theorem rr_putN {r : RSt} {l : List Nat} (h : RowL 6000 r l) (hl : l.length < 2 ^ 30) {n : Nat} (hn : n < 256) {v : Int32} (hv : v = nI n) : ∃ r', rr_put 6000 v r = some r' ∧ RowL 6000 r' (l ++ [n]) := by
  have g := rr_put_row h (by decide) (by omega) v
  rw [hv, lowb_byte hn] at g
  rw [hv]
  exact g
theorem z_rr_putN {r : RSt} {l : List Nat} (h : RowL 0 r l) (hl : l.length < 2 ^ 30) {n : Nat} (hn : n < 256) {v : Int32} (hv : v = nI n) : ∃ r', rr_put 0 v r = some r' ∧ RowL 0 r' (l ++ [n]) := by
  have g := rr_put_row h (by decide) (by omega) v
  rw [hv, lowb_byte hn] at g
  rw [hv]
  exact g
theorem letK : ∀ c, c < 128 → (eX0_letterOf (nI c) = -1 ∧ 32 ≤ c ∧ eJ c = [c]) ∨ (eX0_letterOf (nI c) = -1 ∧ c < 32 ∧ eJ c = [92, 117, 48, 48, hxd (c / 16), hxd (c % 16)]) ∨ (∃ l, l < 128 ∧ eX0_letterOf (nI c) = nI l ∧ eJ c = [92, l]) := by decide +kernel
theorem hexK : ∀ k, k < 16 → sCh 3 (nI k) = nI (hxd k) ∧ hxd k < 256 := by decide +kernel
theorem shrK : ∀ c, c < 128 → ((nI c >>> ((4 : Int32) &&& 31)) &&& (15 : Int32)) = nI (c / 16) ∧ (nI c &&& (15 : Int32)) = nI (c % 16) := by decide +kernel
theorem len_snoc (l : List Nat) (n : Nat) : (l ++ [n]).length = l.length + 1 := by rw [List.length_append]; rfl
theorem k_short {σ : KSt} {out : List Nat} {c : Nat} (hc : c < 128) (hR : RowL 6000 (kf_target σ) out) (ho : out.length ≤ 200000) : ∃ tg, kk_putShortSign 6000 (nI c) σ = some (ks_target σ tg) ∧ RowL 6000 tg (out ++ eJ c) := by
  unfold kk_putShortSign
  simp only [lt]
  rcases letK c hc with ⟨e1, e2, e3⟩ | ⟨e1, e2, e3⟩ | ⟨l, h1, e1, e3⟩
  · rw [e1, if_pos rfl, if_pos (show (32 : Int32) ≤ nI c from nI_le (a := 32) e2 (by omega)), e3]
    obtain ⟨r1, g1, q1⟩ := rr_putN hR (by omega) (n := c) (by omega) rfl
    rw [bd_of g1]
    exact ⟨r1, rfl, q1⟩
  · rw [e1, if_pos rfl, if_neg (show ¬ (32 : Int32) ≤ nI c from nI_ge (b := 32) e2 (by decide)), e3]
    obtain ⟨r1, g1, q1⟩ := rr_putN hR (by omega) (n := 92) (v := 92) (by decide) rfl
    obtain ⟨r2, g2, q2⟩ := rr_putN q1 (by simp only [len_snoc]; omega) (n := 117) (v := 117) (by decide) rfl
    obtain ⟨r3, g3, q3⟩ := rr_putN q2 (by simp only [len_snoc]; omega) (n := 48) (v := 48) (by decide) rfl
    obtain ⟨r4, g4, q4⟩ := rr_putN q3 (by simp only [len_snoc]; omega) (n := 48) (v := 48) (by decide) rfl
    have h16 := hexK (c / 16) (by omega)
    have h15 := hexK (c % 16) (by omega)
    have hs := shrK c hc
    obtain ⟨r5, g5, q5⟩ := rr_putN q4 (by simp only [len_snoc]; omega) (n := hxd (c / 16)) h16.2 h16.1
    obtain ⟨r6, g6, q6⟩ := rr_putN q5 (by simp only [len_snoc]; omega) (n := hxd (c % 16)) h15.2 h15.1
    rw [bd_of g1, bd_of g2, bd_of g3, bd_of g4, hs.1, hs.2, ck_in (vp_in_nI (by show c / 16 < 16; omega) (by decide)), bd_of g5, ck_in (vp_in_nI (by show c % 16 < 16; omega) (by decide)), bd_of g6]
    refine ⟨r6, rfl, ?_⟩
    simp only [List.append_assoc] at q6
    exact q6
  · have hne : ¬ nI l = (-1 : Int32) := nI_m1 (by omega)
    obtain ⟨r1, g1, q1⟩ := rr_putN hR (by omega) (n := 92) (v := 92) (by decide) rfl
    obtain ⟨r2, g2, q2⟩ := rr_putN q1 (by simp only [len_snoc]; omega) (n := l) (by omega) rfl
    rw [e1, if_neg hne, bd_of g1, bd_of g2, e3]
    refine ⟨r2, rfl, ?_⟩
    rw [List.append_assoc] at q2
    exact q2
theorem z_k_short {σ : KSt} {out : List Nat} {c : Nat} (hc : c < 128) (hR : RowL 0 (kf_target σ) out) (ho : out.length ≤ 200000) : ∃ tg, kk_putShortSign 0 (nI c) σ = some (ks_target σ tg) ∧ RowL 0 tg (out ++ eJ c) := by
  unfold kk_putShortSign
  simp only [lt]
  rcases letK c hc with ⟨e1, e2, e3⟩ | ⟨e1, e2, e3⟩ | ⟨l, h1, e1, e3⟩
  · rw [e1, if_pos rfl, if_pos (show (32 : Int32) ≤ nI c from nI_le (a := 32) e2 (by omega)), e3]
    obtain ⟨r1, g1, q1⟩ := z_rr_putN hR (by omega) (n := c) (by omega) rfl
    rw [bd_of g1]
    exact ⟨r1, rfl, q1⟩
  · rw [e1, if_pos rfl, if_neg (show ¬ (32 : Int32) ≤ nI c from nI_ge (b := 32) e2 (by decide)), e3]
    obtain ⟨r1, g1, q1⟩ := z_rr_putN hR (by omega) (n := 92) (v := 92) (by decide) rfl
    obtain ⟨r2, g2, q2⟩ := z_rr_putN q1 (by simp only [len_snoc]; omega) (n := 117) (v := 117) (by decide) rfl
    obtain ⟨r3, g3, q3⟩ := z_rr_putN q2 (by simp only [len_snoc]; omega) (n := 48) (v := 48) (by decide) rfl
    obtain ⟨r4, g4, q4⟩ := z_rr_putN q3 (by simp only [len_snoc]; omega) (n := 48) (v := 48) (by decide) rfl
    have h16 := hexK (c / 16) (by omega)
    have h15 := hexK (c % 16) (by omega)
    have hs := shrK c hc
    obtain ⟨r5, g5, q5⟩ := z_rr_putN q4 (by simp only [len_snoc]; omega) (n := hxd (c / 16)) h16.2 h16.1
    obtain ⟨r6, g6, q6⟩ := z_rr_putN q5 (by simp only [len_snoc]; omega) (n := hxd (c % 16)) h15.2 h15.1
    rw [bd_of g1, bd_of g2, bd_of g3, bd_of g4, hs.1, hs.2, ck_in (vp_in_nI (by show c / 16 < 16; omega) (by decide)), bd_of g5, ck_in (vp_in_nI (by show c % 16 < 16; omega) (by decide)), bd_of g6]
    refine ⟨r6, rfl, ?_⟩
    simp only [List.append_assoc] at q6
    exact q6
  · have hne : ¬ nI l = (-1 : Int32) := nI_m1 (by omega)
    obtain ⟨r1, g1, q1⟩ := z_rr_putN hR (by omega) (n := 92) (v := 92) (by decide) rfl
    obtain ⟨r2, g2, q2⟩ := z_rr_putN q1 (by simp only [len_snoc]; omega) (n := l) (by omega) rfl
    rw [e1, if_neg hne, bd_of g1, bd_of g2, e3]
    refine ⟨r2, rfl, ?_⟩
    rw [List.append_assoc] at q2
    exact q2
theorem eJ_hi {c : Nat} (h : 128 ≤ c) : eJ c = [c] := by
  unfold eJ
  rw [if_neg (by omega), if_neg (by omega), if_neg (by omega), if_neg (by omega), if_neg (by omega), if_neg (by omega), if_neg (by omega)]
theorem esc_hi : ∀ l : List Nat, (∀ x ∈ l, 128 ≤ x) → esc l = l := by
  intro l
  induction l with
  | nil => intro _; rfl
  | cons x l ih =>
    intro h
    show eJ x ++ esc l = x :: l
    rw [eJ_hi (h x (List.mem_cons_self ..)), ih (fun y hy => h y (List.mem_cons_of_mem _ hy))]
    rfl
theorem esc_1 (c : Nat) : esc [c] = eJ c := List.append_nil _
theorem sl_app (t : List Nat) (p a b : Nat) : sl t p (a + b) = sl t p a ++ sl t (p + a) b := by
  unfold sl
  rw [List.take_add, List.drop_drop]
/-- a sign: one byte below 128, or more from 128 on -/
theorem sgn_cases {t : List Nat} {p e : Nat} (h0 : sgn t p e ≠ 0) : (sgn t p e = 1 ∧ t.getD p 0 < 128) ∨ (2 ≤ sgn t p e ∧ ∀ k, k < sgn t p e → 128 ≤ t.getD (p + k) 0) := by
  unfold sgn at h0 ⊢
  by_cases c1 : t.getD p 0 < 128
  · rw [if_pos c1]
    exact Or.inl ⟨rfl, c1⟩
  rw [if_neg c1] at h0 ⊢
  by_cases c2 : t.getD p 0 < 194
  · rw [if_pos c2] at h0; exact absurd rfl h0
  rw [if_neg c2] at h0 ⊢
  by_cases c3 : 244 < t.getD p 0
  · rw [if_pos c3] at h0; exact absurd rfl h0
  rw [if_neg c3] at h0 ⊢
  split at h0
  · rename_i h
    rw [if_pos h]
    obtain ⟨h1, h2, h3⟩ := h
    have g1 := (flw_t.mp h1).2.1
    have hlo : 128 ≤ loSg (t.getD p 0) := by
      unfold loSg
      repeat' split
      all_goals omega
    have hn : 2 ≤ nSg (t.getD p 0) ∧ nSg (t.getD p 0) ≤ 4 := by
      unfold nSg
      repeat' split
      all_goals omega
    refine Or.inr ⟨hn.1, fun k hk => ?_⟩
    have k4 : k = 0 ∨ k = 1 ∨ k = 2 ∨ k = 3 := by omega
    rcases k4 with rfl | rfl | rfl | rfl
    · rw [Nat.add_zero]; omega
    · omega
    · have := h2.elim (fun z => by omega) (fun z => (flw_t.mp z).2.1)
      omega
    · have := h3.elim (fun z => by omega) (fun z => (flw_t.mp z).2.1)
      omega
  · exact absurd rfl h0
theorem mem_sl_get {t : List Nat} {p n x : Nat} (hp : p + n ≤ t.length) (h : x ∈ sl t p n) : ∃ k, k < n ∧ x = t.getD (p + k) 0 := by
  induction n generalizing p with
  | zero => rw [sl_0] at h; exact absurd h List.not_mem_nil
  | succ n ih =>
    rw [sl_cons (by omega)] at h
    rcases List.mem_cons.mp h with e | e
    · exact ⟨0, by omega, e⟩
    · obtain ⟨k, h1, h2⟩ := ih (p := p + 1) (by omega) e
      exact ⟨k + 1, by omega, by rw [h2, show p + 1 + k = p + (k + 1) by omega]⟩
section TXK
variable {t : List Nat}
theorem k_copy {p n : Nat} (hpn : p + n ≤ t.length) : ∀ (m i f : Nat) (σ : KSt) (out : List Nat), i + m = n → m < f → TpR (kf_tape σ) t → kf_place σ = nI p → RowL 6000 (kf_target σ) out → out.length + m ≤ 200000 → ∃ tg, kk_putSign_L25 6000 f (nI n) (nI i) σ = some (ks_place (ks_target σ tg) (nI (p + n))) ∧ RowL 6000 tg (out ++ sl t (p + i) m) := by
  intro m
  induction m with
  | zero =>
    intro i f σ out him hf hT hpl hR ho
    obtain ⟨f, rfl⟩ : ∃ g, f = g + 1 := ⟨f - 1, by omega⟩
    have hle := hT.2
    refine ⟨kf_target σ, ?_, by rw [sl_0, List.append_nil]; exact hR⟩
    show kk_putSign_b25 6000 _ _ _ σ = _
    unfold kk_putSign_b25 kk_putSign_b56
    rw [if_pos (nI_le (by omega) (by omega)), hpl, nI_add]
    rfl
  | succ m ih =>
    intro i f σ out him hf hT hpl hR ho
    obtain ⟨f, rfl⟩ : ∃ g, f = g + 1 := ⟨f - 1, by omega⟩
    have hle := hT.2
    have hb := getD_lt hT.1.2.2 (p + i)
    show ∃ tg, kk_putSign_b25 6000 (kk_putSign_L25 6000 f) (nI n) (nI i) σ = _ ∧ _
    unfold kk_putSign_b25
    rw [if_neg (nI_ge (by omega) (by omega)), hpl, nI_add, bd_of (hT.at (by omega)), gL_in (by omega)]
    simp only []
    obtain ⟨r1, e1, g1⟩ := rr_putN hR (by omega) (n := t.getD (p + i) 0) hb rfl
    rw [bd_of e1]
    simp only [lt]
    rw [nI_1, ks_tape_id]
    obtain ⟨tg, e2, g2⟩ := ih (i + 1) f (ks_target σ r1) _ (by omega) (by omega) (by simp only [kG_depthLimit_depthLimit, kG_depthLimit_place, kG_depthLimit_faultKind, kG_depthLimit_faultPlace, kG_depthLimit_type, kG_depthLimit_number, kG_depthLimit_tape, kG_depthLimit_target, kG_place_depthLimit, kG_place_place, kG_place_faultKind, kG_place_faultPlace, kG_place_type, kG_place_number, kG_place_tape, kG_place_target, kG_faultKind_depthLimit, kG_faultKind_place, kG_faultKind_faultKind, kG_faultKind_faultPlace, kG_faultKind_type, kG_faultKind_number, kG_faultKind_tape, kG_faultKind_target, kG_faultPlace_depthLimit, kG_faultPlace_place, kG_faultPlace_faultKind, kG_faultPlace_faultPlace, kG_faultPlace_type, kG_faultPlace_number, kG_faultPlace_tape, kG_faultPlace_target, kG_type_depthLimit, kG_type_place, kG_type_faultKind, kG_type_faultPlace, kG_type_type, kG_type_number, kG_type_tape, kG_type_target, kG_number_depthLimit, kG_number_place, kG_number_faultKind, kG_number_faultPlace, kG_number_type, kG_number_number, kG_number_tape, kG_number_target, kG_tape_depthLimit, kG_tape_place, kG_tape_faultKind, kG_tape_faultPlace, kG_tape_type, kG_tape_number, kG_tape_tape, kG_tape_target, kG_target_depthLimit, kG_target_place, kG_target_faultKind, kG_target_faultPlace, kG_target_type, kG_target_number, kG_target_tape, kG_target_target]; exact hT) (by simp only [kG_depthLimit_depthLimit, kG_depthLimit_place, kG_depthLimit_faultKind, kG_depthLimit_faultPlace, kG_depthLimit_type, kG_depthLimit_number, kG_depthLimit_tape, kG_depthLimit_target, kG_place_depthLimit, kG_place_place, kG_place_faultKind, kG_place_faultPlace, kG_place_type, kG_place_number, kG_place_tape, kG_place_target, kG_faultKind_depthLimit, kG_faultKind_place, kG_faultKind_faultKind, kG_faultKind_faultPlace, kG_faultKind_type, kG_faultKind_number, kG_faultKind_tape, kG_faultKind_target, kG_faultPlace_depthLimit, kG_faultPlace_place, kG_faultPlace_faultKind, kG_faultPlace_faultPlace, kG_faultPlace_type, kG_faultPlace_number, kG_faultPlace_tape, kG_faultPlace_target, kG_type_depthLimit, kG_type_place, kG_type_faultKind, kG_type_faultPlace, kG_type_type, kG_type_number, kG_type_tape, kG_type_target, kG_number_depthLimit, kG_number_place, kG_number_faultKind, kG_number_faultPlace, kG_number_type, kG_number_number, kG_number_tape, kG_number_target, kG_tape_depthLimit, kG_tape_place, kG_tape_faultKind, kG_tape_faultPlace, kG_tape_type, kG_tape_number, kG_tape_tape, kG_tape_target, kG_target_depthLimit, kG_target_place, kG_target_faultKind, kG_target_faultPlace, kG_target_type, kG_target_number, kG_target_tape, kG_target_target]; exact hpl) (by simp only [kG_depthLimit_depthLimit, kG_depthLimit_place, kG_depthLimit_faultKind, kG_depthLimit_faultPlace, kG_depthLimit_type, kG_depthLimit_number, kG_depthLimit_tape, kG_depthLimit_target, kG_place_depthLimit, kG_place_place, kG_place_faultKind, kG_place_faultPlace, kG_place_type, kG_place_number, kG_place_tape, kG_place_target, kG_faultKind_depthLimit, kG_faultKind_place, kG_faultKind_faultKind, kG_faultKind_faultPlace, kG_faultKind_type, kG_faultKind_number, kG_faultKind_tape, kG_faultKind_target, kG_faultPlace_depthLimit, kG_faultPlace_place, kG_faultPlace_faultKind, kG_faultPlace_faultPlace, kG_faultPlace_type, kG_faultPlace_number, kG_faultPlace_tape, kG_faultPlace_target, kG_type_depthLimit, kG_type_place, kG_type_faultKind, kG_type_faultPlace, kG_type_type, kG_type_number, kG_type_tape, kG_type_target, kG_number_depthLimit, kG_number_place, kG_number_faultKind, kG_number_faultPlace, kG_number_type, kG_number_number, kG_number_tape, kG_number_target, kG_tape_depthLimit, kG_tape_place, kG_tape_faultKind, kG_tape_faultPlace, kG_tape_type, kG_tape_number, kG_tape_tape, kG_tape_target, kG_target_depthLimit, kG_target_place, kG_target_faultKind, kG_target_faultPlace, kG_target_type, kG_target_number, kG_target_tape, kG_target_target]; exact g1) (by rw [len_snoc]; omega)
    refine ⟨tg, e2, ?_⟩
    rw [sl_cons (by omega)]
    rw [List.append_assoc] at g2
    exact g2
theorem z_k_copy {p n : Nat} (hpn : p + n ≤ t.length) : ∀ (m i f : Nat) (σ : KSt) (out : List Nat), i + m = n → m < f → TpR (kf_tape σ) t → kf_place σ = nI p → RowL 0 (kf_target σ) out → out.length + m ≤ 200000 → ∃ tg, kk_putSign_L25 0 f (nI n) (nI i) σ = some (ks_place (ks_target σ tg) (nI (p + n))) ∧ RowL 0 tg (out ++ sl t (p + i) m) := by
  intro m
  induction m with
  | zero =>
    intro i f σ out him hf hT hpl hR ho
    obtain ⟨f, rfl⟩ : ∃ g, f = g + 1 := ⟨f - 1, by omega⟩
    have hle := hT.2
    refine ⟨kf_target σ, ?_, by rw [sl_0, List.append_nil]; exact hR⟩
    show kk_putSign_b25 0 _ _ _ σ = _
    unfold kk_putSign_b25 kk_putSign_b56
    rw [if_pos (nI_le (by omega) (by omega)), hpl, nI_add]
    rfl
  | succ m ih =>
    intro i f σ out him hf hT hpl hR ho
    obtain ⟨f, rfl⟩ : ∃ g, f = g + 1 := ⟨f - 1, by omega⟩
    have hle := hT.2
    have hb := getD_lt hT.1.2.2 (p + i)
    show ∃ tg, kk_putSign_b25 0 (kk_putSign_L25 0 f) (nI n) (nI i) σ = _ ∧ _
    unfold kk_putSign_b25
    rw [if_neg (nI_ge (by omega) (by omega)), hpl, nI_add, bd_of (hT.at (by omega)), gL_in (by omega)]
    simp only []
    obtain ⟨r1, e1, g1⟩ := z_rr_putN hR (by omega) (n := t.getD (p + i) 0) hb rfl
    rw [bd_of e1]
    simp only [lt]
    rw [nI_1, ks_tape_id]
    obtain ⟨tg, e2, g2⟩ := ih (i + 1) f (ks_target σ r1) _ (by omega) (by omega) (by simp only [kG_depthLimit_depthLimit, kG_depthLimit_place, kG_depthLimit_faultKind, kG_depthLimit_faultPlace, kG_depthLimit_type, kG_depthLimit_number, kG_depthLimit_tape, kG_depthLimit_target, kG_place_depthLimit, kG_place_place, kG_place_faultKind, kG_place_faultPlace, kG_place_type, kG_place_number, kG_place_tape, kG_place_target, kG_faultKind_depthLimit, kG_faultKind_place, kG_faultKind_faultKind, kG_faultKind_faultPlace, kG_faultKind_type, kG_faultKind_number, kG_faultKind_tape, kG_faultKind_target, kG_faultPlace_depthLimit, kG_faultPlace_place, kG_faultPlace_faultKind, kG_faultPlace_faultPlace, kG_faultPlace_type, kG_faultPlace_number, kG_faultPlace_tape, kG_faultPlace_target, kG_type_depthLimit, kG_type_place, kG_type_faultKind, kG_type_faultPlace, kG_type_type, kG_type_number, kG_type_tape, kG_type_target, kG_number_depthLimit, kG_number_place, kG_number_faultKind, kG_number_faultPlace, kG_number_type, kG_number_number, kG_number_tape, kG_number_target, kG_tape_depthLimit, kG_tape_place, kG_tape_faultKind, kG_tape_faultPlace, kG_tape_type, kG_tape_number, kG_tape_tape, kG_tape_target, kG_target_depthLimit, kG_target_place, kG_target_faultKind, kG_target_faultPlace, kG_target_type, kG_target_number, kG_target_tape, kG_target_target]; exact hT) (by simp only [kG_depthLimit_depthLimit, kG_depthLimit_place, kG_depthLimit_faultKind, kG_depthLimit_faultPlace, kG_depthLimit_type, kG_depthLimit_number, kG_depthLimit_tape, kG_depthLimit_target, kG_place_depthLimit, kG_place_place, kG_place_faultKind, kG_place_faultPlace, kG_place_type, kG_place_number, kG_place_tape, kG_place_target, kG_faultKind_depthLimit, kG_faultKind_place, kG_faultKind_faultKind, kG_faultKind_faultPlace, kG_faultKind_type, kG_faultKind_number, kG_faultKind_tape, kG_faultKind_target, kG_faultPlace_depthLimit, kG_faultPlace_place, kG_faultPlace_faultKind, kG_faultPlace_faultPlace, kG_faultPlace_type, kG_faultPlace_number, kG_faultPlace_tape, kG_faultPlace_target, kG_type_depthLimit, kG_type_place, kG_type_faultKind, kG_type_faultPlace, kG_type_type, kG_type_number, kG_type_tape, kG_type_target, kG_number_depthLimit, kG_number_place, kG_number_faultKind, kG_number_faultPlace, kG_number_type, kG_number_number, kG_number_tape, kG_number_target, kG_tape_depthLimit, kG_tape_place, kG_tape_faultKind, kG_tape_faultPlace, kG_tape_type, kG_tape_number, kG_tape_tape, kG_tape_target, kG_target_depthLimit, kG_target_place, kG_target_faultKind, kG_target_faultPlace, kG_target_type, kG_target_number, kG_target_tape, kG_target_target]; exact hpl) (by simp only [kG_depthLimit_depthLimit, kG_depthLimit_place, kG_depthLimit_faultKind, kG_depthLimit_faultPlace, kG_depthLimit_type, kG_depthLimit_number, kG_depthLimit_tape, kG_depthLimit_target, kG_place_depthLimit, kG_place_place, kG_place_faultKind, kG_place_faultPlace, kG_place_type, kG_place_number, kG_place_tape, kG_place_target, kG_faultKind_depthLimit, kG_faultKind_place, kG_faultKind_faultKind, kG_faultKind_faultPlace, kG_faultKind_type, kG_faultKind_number, kG_faultKind_tape, kG_faultKind_target, kG_faultPlace_depthLimit, kG_faultPlace_place, kG_faultPlace_faultKind, kG_faultPlace_faultPlace, kG_faultPlace_type, kG_faultPlace_number, kG_faultPlace_tape, kG_faultPlace_target, kG_type_depthLimit, kG_type_place, kG_type_faultKind, kG_type_faultPlace, kG_type_type, kG_type_number, kG_type_tape, kG_type_target, kG_number_depthLimit, kG_number_place, kG_number_faultKind, kG_number_faultPlace, kG_number_type, kG_number_number, kG_number_tape, kG_number_target, kG_tape_depthLimit, kG_tape_place, kG_tape_faultKind, kG_tape_faultPlace, kG_tape_type, kG_tape_number, kG_tape_tape, kG_tape_target, kG_target_depthLimit, kG_target_place, kG_target_faultKind, kG_target_faultPlace, kG_target_type, kG_target_number, kG_target_tape, kG_target_target]; exact g1) (by rw [len_snoc]; omega)
    refine ⟨tg, e2, ?_⟩
    rw [sl_cons (by omega)]
    rw [List.append_assoc] at g2
    exact g2
theorem k_putSign {σ : KSt} {out : List Nat} {p e : Nat} (hT : TpR (kf_tape σ) t) (hpl : kf_place σ = nI p) (hp : p < e) (he : e ≤ t.length) (h0 : sgn t p e ≠ 0) (hR : RowL 6000 (kf_target σ) out) (ho : out.length + 10 ≤ 200000) : ∃ tg, kk_putSign 6000 (nI (sgn t p e)) σ = some (ks_place (ks_target σ tg) (nI (p + sgn t p e))) ∧ RowL 6000 tg (out ++ esc (sl t p (sgn t p e))) := by
  have hle := hT.2
  have hs := sgn_bd t p e hp
  unfold kk_putSign
  rcases sgn_cases h0 with ⟨e1, h1⟩ | ⟨h2, h3⟩
  · rw [e1, if_pos (show nI 1 = (1 : Int32) from rfl), hpl, bd_of (hT.at (by omega)), gL_in (by omega)]
    simp only []
    rw [ks_tape_id]
    obtain ⟨tg, g1, q1⟩ := k_short h1 hR (by omega)
    rw [bd_of g1]
    unfold kk_putSign_b56
    refine ⟨tg, ?_, ?_⟩
    · rw [show kf_place (ks_target σ tg) = nI p from hpl, nI_add]
    · rw [sl_cons (by omega), sl_0, esc_1]
      exact q1
  · rw [if_neg (show ¬ nI (sgn t p e) = (1 : Int32) from fun z => by have := (nI_eq (b := 1) (by omega) (by decide)).mp z; omega)]
    obtain ⟨tg, g1, q1⟩ := k_copy (p := p) (n := sgn t p e) (by omega) (sgn t p e) 0 FU σ out (by omega) (by show _ < 100000; omega) hT hpl hR (by omega)
    refine ⟨tg, g1, ?_⟩
    rw [esc_hi (sl t p (sgn t p e)) (fun x hx => by
      obtain ⟨k, hk, ex⟩ := mem_sl_get (by omega) hx
      rw [ex]
      exact h3 k hk)]
    exact q1
theorem z_k_putSign {σ : KSt} {out : List Nat} {p e : Nat} (hT : TpR (kf_tape σ) t) (hpl : kf_place σ = nI p) (hp : p < e) (he : e ≤ t.length) (h0 : sgn t p e ≠ 0) (hR : RowL 0 (kf_target σ) out) (ho : out.length + 10 ≤ 200000) : ∃ tg, kk_putSign 0 (nI (sgn t p e)) σ = some (ks_place (ks_target σ tg) (nI (p + sgn t p e))) ∧ RowL 0 tg (out ++ esc (sl t p (sgn t p e))) := by
  have hle := hT.2
  have hs := sgn_bd t p e hp
  unfold kk_putSign
  rcases sgn_cases h0 with ⟨e1, h1⟩ | ⟨h2, h3⟩
  · rw [e1, if_pos (show nI 1 = (1 : Int32) from rfl), hpl, bd_of (hT.at (by omega)), gL_in (by omega)]
    simp only []
    rw [ks_tape_id]
    obtain ⟨tg, g1, q1⟩ := z_k_short h1 hR (by omega)
    rw [bd_of g1]
    unfold kk_putSign_b56
    refine ⟨tg, ?_, ?_⟩
    · rw [show kf_place (ks_target σ tg) = nI p from hpl, nI_add]
    · rw [sl_cons (by omega), sl_0, esc_1]
      exact q1
  · rw [if_neg (show ¬ nI (sgn t p e) = (1 : Int32) from fun z => by have := (nI_eq (b := 1) (by omega) (by decide)).mp z; omega)]
    obtain ⟨tg, g1, q1⟩ := z_k_copy (p := p) (n := sgn t p e) (by omega) (sgn t p e) 0 FU σ out (by omega) (by show _ < 100000; omega) hT hpl hR (by omega)
    refine ⟨tg, g1, ?_⟩
    rw [esc_hi (sl t p (sgn t p e)) (fun x hx => by
      obtain ⟨k, hk, ex⟩ := mem_sl_get (by omega) hx
      rw [ex]
      exact h3 k hk)]
    exact q1
theorem isWithin_eq {v n : Nat} (hv : v < 2 ^ 64) (hn : n < 2 ^ 31) : eX0_isWithin (lN v) (nI n) = decide (v ≤ n) := by
  unfold eX0_isWithin
  rw [nI_l hn]
  by_cases c : v < 2 ^ 63
  · rw [if_neg (lN_nneg c)]
    by_cases c2 : v ≤ n
    · rw [if_neg (fun z => by have := (pk_lLT (by omega) c).mp z; omega), decide_eq_true c2]
    · rw [if_pos ((pk_lLT (by omega) c).mpr (by omega)), decide_eq_false c2]
  · rw [if_pos (lN_neg (by omega) hv), decide_eq_false (by omega)]
theorem k_text_loop {q v e : Nat} (he : e = q + v) (hel : e ≤ t.length) : ∀ (m i f : Nat) (σ : KSt) (p : Nat) (acc : List Nat), e - p < m → m < f → q + i ≤ p → p ≤ e → TpR (kf_tape σ) t → kf_place σ = nI p → RowL 6000 (kf_target σ) acc → acc.length + 24 * (e - p) ≤ 99000 → match sTxF t e m p with
    | some x => KBad σ (3, x) (kk_readText_L59 6000 f (nI v) (nI e) (nI i) σ)
    | none => ∃ σ', kk_readText_L59 6000 f (nI v) (nI e) (nI i) σ = some (true, σ') ∧ KQ σ σ' ∧ kf_place σ' = nI e ∧ RowL 6000 (kf_target σ') (acc ++ (esc (sl t p (e - p)) ++ [34])) := by
  intro m
  induction m with
  | zero => intro i f σ p acc h; omega
  | succ m ih =>
    intro i f σ p acc hm hf hi hp hT hpl hR ho
    obtain ⟨f, rfl⟩ : ∃ g, f = g + 1 := ⟨f - 1, by omega⟩
    have hle := hT.2
    unfold sTxF
    by_cases c : e ≤ p
    · have ep : p = e := by omega
      rw [if_pos c]
      have hb : kk_readText_L59 6000 (f + 1) (nI v) (nI e) (nI i) σ = kk_readText_b113 6000 σ := by
        show kk_readText_b59 6000 (kk_readText_L59 6000 f) _ _ _ σ = _
        unfold kk_readText_b59
        by_cases ci : v ≤ i
        · rw [if_pos (nI_le ci (by omega))]
        · rw [if_neg (nI_ge (by omega) (by omega)), hpl, if_pos (nI_le c (by omega))]
      show ∃ σ', kk_readText_L59 6000 (f + 1) (nI v) (nI e) (nI i) σ = some (true, σ') ∧ _
      rw [hb]
      unfold kk_readText_b113
      obtain ⟨r1, g1, q1⟩ := rr_putN hR (by omega) (n := 34) (v := 34) (by decide) rfl
      rw [bd_of g1]
      refine ⟨_, rfl, ?_, ?_, ?_⟩
      · unfold KQ KFr
        simp only [kG_depthLimit_depthLimit, kG_depthLimit_place, kG_depthLimit_faultKind, kG_depthLimit_faultPlace, kG_depthLimit_type, kG_depthLimit_number, kG_depthLimit_tape, kG_depthLimit_target, kG_place_depthLimit, kG_place_place, kG_place_faultKind, kG_place_faultPlace, kG_place_type, kG_place_number, kG_place_tape, kG_place_target, kG_faultKind_depthLimit, kG_faultKind_place, kG_faultKind_faultKind, kG_faultKind_faultPlace, kG_faultKind_type, kG_faultKind_number, kG_faultKind_tape, kG_faultKind_target, kG_faultPlace_depthLimit, kG_faultPlace_place, kG_faultPlace_faultKind, kG_faultPlace_faultPlace, kG_faultPlace_type, kG_faultPlace_number, kG_faultPlace_tape, kG_faultPlace_target, kG_type_depthLimit, kG_type_place, kG_type_faultKind, kG_type_faultPlace, kG_type_type, kG_type_number, kG_type_tape, kG_type_target, kG_number_depthLimit, kG_number_place, kG_number_faultKind, kG_number_faultPlace, kG_number_type, kG_number_number, kG_number_tape, kG_number_target, kG_tape_depthLimit, kG_tape_place, kG_tape_faultKind, kG_tape_faultPlace, kG_tape_type, kG_tape_number, kG_tape_tape, kG_tape_target, kG_target_depthLimit, kG_target_place, kG_target_faultKind, kG_target_faultPlace, kG_target_type, kG_target_number, kG_target_tape, kG_target_target, and_self]
      · simp only [kG_depthLimit_depthLimit, kG_depthLimit_place, kG_depthLimit_faultKind, kG_depthLimit_faultPlace, kG_depthLimit_type, kG_depthLimit_number, kG_depthLimit_tape, kG_depthLimit_target, kG_place_depthLimit, kG_place_place, kG_place_faultKind, kG_place_faultPlace, kG_place_type, kG_place_number, kG_place_tape, kG_place_target, kG_faultKind_depthLimit, kG_faultKind_place, kG_faultKind_faultKind, kG_faultKind_faultPlace, kG_faultKind_type, kG_faultKind_number, kG_faultKind_tape, kG_faultKind_target, kG_faultPlace_depthLimit, kG_faultPlace_place, kG_faultPlace_faultKind, kG_faultPlace_faultPlace, kG_faultPlace_type, kG_faultPlace_number, kG_faultPlace_tape, kG_faultPlace_target, kG_type_depthLimit, kG_type_place, kG_type_faultKind, kG_type_faultPlace, kG_type_type, kG_type_number, kG_type_tape, kG_type_target, kG_number_depthLimit, kG_number_place, kG_number_faultKind, kG_number_faultPlace, kG_number_type, kG_number_number, kG_number_tape, kG_number_target, kG_tape_depthLimit, kG_tape_place, kG_tape_faultKind, kG_tape_faultPlace, kG_tape_type, kG_tape_number, kG_tape_tape, kG_tape_target, kG_target_depthLimit, kG_target_place, kG_target_faultKind, kG_target_faultPlace, kG_target_type, kG_target_number, kG_target_tape, kG_target_target]
        rw [hpl, ep]
      · simp only [kG_depthLimit_depthLimit, kG_depthLimit_place, kG_depthLimit_faultKind, kG_depthLimit_faultPlace, kG_depthLimit_type, kG_depthLimit_number, kG_depthLimit_tape, kG_depthLimit_target, kG_place_depthLimit, kG_place_place, kG_place_faultKind, kG_place_faultPlace, kG_place_type, kG_place_number, kG_place_tape, kG_place_target, kG_faultKind_depthLimit, kG_faultKind_place, kG_faultKind_faultKind, kG_faultKind_faultPlace, kG_faultKind_type, kG_faultKind_number, kG_faultKind_tape, kG_faultKind_target, kG_faultPlace_depthLimit, kG_faultPlace_place, kG_faultPlace_faultKind, kG_faultPlace_faultPlace, kG_faultPlace_type, kG_faultPlace_number, kG_faultPlace_tape, kG_faultPlace_target, kG_type_depthLimit, kG_type_place, kG_type_faultKind, kG_type_faultPlace, kG_type_type, kG_type_number, kG_type_tape, kG_type_target, kG_number_depthLimit, kG_number_place, kG_number_faultKind, kG_number_faultPlace, kG_number_type, kG_number_number, kG_number_tape, kG_number_target, kG_tape_depthLimit, kG_tape_place, kG_tape_faultKind, kG_tape_faultPlace, kG_tape_type, kG_tape_number, kG_tape_tape, kG_tape_target, kG_target_depthLimit, kG_target_place, kG_target_faultKind, kG_target_faultPlace, kG_target_type, kG_target_number, kG_target_tape, kG_target_target]
        rw [show e - p = 0 by omega, sl_0]
        exact q1
    · have hs := sgn_bd t p e (by omega)
      rw [if_neg c]
      have hb : kk_readText_L59 6000 (f + 1) (nI v) (nI e) (nI i) σ = if nI (sgn t p e) = 0 then some (false, ks_faultPlace (ks_faultKind σ (nI 3)) (nI p)) else bd (kk_putSign 6000 (nI (sgn t p e)) σ) (fun (x12 : KSt) => kk_readText_L59 6000 f (nI v) (nI e) (nI (i + 1)) x12) := by
        show kk_readText_b59 6000 (kk_readText_L59 6000 f) _ _ _ σ = _
        unfold kk_readText_b59
        rw [if_neg (nI_ge (by omega) (by omega)), hpl, if_neg (nI_ge (by omega) (by omega)), bd_of (signLength_eq hT (by omega) hel)]
        simp only [lt]
        rw [ks_tape_id, nI_1]
        rfl
      rw [hb]
      by_cases c0 : sgn t p e = 0
      · rw [if_pos c0, if_pos (show nI (sgn t p e) = 0 by rw [c0]; rfl)]
        exact KBad.of hR (by omega) rfl
      · rw [if_neg c0, if_neg (nI_ne0 (by omega) (by omega))]
        obtain ⟨tg, g1, q1⟩ := k_putSign hT hpl (by omega) hel c0 hR (by omega)
        rw [bd_of g1]
        have hel2 := esc_len (sl t p (sgn t p e))
        rw [sl_len (show p + sgn t p e ≤ t.length by omega)] at hel2
        have Q1 : KQ σ (ks_place (ks_target σ tg) (nI (p + sgn t p e))) := by
          unfold KQ KFr
          simp only [kG_depthLimit_depthLimit, kG_depthLimit_place, kG_depthLimit_faultKind, kG_depthLimit_faultPlace, kG_depthLimit_type, kG_depthLimit_number, kG_depthLimit_tape, kG_depthLimit_target, kG_place_depthLimit, kG_place_place, kG_place_faultKind, kG_place_faultPlace, kG_place_type, kG_place_number, kG_place_tape, kG_place_target, kG_faultKind_depthLimit, kG_faultKind_place, kG_faultKind_faultKind, kG_faultKind_faultPlace, kG_faultKind_type, kG_faultKind_number, kG_faultKind_tape, kG_faultKind_target, kG_faultPlace_depthLimit, kG_faultPlace_place, kG_faultPlace_faultKind, kG_faultPlace_faultPlace, kG_faultPlace_type, kG_faultPlace_number, kG_faultPlace_tape, kG_faultPlace_target, kG_type_depthLimit, kG_type_place, kG_type_faultKind, kG_type_faultPlace, kG_type_type, kG_type_number, kG_type_tape, kG_type_target, kG_number_depthLimit, kG_number_place, kG_number_faultKind, kG_number_faultPlace, kG_number_type, kG_number_number, kG_number_tape, kG_number_target, kG_tape_depthLimit, kG_tape_place, kG_tape_faultKind, kG_tape_faultPlace, kG_tape_type, kG_tape_number, kG_tape_tape, kG_tape_target, kG_target_depthLimit, kG_target_place, kG_target_faultKind, kG_target_faultPlace, kG_target_type, kG_target_number, kG_target_tape, kG_target_target, and_self]
        have r := ih (i + 1) f (ks_place (ks_target σ tg) (nI (p + sgn t p e))) (p + sgn t p e) (acc ++ esc (sl t p (sgn t p e))) (by omega) (by omega) (by omega) hs.2 (by simp only [kG_depthLimit_depthLimit, kG_depthLimit_place, kG_depthLimit_faultKind, kG_depthLimit_faultPlace, kG_depthLimit_type, kG_depthLimit_number, kG_depthLimit_tape, kG_depthLimit_target, kG_place_depthLimit, kG_place_place, kG_place_faultKind, kG_place_faultPlace, kG_place_type, kG_place_number, kG_place_tape, kG_place_target, kG_faultKind_depthLimit, kG_faultKind_place, kG_faultKind_faultKind, kG_faultKind_faultPlace, kG_faultKind_type, kG_faultKind_number, kG_faultKind_tape, kG_faultKind_target, kG_faultPlace_depthLimit, kG_faultPlace_place, kG_faultPlace_faultKind, kG_faultPlace_faultPlace, kG_faultPlace_type, kG_faultPlace_number, kG_faultPlace_tape, kG_faultPlace_target, kG_type_depthLimit, kG_type_place, kG_type_faultKind, kG_type_faultPlace, kG_type_type, kG_type_number, kG_type_tape, kG_type_target, kG_number_depthLimit, kG_number_place, kG_number_faultKind, kG_number_faultPlace, kG_number_type, kG_number_number, kG_number_tape, kG_number_target, kG_tape_depthLimit, kG_tape_place, kG_tape_faultKind, kG_tape_faultPlace, kG_tape_type, kG_tape_number, kG_tape_tape, kG_tape_target, kG_target_depthLimit, kG_target_place, kG_target_faultKind, kG_target_faultPlace, kG_target_type, kG_target_number, kG_target_tape, kG_target_target]; exact hT) (by simp only [kG_depthLimit_depthLimit, kG_depthLimit_place, kG_depthLimit_faultKind, kG_depthLimit_faultPlace, kG_depthLimit_type, kG_depthLimit_number, kG_depthLimit_tape, kG_depthLimit_target, kG_place_depthLimit, kG_place_place, kG_place_faultKind, kG_place_faultPlace, kG_place_type, kG_place_number, kG_place_tape, kG_place_target, kG_faultKind_depthLimit, kG_faultKind_place, kG_faultKind_faultKind, kG_faultKind_faultPlace, kG_faultKind_type, kG_faultKind_number, kG_faultKind_tape, kG_faultKind_target, kG_faultPlace_depthLimit, kG_faultPlace_place, kG_faultPlace_faultKind, kG_faultPlace_faultPlace, kG_faultPlace_type, kG_faultPlace_number, kG_faultPlace_tape, kG_faultPlace_target, kG_type_depthLimit, kG_type_place, kG_type_faultKind, kG_type_faultPlace, kG_type_type, kG_type_number, kG_type_tape, kG_type_target, kG_number_depthLimit, kG_number_place, kG_number_faultKind, kG_number_faultPlace, kG_number_type, kG_number_number, kG_number_tape, kG_number_target, kG_tape_depthLimit, kG_tape_place, kG_tape_faultKind, kG_tape_faultPlace, kG_tape_type, kG_tape_number, kG_tape_tape, kG_tape_target, kG_target_depthLimit, kG_target_place, kG_target_faultKind, kG_target_faultPlace, kG_target_type, kG_target_number, kG_target_tape, kG_target_target]) (by simp only [kG_depthLimit_depthLimit, kG_depthLimit_place, kG_depthLimit_faultKind, kG_depthLimit_faultPlace, kG_depthLimit_type, kG_depthLimit_number, kG_depthLimit_tape, kG_depthLimit_target, kG_place_depthLimit, kG_place_place, kG_place_faultKind, kG_place_faultPlace, kG_place_type, kG_place_number, kG_place_tape, kG_place_target, kG_faultKind_depthLimit, kG_faultKind_place, kG_faultKind_faultKind, kG_faultKind_faultPlace, kG_faultKind_type, kG_faultKind_number, kG_faultKind_tape, kG_faultKind_target, kG_faultPlace_depthLimit, kG_faultPlace_place, kG_faultPlace_faultKind, kG_faultPlace_faultPlace, kG_faultPlace_type, kG_faultPlace_number, kG_faultPlace_tape, kG_faultPlace_target, kG_type_depthLimit, kG_type_place, kG_type_faultKind, kG_type_faultPlace, kG_type_type, kG_type_number, kG_type_tape, kG_type_target, kG_number_depthLimit, kG_number_place, kG_number_faultKind, kG_number_faultPlace, kG_number_type, kG_number_number, kG_number_tape, kG_number_target, kG_tape_depthLimit, kG_tape_place, kG_tape_faultKind, kG_tape_faultPlace, kG_tape_type, kG_tape_number, kG_tape_tape, kG_tape_target, kG_target_depthLimit, kG_target_place, kG_target_faultKind, kG_target_faultPlace, kG_target_type, kG_target_number, kG_target_tape, kG_target_target]; exact q1) (by rw [List.length_append]; omega)
        cases hr : sTxF t e m (p + sgn t p e) with
        | some x =>
          rw [hr] at r
          exact KBad.fr Q1.1 r
        | none =>
          rw [hr] at r
          obtain ⟨σ', e2, q2, p2, r2⟩ := r
          refine ⟨σ', e2, Q1.trans q2, p2, ?_⟩
          have es : sl t p (e - p) = sl t p (sgn t p e) ++ sl t (p + sgn t p e) (e - (p + sgn t p e)) := by
            rw [← sl_app]
            congr 1
            omega
          rw [es, esc_app, List.append_assoc]
          rw [List.append_assoc] at r2
          exact r2
theorem z_k_text_loop {q v e : Nat} (he : e = q + v) (hel : e ≤ t.length) : ∀ (m i f : Nat) (σ : KSt) (p : Nat) (acc : List Nat), e - p < m → m < f → q + i ≤ p → p ≤ e → TpR (kf_tape σ) t → kf_place σ = nI p → RowL 0 (kf_target σ) acc → acc.length + 24 * (e - p) ≤ 99000 → match sTxF t e m p with
    | some x => z_KBad σ (3, x) (kk_readText_L59 0 f (nI v) (nI e) (nI i) σ)
    | none => ∃ σ', kk_readText_L59 0 f (nI v) (nI e) (nI i) σ = some (true, σ') ∧ KQ σ σ' ∧ kf_place σ' = nI e ∧ RowL 0 (kf_target σ') (acc ++ (esc (sl t p (e - p)) ++ [34])) := by
  intro m
  induction m with
  | zero => intro i f σ p acc h; omega
  | succ m ih =>
    intro i f σ p acc hm hf hi hp hT hpl hR ho
    obtain ⟨f, rfl⟩ : ∃ g, f = g + 1 := ⟨f - 1, by omega⟩
    have hle := hT.2
    unfold sTxF
    by_cases c : e ≤ p
    · have ep : p = e := by omega
      rw [if_pos c]
      have hb : kk_readText_L59 0 (f + 1) (nI v) (nI e) (nI i) σ = kk_readText_b113 0 σ := by
        show kk_readText_b59 0 (kk_readText_L59 0 f) _ _ _ σ = _
        unfold kk_readText_b59
        by_cases ci : v ≤ i
        · rw [if_pos (nI_le ci (by omega))]
        · rw [if_neg (nI_ge (by omega) (by omega)), hpl, if_pos (nI_le c (by omega))]
      show ∃ σ', kk_readText_L59 0 (f + 1) (nI v) (nI e) (nI i) σ = some (true, σ') ∧ _
      rw [hb]
      unfold kk_readText_b113
      obtain ⟨r1, g1, q1⟩ := z_rr_putN hR (by omega) (n := 34) (v := 34) (by decide) rfl
      rw [bd_of g1]
      refine ⟨_, rfl, ?_, ?_, ?_⟩
      · unfold KQ KFr
        simp only [kG_depthLimit_depthLimit, kG_depthLimit_place, kG_depthLimit_faultKind, kG_depthLimit_faultPlace, kG_depthLimit_type, kG_depthLimit_number, kG_depthLimit_tape, kG_depthLimit_target, kG_place_depthLimit, kG_place_place, kG_place_faultKind, kG_place_faultPlace, kG_place_type, kG_place_number, kG_place_tape, kG_place_target, kG_faultKind_depthLimit, kG_faultKind_place, kG_faultKind_faultKind, kG_faultKind_faultPlace, kG_faultKind_type, kG_faultKind_number, kG_faultKind_tape, kG_faultKind_target, kG_faultPlace_depthLimit, kG_faultPlace_place, kG_faultPlace_faultKind, kG_faultPlace_faultPlace, kG_faultPlace_type, kG_faultPlace_number, kG_faultPlace_tape, kG_faultPlace_target, kG_type_depthLimit, kG_type_place, kG_type_faultKind, kG_type_faultPlace, kG_type_type, kG_type_number, kG_type_tape, kG_type_target, kG_number_depthLimit, kG_number_place, kG_number_faultKind, kG_number_faultPlace, kG_number_type, kG_number_number, kG_number_tape, kG_number_target, kG_tape_depthLimit, kG_tape_place, kG_tape_faultKind, kG_tape_faultPlace, kG_tape_type, kG_tape_number, kG_tape_tape, kG_tape_target, kG_target_depthLimit, kG_target_place, kG_target_faultKind, kG_target_faultPlace, kG_target_type, kG_target_number, kG_target_tape, kG_target_target, and_self]
      · simp only [kG_depthLimit_depthLimit, kG_depthLimit_place, kG_depthLimit_faultKind, kG_depthLimit_faultPlace, kG_depthLimit_type, kG_depthLimit_number, kG_depthLimit_tape, kG_depthLimit_target, kG_place_depthLimit, kG_place_place, kG_place_faultKind, kG_place_faultPlace, kG_place_type, kG_place_number, kG_place_tape, kG_place_target, kG_faultKind_depthLimit, kG_faultKind_place, kG_faultKind_faultKind, kG_faultKind_faultPlace, kG_faultKind_type, kG_faultKind_number, kG_faultKind_tape, kG_faultKind_target, kG_faultPlace_depthLimit, kG_faultPlace_place, kG_faultPlace_faultKind, kG_faultPlace_faultPlace, kG_faultPlace_type, kG_faultPlace_number, kG_faultPlace_tape, kG_faultPlace_target, kG_type_depthLimit, kG_type_place, kG_type_faultKind, kG_type_faultPlace, kG_type_type, kG_type_number, kG_type_tape, kG_type_target, kG_number_depthLimit, kG_number_place, kG_number_faultKind, kG_number_faultPlace, kG_number_type, kG_number_number, kG_number_tape, kG_number_target, kG_tape_depthLimit, kG_tape_place, kG_tape_faultKind, kG_tape_faultPlace, kG_tape_type, kG_tape_number, kG_tape_tape, kG_tape_target, kG_target_depthLimit, kG_target_place, kG_target_faultKind, kG_target_faultPlace, kG_target_type, kG_target_number, kG_target_tape, kG_target_target]
        rw [hpl, ep]
      · simp only [kG_depthLimit_depthLimit, kG_depthLimit_place, kG_depthLimit_faultKind, kG_depthLimit_faultPlace, kG_depthLimit_type, kG_depthLimit_number, kG_depthLimit_tape, kG_depthLimit_target, kG_place_depthLimit, kG_place_place, kG_place_faultKind, kG_place_faultPlace, kG_place_type, kG_place_number, kG_place_tape, kG_place_target, kG_faultKind_depthLimit, kG_faultKind_place, kG_faultKind_faultKind, kG_faultKind_faultPlace, kG_faultKind_type, kG_faultKind_number, kG_faultKind_tape, kG_faultKind_target, kG_faultPlace_depthLimit, kG_faultPlace_place, kG_faultPlace_faultKind, kG_faultPlace_faultPlace, kG_faultPlace_type, kG_faultPlace_number, kG_faultPlace_tape, kG_faultPlace_target, kG_type_depthLimit, kG_type_place, kG_type_faultKind, kG_type_faultPlace, kG_type_type, kG_type_number, kG_type_tape, kG_type_target, kG_number_depthLimit, kG_number_place, kG_number_faultKind, kG_number_faultPlace, kG_number_type, kG_number_number, kG_number_tape, kG_number_target, kG_tape_depthLimit, kG_tape_place, kG_tape_faultKind, kG_tape_faultPlace, kG_tape_type, kG_tape_number, kG_tape_tape, kG_tape_target, kG_target_depthLimit, kG_target_place, kG_target_faultKind, kG_target_faultPlace, kG_target_type, kG_target_number, kG_target_tape, kG_target_target]
        rw [show e - p = 0 by omega, sl_0]
        exact q1
    · have hs := sgn_bd t p e (by omega)
      rw [if_neg c]
      have hb : kk_readText_L59 0 (f + 1) (nI v) (nI e) (nI i) σ = if nI (sgn t p e) = 0 then some (false, ks_faultPlace (ks_faultKind σ (nI 3)) (nI p)) else bd (kk_putSign 0 (nI (sgn t p e)) σ) (fun (x12 : KSt) => kk_readText_L59 0 f (nI v) (nI e) (nI (i + 1)) x12) := by
        show kk_readText_b59 0 (kk_readText_L59 0 f) _ _ _ σ = _
        unfold kk_readText_b59
        rw [if_neg (nI_ge (by omega) (by omega)), hpl, if_neg (nI_ge (by omega) (by omega)), bd_of (signLength_eq hT (by omega) hel)]
        simp only [lt]
        rw [ks_tape_id, nI_1]
        rfl
      rw [hb]
      by_cases c0 : sgn t p e = 0
      · rw [if_pos c0, if_pos (show nI (sgn t p e) = 0 by rw [c0]; rfl)]
        exact z_KBad.of hR (by omega) rfl
      · rw [if_neg c0, if_neg (nI_ne0 (by omega) (by omega))]
        obtain ⟨tg, g1, q1⟩ := z_k_putSign hT hpl (by omega) hel c0 hR (by omega)
        rw [bd_of g1]
        have hel2 := esc_len (sl t p (sgn t p e))
        rw [sl_len (show p + sgn t p e ≤ t.length by omega)] at hel2
        have Q1 : KQ σ (ks_place (ks_target σ tg) (nI (p + sgn t p e))) := by
          unfold KQ KFr
          simp only [kG_depthLimit_depthLimit, kG_depthLimit_place, kG_depthLimit_faultKind, kG_depthLimit_faultPlace, kG_depthLimit_type, kG_depthLimit_number, kG_depthLimit_tape, kG_depthLimit_target, kG_place_depthLimit, kG_place_place, kG_place_faultKind, kG_place_faultPlace, kG_place_type, kG_place_number, kG_place_tape, kG_place_target, kG_faultKind_depthLimit, kG_faultKind_place, kG_faultKind_faultKind, kG_faultKind_faultPlace, kG_faultKind_type, kG_faultKind_number, kG_faultKind_tape, kG_faultKind_target, kG_faultPlace_depthLimit, kG_faultPlace_place, kG_faultPlace_faultKind, kG_faultPlace_faultPlace, kG_faultPlace_type, kG_faultPlace_number, kG_faultPlace_tape, kG_faultPlace_target, kG_type_depthLimit, kG_type_place, kG_type_faultKind, kG_type_faultPlace, kG_type_type, kG_type_number, kG_type_tape, kG_type_target, kG_number_depthLimit, kG_number_place, kG_number_faultKind, kG_number_faultPlace, kG_number_type, kG_number_number, kG_number_tape, kG_number_target, kG_tape_depthLimit, kG_tape_place, kG_tape_faultKind, kG_tape_faultPlace, kG_tape_type, kG_tape_number, kG_tape_tape, kG_tape_target, kG_target_depthLimit, kG_target_place, kG_target_faultKind, kG_target_faultPlace, kG_target_type, kG_target_number, kG_target_tape, kG_target_target, and_self]
        have r := ih (i + 1) f (ks_place (ks_target σ tg) (nI (p + sgn t p e))) (p + sgn t p e) (acc ++ esc (sl t p (sgn t p e))) (by omega) (by omega) (by omega) hs.2 (by simp only [kG_depthLimit_depthLimit, kG_depthLimit_place, kG_depthLimit_faultKind, kG_depthLimit_faultPlace, kG_depthLimit_type, kG_depthLimit_number, kG_depthLimit_tape, kG_depthLimit_target, kG_place_depthLimit, kG_place_place, kG_place_faultKind, kG_place_faultPlace, kG_place_type, kG_place_number, kG_place_tape, kG_place_target, kG_faultKind_depthLimit, kG_faultKind_place, kG_faultKind_faultKind, kG_faultKind_faultPlace, kG_faultKind_type, kG_faultKind_number, kG_faultKind_tape, kG_faultKind_target, kG_faultPlace_depthLimit, kG_faultPlace_place, kG_faultPlace_faultKind, kG_faultPlace_faultPlace, kG_faultPlace_type, kG_faultPlace_number, kG_faultPlace_tape, kG_faultPlace_target, kG_type_depthLimit, kG_type_place, kG_type_faultKind, kG_type_faultPlace, kG_type_type, kG_type_number, kG_type_tape, kG_type_target, kG_number_depthLimit, kG_number_place, kG_number_faultKind, kG_number_faultPlace, kG_number_type, kG_number_number, kG_number_tape, kG_number_target, kG_tape_depthLimit, kG_tape_place, kG_tape_faultKind, kG_tape_faultPlace, kG_tape_type, kG_tape_number, kG_tape_tape, kG_tape_target, kG_target_depthLimit, kG_target_place, kG_target_faultKind, kG_target_faultPlace, kG_target_type, kG_target_number, kG_target_tape, kG_target_target]; exact hT) (by simp only [kG_depthLimit_depthLimit, kG_depthLimit_place, kG_depthLimit_faultKind, kG_depthLimit_faultPlace, kG_depthLimit_type, kG_depthLimit_number, kG_depthLimit_tape, kG_depthLimit_target, kG_place_depthLimit, kG_place_place, kG_place_faultKind, kG_place_faultPlace, kG_place_type, kG_place_number, kG_place_tape, kG_place_target, kG_faultKind_depthLimit, kG_faultKind_place, kG_faultKind_faultKind, kG_faultKind_faultPlace, kG_faultKind_type, kG_faultKind_number, kG_faultKind_tape, kG_faultKind_target, kG_faultPlace_depthLimit, kG_faultPlace_place, kG_faultPlace_faultKind, kG_faultPlace_faultPlace, kG_faultPlace_type, kG_faultPlace_number, kG_faultPlace_tape, kG_faultPlace_target, kG_type_depthLimit, kG_type_place, kG_type_faultKind, kG_type_faultPlace, kG_type_type, kG_type_number, kG_type_tape, kG_type_target, kG_number_depthLimit, kG_number_place, kG_number_faultKind, kG_number_faultPlace, kG_number_type, kG_number_number, kG_number_tape, kG_number_target, kG_tape_depthLimit, kG_tape_place, kG_tape_faultKind, kG_tape_faultPlace, kG_tape_type, kG_tape_number, kG_tape_tape, kG_tape_target, kG_target_depthLimit, kG_target_place, kG_target_faultKind, kG_target_faultPlace, kG_target_type, kG_target_number, kG_target_tape, kG_target_target]) (by simp only [kG_depthLimit_depthLimit, kG_depthLimit_place, kG_depthLimit_faultKind, kG_depthLimit_faultPlace, kG_depthLimit_type, kG_depthLimit_number, kG_depthLimit_tape, kG_depthLimit_target, kG_place_depthLimit, kG_place_place, kG_place_faultKind, kG_place_faultPlace, kG_place_type, kG_place_number, kG_place_tape, kG_place_target, kG_faultKind_depthLimit, kG_faultKind_place, kG_faultKind_faultKind, kG_faultKind_faultPlace, kG_faultKind_type, kG_faultKind_number, kG_faultKind_tape, kG_faultKind_target, kG_faultPlace_depthLimit, kG_faultPlace_place, kG_faultPlace_faultKind, kG_faultPlace_faultPlace, kG_faultPlace_type, kG_faultPlace_number, kG_faultPlace_tape, kG_faultPlace_target, kG_type_depthLimit, kG_type_place, kG_type_faultKind, kG_type_faultPlace, kG_type_type, kG_type_number, kG_type_tape, kG_type_target, kG_number_depthLimit, kG_number_place, kG_number_faultKind, kG_number_faultPlace, kG_number_type, kG_number_number, kG_number_tape, kG_number_target, kG_tape_depthLimit, kG_tape_place, kG_tape_faultKind, kG_tape_faultPlace, kG_tape_type, kG_tape_number, kG_tape_tape, kG_tape_target, kG_target_depthLimit, kG_target_place, kG_target_faultKind, kG_target_faultPlace, kG_target_type, kG_target_number, kG_target_tape, kG_target_target]; exact q1) (by rw [List.length_append]; omega)
        cases hr : sTxF t e m (p + sgn t p e) with
        | some x =>
          rw [hr] at r
          exact z_KBad.fr Q1.1 r
        | none =>
          rw [hr] at r
          obtain ⟨σ', e2, q2, p2, r2⟩ := r
          refine ⟨σ', e2, Q1.trans q2, p2, ?_⟩
          have es : sl t p (e - p) = sl t p (sgn t p e) ++ sl t (p + sgn t p e) (e - (p + sgn t p e)) := by
            rw [← sl_app]
            congr 1
            omega
          rw [es, esc_app, List.append_assoc]
          rw [List.append_assoc] at r2
          exact r2
/-- a text whose head is read -/
theorem k_text {σ : KSt} {out : List Nat} {q v : Nat} (hT : TpR (kf_tape σ) t) (hpl : kf_place σ = nI q) (hq : q ≤ t.length) (hnum : kf_number σ = lN v) (hv : v < 2 ^ 64) (hR : RowL 6000 (kf_target σ) out) (ho : out.length + 24 * (t.length - q) ≤ 98000) : match sTx t v q with
    | .inl kq => KBad σ kq (kk_readText 6000 σ)
    | .inr ls => ∃ σ', kk_readText 6000 σ = some (true, σ') ∧ KQ σ σ' ∧ kf_place σ' = nI (q + v) ∧ RowL 6000 (kf_target σ') (out ++ 34 :: (esc ls ++ [34])) := by
  have hle := hT.2
  unfold kk_readText sTx
  rw [bd_of hT.sz]
  simp only []
  rw [hpl, pk_sub hq, hnum, isWithin_eq hv (by omega)]
  by_cases c : t.length - q < v
  · rw [if_pos c, decide_eq_false (by omega), if_neg (by decide), bd_of hT.sz]
    simp only []
    rw [ks_tape_id, ks_tape_id]
    exact KBad.of hR (by omega) rfl
  · rw [if_neg c, decide_eq_true (by omega), if_pos rfl]
    simp only [lt]
    rw [lN_i, nI_add]
    obtain ⟨r1, g1, q1⟩ := rr_putN hR (by omega) (n := 34) (v := 34) (by decide) rfl
    rw [bd_of g1, ks_tape_id]
    have Q1 : KQ σ (ks_target σ r1) := by
      unfold KQ KFr
      simp only [kG_depthLimit_depthLimit, kG_depthLimit_place, kG_depthLimit_faultKind, kG_depthLimit_faultPlace, kG_depthLimit_type, kG_depthLimit_number, kG_depthLimit_tape, kG_depthLimit_target, kG_place_depthLimit, kG_place_place, kG_place_faultKind, kG_place_faultPlace, kG_place_type, kG_place_number, kG_place_tape, kG_place_target, kG_faultKind_depthLimit, kG_faultKind_place, kG_faultKind_faultKind, kG_faultKind_faultPlace, kG_faultKind_type, kG_faultKind_number, kG_faultKind_tape, kG_faultKind_target, kG_faultPlace_depthLimit, kG_faultPlace_place, kG_faultPlace_faultKind, kG_faultPlace_faultPlace, kG_faultPlace_type, kG_faultPlace_number, kG_faultPlace_tape, kG_faultPlace_target, kG_type_depthLimit, kG_type_place, kG_type_faultKind, kG_type_faultPlace, kG_type_type, kG_type_number, kG_type_tape, kG_type_target, kG_number_depthLimit, kG_number_place, kG_number_faultKind, kG_number_faultPlace, kG_number_type, kG_number_number, kG_number_tape, kG_number_target, kG_tape_depthLimit, kG_tape_place, kG_tape_faultKind, kG_tape_faultPlace, kG_tape_type, kG_tape_number, kG_tape_tape, kG_tape_target, kG_target_depthLimit, kG_target_place, kG_target_faultKind, kG_target_faultPlace, kG_target_type, kG_target_number, kG_target_tape, kG_target_target, and_self]
    have r := k_text_loop (t := t) (q := q) (v := v) rfl (by omega) (v + 1) 0 FU (ks_target σ r1) q (out ++ [34]) (by omega) (by show _ < 100000; omega) (by omega) (by omega) (by simp only [kG_depthLimit_depthLimit, kG_depthLimit_place, kG_depthLimit_faultKind, kG_depthLimit_faultPlace, kG_depthLimit_type, kG_depthLimit_number, kG_depthLimit_tape, kG_depthLimit_target, kG_place_depthLimit, kG_place_place, kG_place_faultKind, kG_place_faultPlace, kG_place_type, kG_place_number, kG_place_tape, kG_place_target, kG_faultKind_depthLimit, kG_faultKind_place, kG_faultKind_faultKind, kG_faultKind_faultPlace, kG_faultKind_type, kG_faultKind_number, kG_faultKind_tape, kG_faultKind_target, kG_faultPlace_depthLimit, kG_faultPlace_place, kG_faultPlace_faultKind, kG_faultPlace_faultPlace, kG_faultPlace_type, kG_faultPlace_number, kG_faultPlace_tape, kG_faultPlace_target, kG_type_depthLimit, kG_type_place, kG_type_faultKind, kG_type_faultPlace, kG_type_type, kG_type_number, kG_type_tape, kG_type_target, kG_number_depthLimit, kG_number_place, kG_number_faultKind, kG_number_faultPlace, kG_number_type, kG_number_number, kG_number_tape, kG_number_target, kG_tape_depthLimit, kG_tape_place, kG_tape_faultKind, kG_tape_faultPlace, kG_tape_type, kG_tape_number, kG_tape_tape, kG_tape_target, kG_target_depthLimit, kG_target_place, kG_target_faultKind, kG_target_faultPlace, kG_target_type, kG_target_number, kG_target_tape, kG_target_target]; exact hT) (by simp only [kG_depthLimit_depthLimit, kG_depthLimit_place, kG_depthLimit_faultKind, kG_depthLimit_faultPlace, kG_depthLimit_type, kG_depthLimit_number, kG_depthLimit_tape, kG_depthLimit_target, kG_place_depthLimit, kG_place_place, kG_place_faultKind, kG_place_faultPlace, kG_place_type, kG_place_number, kG_place_tape, kG_place_target, kG_faultKind_depthLimit, kG_faultKind_place, kG_faultKind_faultKind, kG_faultKind_faultPlace, kG_faultKind_type, kG_faultKind_number, kG_faultKind_tape, kG_faultKind_target, kG_faultPlace_depthLimit, kG_faultPlace_place, kG_faultPlace_faultKind, kG_faultPlace_faultPlace, kG_faultPlace_type, kG_faultPlace_number, kG_faultPlace_tape, kG_faultPlace_target, kG_type_depthLimit, kG_type_place, kG_type_faultKind, kG_type_faultPlace, kG_type_type, kG_type_number, kG_type_tape, kG_type_target, kG_number_depthLimit, kG_number_place, kG_number_faultKind, kG_number_faultPlace, kG_number_type, kG_number_number, kG_number_tape, kG_number_target, kG_tape_depthLimit, kG_tape_place, kG_tape_faultKind, kG_tape_faultPlace, kG_tape_type, kG_tape_number, kG_tape_tape, kG_tape_target, kG_target_depthLimit, kG_target_place, kG_target_faultKind, kG_target_faultPlace, kG_target_type, kG_target_number, kG_target_tape, kG_target_target]; exact hpl) (by simp only [kG_depthLimit_depthLimit, kG_depthLimit_place, kG_depthLimit_faultKind, kG_depthLimit_faultPlace, kG_depthLimit_type, kG_depthLimit_number, kG_depthLimit_tape, kG_depthLimit_target, kG_place_depthLimit, kG_place_place, kG_place_faultKind, kG_place_faultPlace, kG_place_type, kG_place_number, kG_place_tape, kG_place_target, kG_faultKind_depthLimit, kG_faultKind_place, kG_faultKind_faultKind, kG_faultKind_faultPlace, kG_faultKind_type, kG_faultKind_number, kG_faultKind_tape, kG_faultKind_target, kG_faultPlace_depthLimit, kG_faultPlace_place, kG_faultPlace_faultKind, kG_faultPlace_faultPlace, kG_faultPlace_type, kG_faultPlace_number, kG_faultPlace_tape, kG_faultPlace_target, kG_type_depthLimit, kG_type_place, kG_type_faultKind, kG_type_faultPlace, kG_type_type, kG_type_number, kG_type_tape, kG_type_target, kG_number_depthLimit, kG_number_place, kG_number_faultKind, kG_number_faultPlace, kG_number_type, kG_number_number, kG_number_tape, kG_number_target, kG_tape_depthLimit, kG_tape_place, kG_tape_faultKind, kG_tape_faultPlace, kG_tape_type, kG_tape_number, kG_tape_tape, kG_tape_target, kG_target_depthLimit, kG_target_place, kG_target_faultKind, kG_target_faultPlace, kG_target_type, kG_target_number, kG_target_tape, kG_target_target]; exact q1) (by rw [len_snoc]; omega)
    cases hr : sTxF t (q + v) (v + 1) q with
    | some x =>
      rw [hr] at r
      exact KBad.fr Q1.1 r
    | none =>
      rw [hr] at r
      obtain ⟨σ', e2, q2, p2, r2⟩ := r
      refine ⟨σ', e2, Q1.trans q2, p2, ?_⟩
      rw [Nat.add_sub_cancel_left, List.append_assoc] at r2
      exact r2
/-- a text whose head is read -/
theorem z_k_text {σ : KSt} {out : List Nat} {q v : Nat} (hT : TpR (kf_tape σ) t) (hpl : kf_place σ = nI q) (hq : q ≤ t.length) (hnum : kf_number σ = lN v) (hv : v < 2 ^ 64) (hR : RowL 0 (kf_target σ) out) (ho : out.length + 24 * (t.length - q) ≤ 98000) : match sTx t v q with
    | .inl kq => z_KBad σ kq (kk_readText 0 σ)
    | .inr ls => ∃ σ', kk_readText 0 σ = some (true, σ') ∧ KQ σ σ' ∧ kf_place σ' = nI (q + v) ∧ RowL 0 (kf_target σ') (out ++ 34 :: (esc ls ++ [34])) := by
  have hle := hT.2
  unfold kk_readText sTx
  rw [bd_of hT.sz]
  simp only []
  rw [hpl, pk_sub hq, hnum, isWithin_eq hv (by omega)]
  by_cases c : t.length - q < v
  · rw [if_pos c, decide_eq_false (by omega), if_neg (by decide), bd_of hT.sz]
    simp only []
    rw [ks_tape_id, ks_tape_id]
    exact z_KBad.of hR (by omega) rfl
  · rw [if_neg c, decide_eq_true (by omega), if_pos rfl]
    simp only [lt]
    rw [lN_i, nI_add]
    obtain ⟨r1, g1, q1⟩ := z_rr_putN hR (by omega) (n := 34) (v := 34) (by decide) rfl
    rw [bd_of g1, ks_tape_id]
    have Q1 : KQ σ (ks_target σ r1) := by
      unfold KQ KFr
      simp only [kG_depthLimit_depthLimit, kG_depthLimit_place, kG_depthLimit_faultKind, kG_depthLimit_faultPlace, kG_depthLimit_type, kG_depthLimit_number, kG_depthLimit_tape, kG_depthLimit_target, kG_place_depthLimit, kG_place_place, kG_place_faultKind, kG_place_faultPlace, kG_place_type, kG_place_number, kG_place_tape, kG_place_target, kG_faultKind_depthLimit, kG_faultKind_place, kG_faultKind_faultKind, kG_faultKind_faultPlace, kG_faultKind_type, kG_faultKind_number, kG_faultKind_tape, kG_faultKind_target, kG_faultPlace_depthLimit, kG_faultPlace_place, kG_faultPlace_faultKind, kG_faultPlace_faultPlace, kG_faultPlace_type, kG_faultPlace_number, kG_faultPlace_tape, kG_faultPlace_target, kG_type_depthLimit, kG_type_place, kG_type_faultKind, kG_type_faultPlace, kG_type_type, kG_type_number, kG_type_tape, kG_type_target, kG_number_depthLimit, kG_number_place, kG_number_faultKind, kG_number_faultPlace, kG_number_type, kG_number_number, kG_number_tape, kG_number_target, kG_tape_depthLimit, kG_tape_place, kG_tape_faultKind, kG_tape_faultPlace, kG_tape_type, kG_tape_number, kG_tape_tape, kG_tape_target, kG_target_depthLimit, kG_target_place, kG_target_faultKind, kG_target_faultPlace, kG_target_type, kG_target_number, kG_target_tape, kG_target_target, and_self]
    have r := z_k_text_loop (t := t) (q := q) (v := v) rfl (by omega) (v + 1) 0 FU (ks_target σ r1) q (out ++ [34]) (by omega) (by show _ < 100000; omega) (by omega) (by omega) (by simp only [kG_depthLimit_depthLimit, kG_depthLimit_place, kG_depthLimit_faultKind, kG_depthLimit_faultPlace, kG_depthLimit_type, kG_depthLimit_number, kG_depthLimit_tape, kG_depthLimit_target, kG_place_depthLimit, kG_place_place, kG_place_faultKind, kG_place_faultPlace, kG_place_type, kG_place_number, kG_place_tape, kG_place_target, kG_faultKind_depthLimit, kG_faultKind_place, kG_faultKind_faultKind, kG_faultKind_faultPlace, kG_faultKind_type, kG_faultKind_number, kG_faultKind_tape, kG_faultKind_target, kG_faultPlace_depthLimit, kG_faultPlace_place, kG_faultPlace_faultKind, kG_faultPlace_faultPlace, kG_faultPlace_type, kG_faultPlace_number, kG_faultPlace_tape, kG_faultPlace_target, kG_type_depthLimit, kG_type_place, kG_type_faultKind, kG_type_faultPlace, kG_type_type, kG_type_number, kG_type_tape, kG_type_target, kG_number_depthLimit, kG_number_place, kG_number_faultKind, kG_number_faultPlace, kG_number_type, kG_number_number, kG_number_tape, kG_number_target, kG_tape_depthLimit, kG_tape_place, kG_tape_faultKind, kG_tape_faultPlace, kG_tape_type, kG_tape_number, kG_tape_tape, kG_tape_target, kG_target_depthLimit, kG_target_place, kG_target_faultKind, kG_target_faultPlace, kG_target_type, kG_target_number, kG_target_tape, kG_target_target]; exact hT) (by simp only [kG_depthLimit_depthLimit, kG_depthLimit_place, kG_depthLimit_faultKind, kG_depthLimit_faultPlace, kG_depthLimit_type, kG_depthLimit_number, kG_depthLimit_tape, kG_depthLimit_target, kG_place_depthLimit, kG_place_place, kG_place_faultKind, kG_place_faultPlace, kG_place_type, kG_place_number, kG_place_tape, kG_place_target, kG_faultKind_depthLimit, kG_faultKind_place, kG_faultKind_faultKind, kG_faultKind_faultPlace, kG_faultKind_type, kG_faultKind_number, kG_faultKind_tape, kG_faultKind_target, kG_faultPlace_depthLimit, kG_faultPlace_place, kG_faultPlace_faultKind, kG_faultPlace_faultPlace, kG_faultPlace_type, kG_faultPlace_number, kG_faultPlace_tape, kG_faultPlace_target, kG_type_depthLimit, kG_type_place, kG_type_faultKind, kG_type_faultPlace, kG_type_type, kG_type_number, kG_type_tape, kG_type_target, kG_number_depthLimit, kG_number_place, kG_number_faultKind, kG_number_faultPlace, kG_number_type, kG_number_number, kG_number_tape, kG_number_target, kG_tape_depthLimit, kG_tape_place, kG_tape_faultKind, kG_tape_faultPlace, kG_tape_type, kG_tape_number, kG_tape_tape, kG_tape_target, kG_target_depthLimit, kG_target_place, kG_target_faultKind, kG_target_faultPlace, kG_target_type, kG_target_number, kG_target_tape, kG_target_target]; exact hpl) (by simp only [kG_depthLimit_depthLimit, kG_depthLimit_place, kG_depthLimit_faultKind, kG_depthLimit_faultPlace, kG_depthLimit_type, kG_depthLimit_number, kG_depthLimit_tape, kG_depthLimit_target, kG_place_depthLimit, kG_place_place, kG_place_faultKind, kG_place_faultPlace, kG_place_type, kG_place_number, kG_place_tape, kG_place_target, kG_faultKind_depthLimit, kG_faultKind_place, kG_faultKind_faultKind, kG_faultKind_faultPlace, kG_faultKind_type, kG_faultKind_number, kG_faultKind_tape, kG_faultKind_target, kG_faultPlace_depthLimit, kG_faultPlace_place, kG_faultPlace_faultKind, kG_faultPlace_faultPlace, kG_faultPlace_type, kG_faultPlace_number, kG_faultPlace_tape, kG_faultPlace_target, kG_type_depthLimit, kG_type_place, kG_type_faultKind, kG_type_faultPlace, kG_type_type, kG_type_number, kG_type_tape, kG_type_target, kG_number_depthLimit, kG_number_place, kG_number_faultKind, kG_number_faultPlace, kG_number_type, kG_number_number, kG_number_tape, kG_number_target, kG_tape_depthLimit, kG_tape_place, kG_tape_faultKind, kG_tape_faultPlace, kG_tape_type, kG_tape_number, kG_tape_tape, kG_tape_target, kG_target_depthLimit, kG_target_place, kG_target_faultKind, kG_target_faultPlace, kG_target_type, kG_target_number, kG_target_tape, kG_target_target]; exact q1) (by rw [len_snoc]; omega)
    cases hr : sTxF t (q + v) (v + 1) q with
    | some x =>
      rw [hr] at r
      exact z_KBad.fr Q1.1 r
    | none =>
      rw [hr] at r
      obtain ⟨σ', e2, q2, p2, r2⟩ := r
      refine ⟨σ', e2, Q1.trans q2, p2, ?_⟩
      rw [Nat.add_sub_cancel_left, List.append_assoc] at r2
      exact r2
end TXK
/-- the word sI has the letters W -/
def WD (sI : Nat) (W : List Nat) : Prop := (sLen sI = nI W.length ∧ sLn sI = W.length ∧ W.length ≤ 20) ∧ ∀ k, k < W.length → sCh sI (nI k) = nI (W.getD k 0) ∧ W.getD k 0 < 256
theorem WD_0 : WD 0 (wdC 20) := by unfold WD; decide +kernel
theorem WD_1 : WD 1 (wdC 21) := by unfold WD; decide +kernel
theorem WD_2 : WD 2 (wdC 22) := by unfold WD; decide +kernel
theorem WD_4 : WD 4 (dec 18446744073709551616) := by unfold WD; decide +kernel
theorem WD_5 : WD 5 [92, 117, 48, 48] := by unfold WD; decide +kernel
theorem drop_get {W : List Nat} {k : Nat} (h : k < W.length) : W.drop k = W.getD k 0 :: W.drop (k + 1) := by
  rw [List.drop_eq_getElem_cons h, List.getD_eq_getElem?_getD, List.getElem?_eq_getElem h]
  rfl
theorem putWord_loop {sI : Nat} {W : List Nat} (hw : WD sI W) : ∀ (m k f : Nat) (r : RSt) (l : List Nat), k + m = W.length → m < f → RowL 6000 r l → l.length + m ≤ 200000 → ∃ r', rr_putWord_L2 6000 sI f (nI k) r = some r' ∧ RowL 6000 r' (l ++ W.drop k) := by
  obtain ⟨⟨h1, h2, h3⟩, h4⟩ := hw
  intro m
  induction m with
  | zero =>
    intro k f r l hk hf h hl
    obtain ⟨f, rfl⟩ : ∃ g, f = g + 1 := ⟨f - 1, by omega⟩
    refine ⟨r, ?_, by rw [List.drop_of_length_le (by omega), List.append_nil]; exact h⟩
    show rr_putWord_b2 6000 sI _ _ r = _
    unfold rr_putWord_b2
    rw [h1, if_pos (nI_le (by omega) (by omega))]
  | succ m ih =>
    intro k f r l hk hf h hl
    obtain ⟨f, rfl⟩ : ∃ g, f = g + 1 := ⟨f - 1, by omega⟩
    have g := h4 k (by omega)
    show ∃ r', rr_putWord_b2 6000 sI (rr_putWord_L2 6000 sI f) (nI k) r = _ ∧ _
    unfold rr_putWord_b2
    obtain ⟨r1, e1, q1⟩ := rr_putN h (by omega) g.2 g.1
    rw [h1, if_neg (nI_ge (by omega) (by omega)), h2, ck_in (vp_in_nI (by omega) (by omega)), bd_of e1]
    simp only [lt]
    rw [nI_1]
    obtain ⟨r2, e2, q2⟩ := ih (k + 1) f r1 _ (by omega) (by omega) q1 (by rw [len_snoc]; omega)
    refine ⟨r2, e2, ?_⟩
    rw [drop_get (show k < W.length by omega)]
    rw [List.append_assoc] at q2
    exact q2
theorem z_putWord_loop {sI : Nat} {W : List Nat} (hw : WD sI W) : ∀ (m k f : Nat) (r : RSt) (l : List Nat), k + m = W.length → m < f → RowL 0 r l → l.length + m ≤ 200000 → ∃ r', rr_putWord_L2 0 sI f (nI k) r = some r' ∧ RowL 0 r' (l ++ W.drop k) := by
  obtain ⟨⟨h1, h2, h3⟩, h4⟩ := hw
  intro m
  induction m with
  | zero =>
    intro k f r l hk hf h hl
    obtain ⟨f, rfl⟩ : ∃ g, f = g + 1 := ⟨f - 1, by omega⟩
    refine ⟨r, ?_, by rw [List.drop_of_length_le (by omega), List.append_nil]; exact h⟩
    show rr_putWord_b2 0 sI _ _ r = _
    unfold rr_putWord_b2
    rw [h1, if_pos (nI_le (by omega) (by omega))]
  | succ m ih =>
    intro k f r l hk hf h hl
    obtain ⟨f, rfl⟩ : ∃ g, f = g + 1 := ⟨f - 1, by omega⟩
    have g := h4 k (by omega)
    show ∃ r', rr_putWord_b2 0 sI (rr_putWord_L2 0 sI f) (nI k) r = _ ∧ _
    unfold rr_putWord_b2
    obtain ⟨r1, e1, q1⟩ := z_rr_putN h (by omega) g.2 g.1
    rw [h1, if_neg (nI_ge (by omega) (by omega)), h2, ck_in (vp_in_nI (by omega) (by omega)), bd_of e1]
    simp only [lt]
    rw [nI_1]
    obtain ⟨r2, e2, q2⟩ := ih (k + 1) f r1 _ (by omega) (by omega) q1 (by rw [len_snoc]; omega)
    refine ⟨r2, e2, ?_⟩
    rw [drop_get (show k < W.length by omega)]
    rw [List.append_assoc] at q2
    exact q2
theorem putWord_row {sI : Nat} {W : List Nat} (hw : WD sI W) {r : RSt} {l : List Nat} (h : RowL 6000 r l) (hl : l.length + 20 ≤ 200000) : ∃ r', rr_putWord 6000 sI r = some r' ∧ RowL 6000 r' (l ++ W) := by
  have := hw.1.2.2
  exact putWord_loop hw W.length 0 FU r l (by omega) (by show _ < 100000; omega) h (by omega)

theorem z_putWord_row {sI : Nat} {W : List Nat} (hw : WD sI W) {r : RSt} {l : List Nat} (h : RowL 0 r l) (hl : l.length + 20 ≤ 200000) : ∃ r', rr_putWord 0 sI r = some r' ∧ RowL 0 r' (l ++ W) := by
  have := hw.1.2.2
  exact z_putWord_loop hw W.length 0 FU r l (by omega) (by show _ < 100000; omega) h (by omega)
