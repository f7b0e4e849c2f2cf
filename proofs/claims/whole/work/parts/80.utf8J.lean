/-! PURE K: how many bytes a sign has, in the class -/
theorem lbf_eq {b : Nat} (hb : b < 256) : eX4_lengthByFirst (nI b) = nI (if b < 128 then 1 else if b < 194 then 0 else if 244 < b then 0 else nSg b) := by
  unfold eX4_lengthByFirst nSg
  rw [if_neg (nI_pos (by omega))]
  by_cases c1 : b < 128
  · rw [if_pos (show nI b ≤ (244 : Int32) from nI_le (b := 244) (by omega) (by decide)), if_neg (show ¬ (128 : Int32) ≤ nI b from nI_ge c1 (by decide)), if_pos c1]
    rfl
  by_cases c3 : 244 < b
  · rw [if_neg (show ¬ nI b ≤ (244 : Int32) from nI_ge c3 (by omega)), if_neg c1, if_neg (by omega), if_pos c3]
    rfl
  rw [if_pos (show nI b ≤ (244 : Int32) from nI_le (b := 244) (by omega) (by decide)), if_pos (show (128 : Int32) ≤ nI b from nI_le (a := 128) (by omega) (by omega)), if_neg c1]
  by_cases c2 : b < 194
  · rw [if_neg (show ¬ (194 : Int32) ≤ nI b from nI_ge c2 (by decide)), if_pos c2]
    rfl
  rw [if_pos (show (194 : Int32) ≤ nI b from nI_le (a := 194) (by omega) (by omega)), if_neg c2, if_neg c3]
  by_cases c4 : b < 224
  · rw [if_neg (show ¬ (224 : Int32) ≤ nI b from nI_ge c4 (by decide)), if_pos c4]
    rfl
  rw [if_pos (show (224 : Int32) ≤ nI b from nI_le (a := 224) (by omega) (by omega)), if_neg c4]
  by_cases c5 : b < 240
  · rw [if_neg (show ¬ (240 : Int32) ≤ nI b from nI_ge c5 (by decide)), if_pos c5]
    rfl
  rw [if_pos (show (240 : Int32) ≤ nI b from nI_le (a := 240) (by omega) (by omega)), if_neg c5]
  rfl
theorem isSign2 (c : Int32) : eX4_isSignOf c (nI 2) = true := by
  unfold eX4_isSignOf
  rw [if_neg (by decide), if_neg (by decide)]
theorem isSign3 {c : Nat} (hc : c < 2 ^ 30) : eX4_isSignOf (nI c) (nI 3) = decide (2048 ≤ c ∧ (c < 55296 ∨ 57343 < c)) := by
  unfold eX4_isSignOf
  rw [if_pos (by decide)]
  by_cases c1 : c < 2048
  · rw [if_pos (show nI c < (2048 : Int32) from nI_lt (b := 2048) c1 (by decide))]
    exact (decide_eq_false (by omega)).symm
  rw [if_neg (show ¬ nI c < (2048 : Int32) from nI_nlt (b := 2048) (by omega) (by omega))]
  by_cases c2 : c < 55296
  · rw [if_pos (show nI c < (55296 : Int32) from nI_lt (b := 55296) c2 (by decide))]
    exact (decide_eq_true (by omega)).symm
  rw [if_neg (show ¬ nI c < (55296 : Int32) from nI_nlt (b := 55296) (by omega) (by omega))]
  by_cases c3 : c ≤ 57343
  · rw [if_pos (show nI c ≤ (57343 : Int32) from nI_le (b := 57343) c3 (by decide))]
    exact (decide_eq_false (by omega)).symm
  · rw [if_neg (show ¬ nI c ≤ (57343 : Int32) from nI_ge (a := 57343) (by omega) (by omega))]
    exact (decide_eq_true (by omega)).symm
theorem isSign4 {c : Nat} (hc : c < 2 ^ 30) : eX4_isSignOf (nI c) (nI 4) = decide (65536 ≤ c ∧ c ≤ 1114111) := by
  unfold eX4_isSignOf
  rw [if_neg (by decide), if_pos (by decide)]
  by_cases c1 : c < 65536
  · rw [if_pos (show nI c < (65536 : Int32) from nI_lt (b := 65536) c1 (by decide))]
    exact (decide_eq_false (by omega)).symm
  rw [if_neg (show ¬ nI c < (65536 : Int32) from nI_nlt (b := 65536) (by omega) (by omega))]
  by_cases c2 : 1114111 < c
  · rw [if_pos (show (1114111 : Int32) < nI c from nI_lt (a := 1114111) c2 (by omega))]
    exact (decide_eq_false (by omega)).symm
  · rw [if_neg (show ¬ (1114111 : Int32) < nI c from nI_nlt (a := 1114111) (by omega) (by decide))]
    exact (decide_eq_true (by omega)).symm
theorem shl6 {c : Nat} (h : c < 2 ^ 20) {b : Nat} (hb : b < 64) : (nI c <<< ((6 : Int32) &&& 31)) ||| nI b = nI (c * 64 + b) := by
  rw [pk_shlN (n := c) ((6 : Int32) &&& 31) 6 (by decide) (by omega), show c * 2 ^ 6 = 2 ^ 6 * c by omega, fa_or_sum c hb]
theorem signLength_eq {tp : RSt} {t : List Nat} (hT : TpR tp t) {p e : Nat} (hp : p < e) (he : e ≤ t.length) : rr_signLength 4000 (nI p) (nI e) tp = some (nI (sgn t p e), tp) := by
  have hle := hT.2
  have h3 := hT.1.2.2
  have hb0 := getD_lt h3 p
  have hb1 := getD_lt h3 (p + 1)
  have hb2 := getD_lt h3 (p + 2)
  have hb3 := getD_lt h3 (p + 3)
  obtain ⟨f, hf⟩ : ∃ f, FU = f + 4 := ⟨99996, rfl⟩
  have stop : ∀ g n c, n ≤ 4 → rr_signLength_L46 4000 (g + 1) (nI p) (nI n) c (nI n) tp = if eX4_isSignOf c (nI n) = true then some (nI n, tp) else some (0, tp) := by
    intro g n c hn
    show rr_signLength_b46 4000 _ _ _ _ _ tp = _
    unfold rr_signLength_b46
    rw [if_pos (nI_le (Nat.le_refl _) (by omega))]
  have step : ∀ g n k c, k < n → n ≤ 4 → p + n ≤ e → c < 2 ^ 20 → rr_signLength_L46 4000 (g + 1) (nI p) (nI n) (nI c) (nI k) tp = if flw t (p + k) e 128 191 = true then rr_signLength_L46 4000 g (nI p) (nI n) (nI (c * 64 + t.getD (p + k) 0 % 64)) (nI (k + 1)) tp else some (0, tp) := by
    intro g n k c hk hn hpn hc
    have hb := getD_lt h3 (p + k)
    show rr_signLength_b46 4000 _ _ _ _ _ tp = _
    unfold rr_signLength_b46
    rw [if_neg (nI_ge hk (by omega)), nI_add, bd_of (hT.at (by omega)), gL_in (by omega)]
    simp only [lt]
    by_cases c1 : t.getD (p + k) 0 < 128
    · rw [if_pos (show nI (t.getD (p + k) 0) < (128 : Int32) from nI_lt (b := 128) c1 (by decide)), if_neg (fun z => by have := flw_t.mp z; omega)]
    · rw [if_neg (show ¬ nI (t.getD (p + k) 0) < (128 : Int32) from nI_nlt (b := 128) (by omega) (by omega))]
      by_cases c2 : t.getD (p + k) 0 ≤ 191
      · rw [if_pos (show nI (t.getD (p + k) 0) ≤ (191 : Int32) from nI_le (b := 191) c2 (by decide)), if_pos (flw_t.mpr ⟨by omega, by omega, c2⟩), pk_andN (m := 63) (by omega) 6 (by decide), shl6 hc (Nat.mod_lt _ (by decide)), nI_1]
      · rw [if_neg (show ¬ nI (t.getD (p + k) 0) ≤ (191 : Int32) from nI_ge (a := 191) (by omega) (by omega)), if_neg (fun z => by have := flw_t.mp z; omega)]
  unfold rr_signLength
  rw [bd_of (hT.at (by omega)), gL_in (by omega)]
  simp only [lt]
  rw [lbf_eq hb0]
  unfold sgn
  by_cases c1 : t.getD p 0 < 128
  · rw [if_pos c1, if_pos c1, if_neg (by decide)]
  rw [if_neg c1, if_neg c1]
  by_cases c2 : t.getD p 0 < 194
  · rw [if_pos c2, if_pos c2, if_neg (by decide)]
  rw [if_neg c2, if_neg c2]
  by_cases c3 : 244 < t.getD p 0
  · rw [if_pos c3, if_pos c3, if_neg (by decide)]
  rw [if_neg c3, if_neg c3, hf, pk_sub (by omega)]
  unfold nSg loSg hiSg
  by_cases d1 : t.getD p 0 < 224
  · rw [if_pos d1, if_pos (by decide)]
    by_cases d2 : p + 2 ≤ e
    · rw [if_pos (nI_le (by omega) (by omega)), show ((255 : Int32) >>> ((nI 2 + 1) &&& 31)) = 31 by decide, pk_andN (m := 31) (by omega) 5 (by decide), show (1 : Int32) = nI 1 from rfl, step (f + 3) 2 1 _ (by decide) (by decide) d2 (by omega)]
      by_cases q1 : flw t (p + 1) e 128 191 = true
      · rw [if_pos q1, stop (f + 2) 2 _ (by decide), isSign2, if_pos rfl, if_neg (show ¬ t.getD p 0 = 224 by omega), if_neg (show ¬ t.getD p 0 = 240 by omega), if_neg (show ¬ t.getD p 0 = 237 by omega), if_neg (show ¬ t.getD p 0 = 244 by omega), if_pos ⟨q1, Or.inl rfl, Or.inl (by decide)⟩]
      · rw [if_neg q1, if_neg (show ¬ t.getD p 0 = 224 by omega), if_neg (show ¬ t.getD p 0 = 240 by omega), if_neg (show ¬ t.getD p 0 = 237 by omega), if_neg (show ¬ t.getD p 0 = 244 by omega), if_neg (fun z => q1 z.1)]
        rfl
    · rw [if_neg (nI_ge (by omega) (by omega)), if_neg (fun z => by have := (flw_t.mp z.1).1; omega)]
      rfl
  rw [if_neg d1]
  by_cases d3 : t.getD p 0 < 240
  · rw [if_pos d3, if_pos (by decide)]
    by_cases d2 : p + 3 ≤ e
    · rw [if_pos (nI_le (by omega) (by omega)), show ((255 : Int32) >>> ((nI 3 + 1) &&& 31)) = 15 by decide, pk_andN (m := 15) (by omega) 4 (by decide), show (1 : Int32) = nI 1 from rfl, step (f + 3) 3 1 _ (by decide) (by decide) d2 (by omega)]
      by_cases q1 : flw t (p + 1) e 128 191 = true
      · have g1 := flw_t.mp q1
        rw [if_pos q1, step (f + 2) 3 2 _ (by decide) (by decide) d2 (by omega)]
        by_cases q2 : flw t (p + 2) e 128 191 = true
        · have g2 := flw_t.mp q2
          rw [if_pos q2, stop (f + 1) 3 _ (by decide), isSign3 (by omega)]
          by_cases q3 : 2048 ≤ (t.getD p 0 % 2 ^ 4 * 64 + t.getD (p + 1) 0 % 64) * 64 + t.getD (p + 2) 0 % 64 ∧ ((t.getD p 0 % 2 ^ 4 * 64 + t.getD (p + 1) 0 % 64) * 64 + t.getD (p + 2) 0 % 64 < 55296 ∨ 57343 < (t.getD p 0 % 2 ^ 4 * 64 + t.getD (p + 1) 0 % 64) * 64 + t.getD (p + 2) 0 % 64)
          · rw [decide_eq_true q3, if_pos rfl, if_pos ⟨flw_t.mpr ⟨g1.1, by split <;> (try split) <;> omega, by split <;> (try split) <;> omega⟩, Or.inr q2, Or.inl (by decide)⟩]
          · rw [decide_eq_false q3, if_neg (show ¬ false = true by decide), if_neg (fun z => q3 (by
              have g3 := flw_t.mp z.1
              obtain ⟨-, g4, g5⟩ := g3
              by_cases w1 : t.getD p 0 = 224
              · rw [if_pos w1] at g4; omega
              · by_cases w2 : t.getD p 0 = 237
                · rw [if_pos w2] at g5; omega
                · omega))]
            rfl
        · rw [if_neg q2, if_neg (fun z => z.2.1.elim (by decide) q2)]
          rfl
      · rw [if_neg q1, if_neg (fun z => q1 (by
          have g3 := flw_t.mp z.1
          obtain ⟨g0, g4, g5⟩ := g3
          refine flw_t.mpr ⟨g0, ?_, ?_⟩
          · split at g4 <;> (try split at g4) <;> omega
          · split at g5 <;> (try split at g5) <;> omega))]
        rfl
    · rw [if_neg (nI_ge (by omega) (by omega)), if_neg (fun z => by have := z.2.1.elim (fun y => absurd y (by decide)) (fun y => (flw_t.mp y).1); omega)]
      rfl
  rw [if_neg d3, if_pos (by decide)]
  by_cases d2 : p + 4 ≤ e
  · rw [if_pos (nI_le (by omega) (by omega)), show ((255 : Int32) >>> ((nI 4 + 1) &&& 31)) = 7 by decide, pk_andN (m := 7) (by omega) 3 (by decide), show (1 : Int32) = nI 1 from rfl, step (f + 3) 4 1 _ (by decide) (by decide) d2 (by omega)]
    by_cases q1 : flw t (p + 1) e 128 191 = true
    · have g1 := flw_t.mp q1
      rw [if_pos q1, step (f + 2) 4 2 _ (by decide) (by decide) d2 (by omega)]
      by_cases q2 : flw t (p + 2) e 128 191 = true
      · have g2 := flw_t.mp q2
        rw [if_pos q2, step (f + 1) 4 3 _ (by decide) (by decide) d2 (by omega)]
        by_cases q4 : flw t (p + 3) e 128 191 = true
        · have g4 := flw_t.mp q4
          rw [if_pos q4, stop f 4 _ (by decide), isSign4 (by omega)]
          by_cases q3 : 65536 ≤ ((t.getD p 0 % 2 ^ 3 * 64 + t.getD (p + 1) 0 % 64) * 64 + t.getD (p + 2) 0 % 64) * 64 + t.getD (p + 3) 0 % 64 ∧ ((t.getD p 0 % 2 ^ 3 * 64 + t.getD (p + 1) 0 % 64) * 64 + t.getD (p + 2) 0 % 64) * 64 + t.getD (p + 3) 0 % 64 ≤ 1114111
          · rw [decide_eq_true q3, if_pos rfl, if_pos ⟨flw_t.mpr ⟨g1.1, by split <;> (try split) <;> omega, by split <;> (try split) <;> omega⟩, Or.inr q2, Or.inr q4⟩]
          · rw [decide_eq_false q3, if_neg (show ¬ false = true by decide), if_neg (fun z => q3 (by
              have g3 := flw_t.mp z.1
              obtain ⟨-, g6, g5⟩ := g3
              by_cases w1 : t.getD p 0 = 240
              · rw [if_neg (by omega), if_pos w1] at g6; omega
              · by_cases w2 : t.getD p 0 = 244
                · rw [if_neg (by omega), if_pos w2] at g5; omega
                · omega))]
            rfl
        · rw [if_neg q4, if_neg (fun z => z.2.2.elim (fun y => y rfl) q4)]
          rfl
      · rw [if_neg q2, if_neg (fun z => z.2.1.elim (by decide) q2)]
        rfl
    · rw [if_neg q1, if_neg (fun z => q1 (by
        have g3 := flw_t.mp z.1
        obtain ⟨g0, g4, g5⟩ := g3
        refine flw_t.mpr ⟨g0, ?_, ?_⟩
        · split at g4 <;> (try split at g4) <;> omega
        · split at g5 <;> (try split at g5) <;> omega))]
      rfl
  · rw [if_neg (nI_ge (by omega) (by omega)), if_neg (fun z => by have := z.2.2.elim (fun y => absurd rfl y) (fun y => (flw_t.mp y).1); omega)]
    rfl
