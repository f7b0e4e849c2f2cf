/-! PURE D: heads in a row (the wb_ rows are the kit's own, pasted) -/
theorem wb_tb (n : Nat) : (lN n).toBitVec = BitVec.ofNat 64 n := rfl
theorem wb_inj {a b : Int64} (h : a.toBitVec = b.toBitVec) : a = b := Int64.toBitVec_inj.mp h
theorem wb_tn {n : Nat} (h : n < 2 ^ 64) : (lN n).toBitVec.toNat = n := by rw [wb_tb, BitVec.toNat_ofNat, Nat.mod_eq_of_lt h]
theorem wb_of (x : Int64) : ∃ n, n < 2 ^ 64 ∧ x = lN n := ⟨x.toBitVec.toNat, x.toBitVec.isLt, wb_inj (by rw [wb_tb]; simp)⟩
theorem wb_of32 (x : Int32) : ∃ n, n < 2 ^ 32 ∧ x = nI n := ⟨x.toBitVec.toNat, x.toBitVec.isLt, Int32.toBitVec_inj.mp (by show _ = BitVec.ofNat 32 _; simp)⟩
theorem wb_c : ∀ k, k < 64 → ((nI k).toInt64 &&& 63) = lN k := by decide +kernel
theorem wb_cu : ∀ k, k < 64 → ((nI k).toInt64.toUInt64 &&& Int64.toUInt64 63) = UInt64.ofNat k := by decide +kernel
theorem wb_sm : ∀ k, k < 64 → (BitVec.ofNat 64 k).smod 64 = BitVec.ofNat 64 k := by decide +kernel
theorem wb_pw {a b : Nat} (h : a ≤ b) : 2 ^ b = 2 ^ a * 2 ^ (b - a) := by rw [← Nat.pow_add]; congr 1; omega
theorem wb_lt2 {a b : Nat} (h : a < b) : 2 ^ a < 2 ^ b := Nat.pow_lt_pow_right (by decide) h
theorem wb_mod (n : Nat) : lN n = lN (n % 2 ^ 64) := wb_inj (by rw [wb_tb, wb_tb]; apply BitVec.eq_of_toNat_eq; rw [BitVec.toNat_ofNat, BitVec.toNat_ofNat, Nat.mod_mod])
theorem wb_shr {n k : Nat} (hn : n < 2 ^ 64) (hk : k < 64) : ((lN n).toUInt64 >>> ((nI k).toInt64.toUInt64 &&& Int64.toUInt64 63)).toInt64 = lN (n / 2 ^ k) := by
  rw [wb_cu k hk]
  apply wb_inj
  apply BitVec.eq_of_toNat_eq
  show ((lN n).toUInt64 >>> UInt64.ofNat k).toNat = (BitVec.ofNat 64 _).toNat
  have h1 : (UInt64.ofNat k).toNat = k := by
    show (BitVec.ofNat 64 k).toNat = k
    rw [BitVec.toNat_ofNat, Nat.mod_eq_of_lt (by omega)]
  have h2 : (lN n).toUInt64.toNat = n := wb_tn hn
  rw [UInt64.toNat_shiftRight, h1, h2, Nat.mod_eq_of_lt hk, Nat.shiftRight_eq_div_pow, BitVec.toNat_ofNat, Nat.mod_eq_of_lt (Nat.lt_of_le_of_lt (Nat.div_le_self _ _) hn)]
theorem wb_shl (n : Nat) {k : Nat} (hk : k < 64) : lN n <<< ((nI k).toInt64 &&& 63) = lN (n * 2 ^ k) := by
  rw [wb_c k hk]
  apply wb_inj
  rw [Int64.toBitVec_shiftLeft, wb_tb, wb_tb, wb_tb, wb_sm k hk]
  apply BitVec.eq_of_toNat_eq
  rw [BitVec.shiftLeft_eq', BitVec.toNat_shiftLeft, BitVec.toNat_ofNat, BitVec.toNat_ofNat, BitVec.toNat_ofNat, Nat.mod_eq_of_lt (show k < 2 ^ 64 by omega), Nat.shiftLeft_eq, Nat.mul_mod, Nat.mod_mod, ← Nat.mul_mod]
theorem wb_and {a b : Nat} (ha : a < 2 ^ 64) (hb : b < 2 ^ 64) : lN a &&& lN b = lN (a &&& b) := by
  apply wb_inj
  rw [Int64.toBitVec_and, wb_tb, wb_tb, wb_tb]
  apply BitVec.eq_of_toNat_eq
  rw [BitVec.toNat_and, BitVec.toNat_ofNat, BitVec.toNat_ofNat, BitVec.toNat_ofNat, Nat.mod_eq_of_lt ha, Nat.mod_eq_of_lt hb, Nat.mod_eq_of_lt (Nat.and_lt_two_pow _ hb)]
theorem wb_or {a b : Nat} (ha : a < 2 ^ 64) (hb : b < 2 ^ 64) : lN a ||| lN b = lN (a ||| b) := by
  apply wb_inj
  rw [Int64.toBitVec_or, wb_tb, wb_tb, wb_tb]
  apply BitVec.eq_of_toNat_eq
  rw [BitVec.toNat_or, BitVec.toNat_ofNat, BitVec.toNat_ofNat, BitVec.toNat_ofNat, Nat.mod_eq_of_lt ha, Nat.mod_eq_of_lt hb, Nat.mod_eq_of_lt (Nat.or_lt_two_pow ha hb)]
theorem wb_mask {n k : Nat} (hn : n < 2 ^ 64) (hk : k < 64) : lN n &&& lN (2 ^ k - 1) = lN (n % 2 ^ k) := by
  rw [wb_and hn (by have := wb_lt2 hk; omega), Nat.and_two_pow_sub_one_eq_mod]
theorem wb_a1 {n : Nat} (hn : n < 2 ^ 64) : lN n &&& 1 = lN (n % 2) := wb_mask (k := 1) hn (by decide)
theorem wb_bit {n k : Nat} (hn : n < 2 ^ 64) (hk : k < 64) : ((lN n).toUInt64 >>> ((nI k).toInt64.toUInt64 &&& Int64.toUInt64 63)).toInt64 &&& 1 = lN (n / 2 ^ k % 2) := by
  rw [wb_shr hn hk, wb_a1 (Nat.lt_of_le_of_lt (Nat.div_le_self _ _) hn)]
theorem wb_xor {q k : Nat} (hk : k < 63) (h : 2 ^ k ≤ q) (h2 : q < 2 ^ (k + 1)) : lN q ^^^ lN (2 ^ k) = lN (q - 2 ^ k) := by
  obtain ⟨r, rfl⟩ : ∃ r, q = 2 ^ k + r := ⟨q - 2 ^ k, by omega⟩
  have hr : r < 2 ^ k := by rw [Nat.pow_succ] at h2; omega
  have hx : (2 ^ k + r) ^^^ 2 ^ k = r := by
    apply Nat.eq_of_testBit_eq
    intro i
    rw [Nat.testBit_xor, Nat.testBit_two_pow]
    rcases Nat.lt_trichotomy i k with h | h | h
    · rw [Nat.testBit_two_pow_add_gt h]
      simp [show ¬ k = i by omega]
    · subst h
      rw [Nat.testBit_two_pow_add_eq]
      simp
    · have a1 : 2 ^ (k + 1) ≤ 2 ^ i := Nat.pow_le_pow_right (by decide) h
      rw [Nat.testBit_lt_two_pow (show 2 ^ k + r < 2 ^ i by omega), Nat.testBit_lt_two_pow (show r < 2 ^ i by omega)]
      simp [show ¬ k = i by omega]
  have b1 := wb_lt2 (show k + 1 < 64 by omega)
  have b2 := wb_lt2 (show k < 64 by omega)
  apply wb_inj
  rw [Int64.toBitVec_xor, wb_tb, wb_tb, wb_tb]
  apply BitVec.eq_of_toNat_eq
  rw [BitVec.toNat_xor, BitVec.toNat_ofNat, BitVec.toNat_ofNat, BitVec.toNat_ofNat, Nat.mod_eq_of_lt (by omega : 2 ^ k + r < 2 ^ 64), Nat.mod_eq_of_lt b2, hx, Nat.add_sub_cancel_left, Nat.mod_eq_of_lt (by omega)]
theorem lN_ti {m : Nat} (h : m < 2 ^ 64) : (lN m).toInt = if m < 2 ^ 63 then (m : Int) else (m : Int) - 2 ^ 64 := by
  have c := BitVec.toInt_eq_toNat_cond (lN m).toBitVec
  rw [wb_tn h] at c
  show (lN m).toBitVec.toInt = _
  rw [c]
  split <;> split <;> omega
theorem lowb_nI' (n : Nat) : lowb (nI n) = n % 256 := by
  show (BitVec.ofNat 32 n).toNat % 256 = n % 256
  rw [BitVec.toNat_ofNat]
  omega
def inf (u : Nat) : Nat := if u < 24 then u else if u < 256 then 24 else if u < 65536 then 25 else if u < 4294967296 then 26 else 27
def nb (u : Nat) : Nat := if u < 24 then 0 else if u < 256 then 1 else if u < 65536 then 2 else if u < 4294967296 then 4 else 8
def be (k u : Nat) : List Nat := (List.range k).map (fun i => u / 2 ^ (8 * (k - 1 - i)) % 256)
def hd (t u : Nat) : List Nat := (32 * t + inf u) :: be (nb u) u
theorem be_len (k u : Nat) : (be k u).length = k := by simp [be]
theorem hd_len (t u : Nat) : (hd t u).length = nb u + 1 := by simp [hd, be_len]
theorem nb_le (u : Nat) : nb u ≤ 8 := by unfold nb; split <;> (try split) <;> (try split) <;> (try split) <;> omega
theorem inf_lt (u : Nat) : inf u < 28 := by unfold inf; split <;> (try split) <;> (try split) <;> (try split) <;> omega
theorem be_at {k u i : Nat} (h : i < k) : (be k u).getD i 0 = u / 2 ^ (8 * (k - 1 - i)) % 256 := by
  unfold be
  rw [List.getD_eq_getElem?_getD, List.getElem?_map, List.getElem?_range h]
  rfl
theorem be_lt (k u : Nat) : ∀ x ∈ be k u, x < 256 := by
  intro x hx
  obtain ⟨i, -, rfl⟩ := List.mem_map.mp hx
  exact Nat.mod_lt _ (by decide)
theorem shortestInfo_eq {u : Nat} (hu : u < 2 ^ 64) : eX4_shortestInfo (lN u) = nI (inf u) := by
  have ti := lN_ti hu
  have lt_lit : ∀ (k : Nat), k < 2 ^ 40 → (lN k ≤ lN u ↔ (k : Int) ≤ (lN u).toInt) := by
    intro k hk
    rw [Int64.le_iff_toInt_le, pk_lT (show k < 2 ^ 63 by omega)]
  have le_lit : ∀ (k : Nat), k < 2 ^ 40 → (lN u ≤ lN k ↔ (lN u).toInt ≤ (k : Int)) := by
    intro k hk
    rw [Int64.le_iff_toInt_le, pk_lT (show k < 2 ^ 63 by omega)]
  unfold eX4_shortestInfo inf
  show (if lN u < lN 0 then (27 : Int32) else (if lN u ≤ lN 4294967295 then (if lN 24 ≤ lN u then (if lN 256 ≤ lN u then (if lN 65536 ≤ lN u then (26 : Int32) else (25 : Int32)) else (24 : Int32)) else (Int64.toInt32 (lN u))) else (27 : Int32))) = _
  by_cases c0 : u < 2 ^ 63
  · rw [if_pos c0] at ti
    rw [if_neg (show ¬ lN u < lN 0 by rw [Int64.lt_iff_toInt_lt, pk_lT (show 0 < 2 ^ 63 by decide), ti]; omega)]
    by_cases c1 : u ≤ 4294967295
    · rw [if_pos ((le_lit 4294967295 (by decide)).mpr (by rw [ti]; omega))]
      by_cases c2 : u < 24
      · rw [if_neg (show ¬ lN 24 ≤ lN u from fun z => by have := (lt_lit 24 (by decide)).mp z; rw [ti] at this; omega), if_pos c2]
        exact lN_i u
      · rw [if_pos ((lt_lit 24 (by decide)).mpr (by rw [ti]; omega)), if_neg c2]
        by_cases c3 : u < 256
        · rw [if_neg (show ¬ lN 256 ≤ lN u from fun z => by have := (lt_lit 256 (by decide)).mp z; rw [ti] at this; omega), if_pos c3]
          rfl
        · rw [if_pos ((lt_lit 256 (by decide)).mpr (by rw [ti]; omega)), if_neg c3]
          by_cases c4 : u < 65536
          · rw [if_neg (show ¬ lN 65536 ≤ lN u from fun z => by have := (lt_lit 65536 (by decide)).mp z; rw [ti] at this; omega), if_pos c4]
            rfl
          · rw [if_pos ((lt_lit 65536 (by decide)).mpr (by rw [ti]; omega)), if_neg c4, if_pos (by omega)]
            rfl
    · rw [if_neg (show ¬ lN u ≤ lN 4294967295 from fun z => by have := (le_lit 4294967295 (by decide)).mp z; rw [ti] at this; omega), if_neg (by omega), if_neg (by omega), if_neg (by omega), if_neg (by omega)]
      rfl
  · rw [if_neg c0] at ti
    rw [if_pos (show lN u < lN 0 by rw [Int64.lt_iff_toInt_lt, pk_lT (show 0 < 2 ^ 63 by decide), ti]; omega), if_neg (by omega), if_neg (by omega), if_neg (by omega), if_neg (by omega)]
    rfl
theorem bytesBehind_lit : ∀ i, i < 32 → eX4_bytesBehind (nI i) = nI (if i < 24 then 0 else if i = 24 then 1 else if i = 25 then 2 else if i = 26 then 4 else if i = 27 then 8 else 0) := by decide +kernel
theorem bytesBehind_eq (u : Nat) : eX4_bytesBehind (nI (inf u)) = nI (nb u) := by
  rw [bytesBehind_lit _ (by have := inf_lt u; omega)]
  congr 1
  unfold inf nb
  split <;> (try split) <;> (try split) <;> (try split) <;> simp_all <;> omega
theorem first_byte : ∀ t, t < 8 → ∀ i, i < 28 → lowb ((nI t <<< ((5 : Int32) &&& 31)) ||| nI i) = 32 * t + i := by decide +kernel
theorem set_row {N : Nat} {r : RSt} {n p : Nat} (hsz : rf_sz r = nI n) (hn : n < 2 ^ 31) (hN : N < 2 ^ 31) (hp : p < 2 ^ 31) (v : Int32) : ∃ r', rr_set N (nI p) v r = some r' ∧ rf_sz r' = nI n ∧ (p < n → p < N → rf_f r' p = bb (lowb v)) ∧ ∀ j, j ≠ p → rf_f r' j = rf_f r j := by
  unfold rr_set
  rw [if_neg (nI_pos hp), hsz]
  by_cases c1 : p < n
  · rw [if_neg (nI_ge c1 hn)]
    by_cases c2 : p < N
    · rw [if_neg (show ¬ Int32.ofNat N ≤ nI p from nI_ge c2 hN), ck_in (vp_in_nI c2 hN), nI_clamp hp, bb_nar]
      refine ⟨_, rfl, by rw [rG_sz_f]; exact hsz, fun _ _ => by rw [rG_f_f, pk_us], fun j hj => by rw [rG_f_f, pk_un hj]⟩
    · rw [if_pos (show Int32.ofNat N ≤ nI p from nI_le (by omega) hp)]
      exact ⟨r, rfl, hsz, fun _ h => absurd h c2, fun j _ => rfl⟩
  · rw [if_pos (nI_le (by omega) hp)]
    exact ⟨r, rfl, hsz, fun h _ => absurd h c1, fun j _ => rfl⟩
theorem gap_row {N : Nat} {r : RSt} {l : List Nat} (h : RowL N r l) (hN8 : N = 0 ∨ 8 ≤ N) (hN : N < 2 ^ 30) (hl : l.length + 8 < 2 ^ 30) {p k : Nat} (hp : p + 1 ≤ l.length) (hk : k ≤ 8) : ∃ r', rr_makeGap N (nI (p + 1)) (nI k) r = some r' ∧ rf_sz r' = nI (l.length + k) ∧ (∀ j, j ≤ p → rf_f r' j = rf_f r j) ∧ ∀ j, p + 1 ≤ j → j < l.length → j + k < N → rf_f r' (j + k) = rf_f r j := by
  obtain ⟨h1, h2, h3⟩ := h
  have hb45 : ∀ r2 : RSt, rf_sz r2 = nI l.length → rr_makeGap_b45 N (nI k) r2 = some (rs_sz r2 (nI (l.length + k))) := by
    intro r2 e
    unfold rr_makeGap_b45
    rw [e, nI_add]
  unfold rr_makeGap
  simp only [lt]
  rw [if_neg (nI_pos (by omega)), h1]
  by_cases c1 : k = 0
  · subst c1
    rw [if_pos (by decide), hb45 r h1]
    exact ⟨_, rfl, by rw [rG_sz_sz], fun j _ => by rw [rG_f_sz], fun j _ _ _ => by rw [rG_f_sz]; rfl⟩
  rw [if_neg (show ¬ nI k ≤ 0 from nI_nle (by omega) (by omega))]
  rcases hN8 with hN0 | hN8
  · subst hN0
    have g1 : nI 0 - nI k < nI l.length := by
      rw [Int32.lt_iff_toInt_lt, pk_sub_toInt (by omega) (by omega), nI_toInt (by omega)]
      omega
    have g2 : nI 0 - nI k - nI (p + 1) ≤ 0 := by
      rw [Int32.sub_sub, nI_add, Int32.le_iff_toInt_le, pk_sub_toInt (by omega) (by omega), Int32.toInt_zero]
      omega
    rw [if_pos (show Int32.ofNat 0 - nI k < nI l.length from g1), if_pos (show Int32.ofNat 0 - nI k - nI (p + 1) ≤ 0 from g2), hb45 r h1]
    exact ⟨_, rfl, by rw [rG_sz_sz], fun j _ => by rw [rG_f_sz], fun j _ _ g3 => absurd g3 (Nat.not_lt_zero _)⟩
  rw [show Int32.ofNat N - nI k = nI (N - k) from pk_sub (by omega)]
  have hmin : (if nI (N - k) < nI l.length then nI (N - k) else nI l.length) = nI (min (N - k) l.length) := by
    by_cases c : N - k < l.length
    · rw [if_pos (nI_lt c (by omega)), Nat.min_eq_left (by omega)]
    · rw [if_neg (nI_nlt (by omega) (by omega)), Nat.min_eq_right (by omega)]
  rw [hmin]
  by_cases c2 : min (N - k) l.length ≤ p + 1
  · rw [if_pos (show nI (min (N - k) l.length) - nI (p + 1) ≤ 0 by
      rw [Int32.le_iff_toInt_le, pk_sub_toInt (by omega) (by omega), Int32.toInt_zero]; omega), hb45 r h1]
    exact ⟨_, rfl, by rw [rG_sz_sz], fun j _ => by rw [rG_f_sz], fun j g1 g2 g3 => by omega⟩
  · rw [pk_sub (by omega), if_neg (nI_nle (by omega) (by omega)), nI_add, cka_ok]
    · rw [hb45 _ (by rw [rG_sz_f]; exact h1), nI_clamp (by omega), nI_clamp (by omega), nI_clamp (by omega)]
      refine ⟨_, rfl, by rw [rG_sz_sz], fun j hj => ?_, fun j g1 g2 g3 => ?_⟩
      · rw [rG_f_sz, rG_f_f, pk_cpy_out (by omega)]
      · rw [rG_f_sz, rG_f_f, pk_cpy_in (by omega) (by omega)]
        congr 1
        omega
    · refine ⟨nI_pos (by omega), nI_pos (by omega), nI_pos (by omega), ?_, ?_, ?_⟩
      · rw [nI_clamp (by omega), nI_clamp (by omega)]; omega
      · rw [nI_clamp (by omega), nI_clamp (by omega)]; omega
      · rw [nI_clamp (by omega), nI_clamp (by omega), List.all_eq_true]
        intro i hi
        have hi := List.mem_range.mp hi
        rw [h2 _ (by omega) (by omega)]
        exact bb_fits _
theorem head_loop {N n p k u : Nat} (hN : N < 2 ^ 30) (hn : n < 2 ^ 30) (hk : k ≤ 8) (hpk : p + 1 + k ≤ n) (hu : u < 2 ^ 64) : ∀ (m i f : Nat) (r : RSt), i + m = k → m < f → rf_sz r = nI n → ∃ r', rr_closeHead_L36 N f (nI p) (lN u) (nI k) (nI i) r = some r' ∧ rf_sz r' = nI n ∧ (∀ j, i ≤ j → j < k → p + 1 + j < N → rf_f r' (p + 1 + j) = bb (u / 2 ^ (8 * (k - 1 - j)) % 256)) ∧ ∀ j, (j < p + 1 + i ∨ p + 1 + k ≤ j) → rf_f r' j = rf_f r j := by
  intro m
  induction m with
  | zero =>
    intro i f r hi hf hr
    obtain ⟨f, rfl⟩ : ∃ g, f = g + 1 := ⟨f - 1, by omega⟩
    refine ⟨r, ?_, hr, fun j h1 h2 => by omega, fun j _ => rfl⟩
    show rr_closeHead_b36 N _ (nI p) (lN u) (nI k) (nI i) r = _
    unfold rr_closeHead_b36
    rw [if_pos (nI_le (by omega) (by omega))]
  | succ m ih =>
    intro i f r hi hf hr
    obtain ⟨f, rfl⟩ : ∃ g, f = g + 1 := ⟨f - 1, by omega⟩
    show ∃ r', rr_closeHead_b36 N (rr_closeHead_L36 N f) (nI p) (lN u) (nI k) (nI i) r = some r' ∧ _
    unfold rr_closeHead_b36
    rw [if_neg (nI_ge (by omega) (by omega)), show (nI p + 1) + nI i = nI (p + 1 + i) by rw [nI_1, nI_add],
      show nI k - 1 = nI (k - 1) from pk_sub (b := 1) (by omega), pk_sub (by omega), show (8 : Int32) * nI (k - 1 - i) = nI (8 * (k - 1 - i)) from pk_mul 8 _, wb_shr hu (by omega), lN_i]
    obtain ⟨r1, e1, e2, e3, e4⟩ := set_row (N := N) (p := p + 1 + i) hr (by omega) (by omega) (by omega) (nI (u / 2 ^ (8 * (k - 1 - i))))
    rw [bd_of e1]
    simp only [lt]
    rw [nI_1]
    obtain ⟨r2, f1, f2, f3, f4⟩ := ih (i + 1) f r1 (by omega) (by omega) e2
    refine ⟨r2, f1, f2, fun j g1 g2 g3 => ?_, fun j g => ?_⟩
    · by_cases hj : j = i
      · subst hj
        rw [f4 _ (Or.inl (by omega)), e3 (by omega) g3, lowb_nI']
      · exact f3 j (by omega) g2 g3
    · rw [f4 j (by omega), e4 j (by omega)]
theorem closeHead_row {N : Nat} {r : RSt} {pre suf : List Nat} {x : Nat} (h : RowL N r (pre ++ x :: suf)) (hN8 : N = 0 ∨ 8 ≤ N) (hN : N < 2 ^ 30) (hl : pre.length + suf.length + 10 < 2 ^ 30) {t u : Nat} (ht : t < 8) (hu : u < 2 ^ 64) : ∃ r', rr_closeHead N (nI pre.length) (nI t) (lN u) r = some r' ∧ RowL N r' (pre ++ hd t u ++ suf) := by
  have hlen : (pre ++ x :: suf).length = pre.length + 1 + suf.length := by simp; omega
  have hlen2 : (pre ++ hd t u ++ suf).length = pre.length + 1 + suf.length + nb u := by simp [hd_len]; omega
  have hb8 := nb_le u
  unfold rr_closeHead
  simp only [lt]
  rw [shortestInfo_eq hu, bytesBehind_eq, nI_1]
  obtain ⟨r1, a1, a2, a3, a4⟩ := gap_row h hN8 hN (by omega) (p := pre.length) (k := nb u) (by omega) hb8
  rw [bd_of a1]
  obtain ⟨r2, b1, b2, b3, b4⟩ := set_row (N := N) (p := pre.length) a2 (by omega) (by omega) (by omega) ((nI t <<< ((5 : Int32) &&& 31)) ||| nI (inf u))
  rw [bd_of b1]
  obtain ⟨r3, c1, c2, c3, c4⟩ := head_loop (N := N) (n := (pre ++ x :: suf).length + nb u) (p := pre.length) (k := nb u) (u := u) hN (by omega) hb8 (by omega) hu (nb u) 0 FU r2 (by omega) (by show nb u < 100000; omega) b2
  refine ⟨r3, c1, ?_, ?_, ?_⟩
  · rw [c2, hlen, hlen2]
  · intro i hi hiN
    rw [hlen2] at hi
    by_cases q1 : i < pre.length
    · rw [c4 i (by omega), b4 i (by omega), a3 i (by omega), h.2.1 i (by omega) hiN, getD_app q1, List.append_assoc, getD_app q1]
    · by_cases q2 : i = pre.length
      · subst q2
        rw [c4 _ (by omega), b3 (by omega) hiN, first_byte t ht _ (inf_lt u), List.append_assoc, getD_app2 (Nat.le_refl _), Nat.sub_self]
        rfl
      · by_cases q3 : i < pre.length + 1 + nb u
        · have e : i = pre.length + 1 + (i - pre.length - 1) := by omega
          rw [e, c3 (i - pre.length - 1) (Nat.zero_le _) (by omega) (by omega), List.append_assoc, getD_app2 (by omega), getD_app (by rw [hd_len]; omega)]
          rw [show pre.length + 1 + (i - pre.length - 1) - pre.length = (i - pre.length - 1) + 1 by omega]
          show _ = bb ((be (nb u) u).getD (i - pre.length - 1) 0)
          rw [be_at (by omega)]
        · have e : i = (i - nb u) + nb u := by omega
          rw [c4 i (by omega), b4 i (by omega), e, a4 (i - nb u) (by omega) (by omega) (by omega), h.2.1 (i - nb u) (by omega) (by omega), getD_app2 (by omega), getD_app2 (by simp [hd_len]; omega)]
          have e2 : i - nb u - pre.length = (i - nb u - pre.length - 1) + 1 := by omega
          rw [e2]
          show bb (suf.getD (i - nb u - pre.length - 1) 0) = _
          congr 2
          simp [hd_len]
          omega
  · intro y hy
    rcases List.mem_append.mp hy with hy | hy
    · rcases List.mem_append.mp hy with hy | hy
      · exact h.2.2 y (List.mem_append_left _ hy)
      · rcases List.mem_cons.mp hy with hy | hy
        · rw [hy]; have := inf_lt u; omega
        · exact be_lt _ _ y hy
    · exact h.2.2 y (List.mem_append_right _ (List.mem_cons_of_mem _ hy))
theorem openHead_row {N : Nat} {r : RSt} {l : List Nat} (h : RowL N r l) (hN : N < 2 ^ 30) (hl : l.length + 1 < 2 ^ 30) : ∃ r', rr_openHead N r = some (nI l.length, r') ∧ RowL N r' (l ++ [0]) := by
  obtain ⟨r1, e1, e2⟩ := rr_put_row h (by omega) (by omega) 0
  unfold rr_openHead
  rw [bd_of e1]
  refine ⟨r1, ?_, e2⟩
  rw [e2.1, List.length_append]
  show some (nI (l.length + 1) - 1, r1) = _
  rw [nI_pred]
theorem putHead_row {N : Nat} {r : RSt} {l : List Nat} (h : RowL N r l) (hN8 : N = 0 ∨ 8 ≤ N) (hN : N < 2 ^ 30) (hl : l.length + 20 < 2 ^ 30) {t u : Nat} (ht : t < 8) (hu : u < 2 ^ 64) : ∃ r', rr_putHead N (nI t) (lN u) r = some r' ∧ RowL N r' (l ++ hd t u) := by
  unfold rr_putHead
  obtain ⟨r1, e1, h1⟩ := openHead_row h hN (by omega)
  rw [bd_of e1]
  obtain ⟨r2, e2, h2⟩ := closeHead_row (pre := l) (suf := []) (x := 0) h1 hN8 hN (by simp; omega) ht hu
  rw [bd_of e2]
  exact ⟨r2, rfl, by simpa using h2⟩
