/-! PURE L: one sign of a JSON string, in the class -/
def sl (t : List Nat) (p n : Nat) : List Nat := (t.drop p).take n
theorem sl_len {t : List Nat} {p n : Nat} (h : p + n ≤ t.length) : (sl t p n).length = n := by
  unfold sl
  rw [List.length_take, List.length_drop]
  omega
theorem sl_cons {t : List Nat} {p n : Nat} (h : p < t.length) : sl t p (n + 1) = t.getD p 0 :: sl t (p + 1) n := by
  unfold sl
  rw [List.drop_eq_getElem_cons h, List.take_succ_cons, List.getD_eq_getElem?_getD, List.getElem?_eq_getElem h]
  rfl
theorem sl_0 (t : List Nat) (p : Nat) : sl t p 0 = [] := by simp [sl]
theorem hexOf_eq (x : Int32) : eX5_hexOf x = eX1_hexValue x := rfl
theorem hex_all : ∀ v, v < 256 → (eX1_hexValue (nI v) = -1 ∨ ∃ d, d < 16 ∧ eX1_hexValue (nI v) = nI d) := by decide +kernel
/-- the hexadecimal digit at a place: 16 if there is none -/
def hx (t : List Nat) (i : Nat) : Nat := if eX1_hexValue (gL t i) = -1 then 16 else (eX1_hexValue (gL t i)).toNatClampNeg
theorem hx_spec {t : List Nat} (ht : ∀ x ∈ t, x < 256) (i : Nat) : (hx t i = 16 ∧ eX1_hexValue (gL t i) = -1) ∨ (hx t i < 16 ∧ eX1_hexValue (gL t i) = nI (hx t i) ∧ i < t.length) := by
  unfold hx
  rcases Nat.lt_or_ge i t.length with c | c
  · rw [gL_in c]
    rcases hex_all _ (getD_lt ht i) with h | ⟨d, hd, h⟩
    · exact Or.inl ⟨by rw [if_pos h], h⟩
    · refine Or.inr ?_
      rw [h, if_neg (show ¬ nI d = (-1 : Int32) from fun z => by
        have e := congrArg Int32.toInt z
        rw [nI_toInt (by omega)] at e
        have e2 : (-1 : Int32).toInt = -1 := by decide
        omega), nI_clamp (by omega)]
      exact ⟨hd, rfl, c⟩
  · rw [gL_out c]
    exact Or.inl ⟨by decide, by decide⟩
/-- the first of four places that has no hexadecimal digit; else the number -/
def hx4 (t : List Nat) (q : Nat) : Nat ⊕ Nat :=
  if hx t q = 16 then .inl q else if hx t (q + 1) = 16 then .inl (q + 1) else if hx t (q + 2) = 16 then .inl (q + 2) else if hx t (q + 3) = 16 then .inl (q + 3) else
  .inr (((hx t q * 16 + hx t (q + 1)) * 16 + hx t (q + 2)) * 16 + hx t (q + 3))
def utf (v : Nat) : List Nat := if v < 128 then [v] else if v < 2048 then [192 + v / 64, 128 + v % 64] else if v < 65536 then [224 + v / 4096, 128 + v / 64 % 64, 128 + v % 64] else [240 + v / 262144, 128 + v / 4096 % 64, 128 + v / 64 % 64, 128 + v % 64]
/-- an escape by number at p -/
def sCod (t : List Nat) (p : Nat) : Rd (List Nat × Nat) := match hx4 t (p + 2) with
  | .inl q => .inl (1, q)
  | .inr v =>
    if 56320 ≤ v ∧ v ≤ 57343 then .inl (2, p) else if ¬ (55296 ≤ v ∧ v ≤ 56319) then .inr (utf v, p + 6) else
    if gL t (p + 6) = 92 ∧ gL t (p + 7) = 117 then (match hx4 t (p + 8) with
      | .inl _ => .inl (2, p)
      | .inr w => if 56320 ≤ w ∧ w ≤ 57343 then .inr (utf (65536 + (v - 55296) * 1024 + (w - 56320)), p + 12) else .inl (2, p))
    else .inl (2, p)
def letN (x : Int32) : Nat := if eX1_signOf x = -1 then 256 else (eX1_signOf x).toNatClampNeg
/-- one sign of a string, at p, where no " stands -/
def sSgn (t : List Nat) (p : Nat) : Rd (List Nat × Nat) :=
  if gL t p = 92 then (if gL t (p + 1) = 117 then sCod t p else if letN (gL t (p + 1)) = 256 then .inl (1, p + 1) else .inr ([letN (gL t (p + 1))], p + 2))
  else if gL t p < 32 then .inl (1, p) else if sgn t p t.length = 0 then .inl (2, p) else .inr (sl t p (sgn t p t.length), p + sgn t p t.length)
theorem sgn_bd (t : List Nat) (p e : Nat) (hp : p < e) : sgn t p e ≤ 4 ∧ p + sgn t p e ≤ e := by
  unfold sgn
  split
  · omega
  split
  · omega
  split
  · omega
  split
  · rename_i h
    obtain ⟨h1, h2, h3⟩ := h
    have g1 := (flw_t.mp h1).1
    unfold nSg at h2 h3 ⊢
    split
    · omega
    · rename_i c
      rw [if_neg c] at h2 h3
      split
      · rename_i c2
        rw [if_pos c2] at h2 h3
        have g2 := h2.elim (fun z => absurd z (by decide)) (fun z => (flw_t.mp z).1)
        omega
      · rename_i c2
        rw [if_neg c2] at h2 h3
        have g3 := h3.elim (fun z => absurd rfl z) (fun z => (flw_t.mp z).1)
        omega
  · omega
theorem lowb_byte {b : Nat} (h : b < 256) : lowb (nI b) = b := by rw [lowb_nI']; omega
section SGJ
variable {t : List Nat} {p : Nat}
theorem plain_loop {n : Nat} (hn : n ≤ 4) (hpn : p + n ≤ t.length) : ∀ (m i f : Nat) (σ : JSt) (out : List Nat), i + m = n → m < f → TpR (jf_tape σ) t → jf_place σ = nI p → RowL 6000 (jf_target σ) out → out.length + m ≤ 70010 → ∃ tg, jj_readPlainSign_L51 6000 f (nI n) (nI i) σ = some (true, js_target (js_place σ (nI (p + n))) tg) ∧ RowL 6000 tg (out ++ sl t (p + i) m) := by
  intro m
  induction m with
  | zero =>
    intro i f σ out him hf hT hpl hR ho
    obtain ⟨f, rfl⟩ : ∃ g, f = g + 1 := ⟨f - 1, by omega⟩
    have hle := hT.2
    refine ⟨jf_target σ, ?_, by rw [sl_0, List.append_nil]; exact hR⟩
    show jj_readPlainSign_b51 6000 _ _ _ σ = _
    unfold jj_readPlainSign_b51
    rw [if_pos (nI_le (by omega) (by omega)), hpl, nI_add]
    rfl
  | succ m ih =>
    intro i f σ out him hf hT hpl hR ho
    obtain ⟨f, rfl⟩ : ∃ g, f = g + 1 := ⟨f - 1, by omega⟩
    have hle := hT.2
    have hb := getD_lt hT.1.2.2 (p + i)
    show ∃ tg, jj_readPlainSign_b51 6000 (jj_readPlainSign_L51 6000 f) (nI n) (nI i) σ = _ ∧ _
    unfold jj_readPlainSign_b51
    rw [if_neg (nI_ge (by omega) (by omega)), hpl, nI_add, bd_of (hT.at (by omega)), gL_in (by omega)]
    simp only []
    obtain ⟨r1, e1, g1⟩ := rr_put_row hR (by decide) (by omega) (nI (t.getD (p + i) 0))
    rw [bd_of e1]
    simp only [lt]
    rw [nI_1, js_tape_id]
    rw [lowb_byte hb] at g1
    obtain ⟨tg, e2, g2⟩ := ih (i + 1) f (js_target σ r1) _ (by omega) (by omega) (by simp only [jG_depthLimit_depthLimit, jG_depthLimit_place, jG_depthLimit_faultKind, jG_depthLimit_faultPlace, jG_depthLimit_tape, jG_depthLimit_target, jG_place_depthLimit, jG_place_place, jG_place_faultKind, jG_place_faultPlace, jG_place_tape, jG_place_target, jG_faultKind_depthLimit, jG_faultKind_place, jG_faultKind_faultKind, jG_faultKind_faultPlace, jG_faultKind_tape, jG_faultKind_target, jG_faultPlace_depthLimit, jG_faultPlace_place, jG_faultPlace_faultKind, jG_faultPlace_faultPlace, jG_faultPlace_tape, jG_faultPlace_target, jG_tape_depthLimit, jG_tape_place, jG_tape_faultKind, jG_tape_faultPlace, jG_tape_tape, jG_tape_target, jG_target_depthLimit, jG_target_place, jG_target_faultKind, jG_target_faultPlace, jG_target_tape, jG_target_target]; exact hT) (by simp only [jG_depthLimit_depthLimit, jG_depthLimit_place, jG_depthLimit_faultKind, jG_depthLimit_faultPlace, jG_depthLimit_tape, jG_depthLimit_target, jG_place_depthLimit, jG_place_place, jG_place_faultKind, jG_place_faultPlace, jG_place_tape, jG_place_target, jG_faultKind_depthLimit, jG_faultKind_place, jG_faultKind_faultKind, jG_faultKind_faultPlace, jG_faultKind_tape, jG_faultKind_target, jG_faultPlace_depthLimit, jG_faultPlace_place, jG_faultPlace_faultKind, jG_faultPlace_faultPlace, jG_faultPlace_tape, jG_faultPlace_target, jG_tape_depthLimit, jG_tape_place, jG_tape_faultKind, jG_tape_faultPlace, jG_tape_tape, jG_tape_target, jG_target_depthLimit, jG_target_place, jG_target_faultKind, jG_target_faultPlace, jG_target_tape, jG_target_target]; exact hpl) (by simp only [jG_depthLimit_depthLimit, jG_depthLimit_place, jG_depthLimit_faultKind, jG_depthLimit_faultPlace, jG_depthLimit_tape, jG_depthLimit_target, jG_place_depthLimit, jG_place_place, jG_place_faultKind, jG_place_faultPlace, jG_place_tape, jG_place_target, jG_faultKind_depthLimit, jG_faultKind_place, jG_faultKind_faultKind, jG_faultKind_faultPlace, jG_faultKind_tape, jG_faultKind_target, jG_faultPlace_depthLimit, jG_faultPlace_place, jG_faultPlace_faultKind, jG_faultPlace_faultPlace, jG_faultPlace_tape, jG_faultPlace_target, jG_tape_depthLimit, jG_tape_place, jG_tape_faultKind, jG_tape_faultPlace, jG_tape_tape, jG_tape_target, jG_target_depthLimit, jG_target_place, jG_target_faultKind, jG_target_faultPlace, jG_target_tape, jG_target_target]; exact g1) (by simp; omega)
    refine ⟨tg, e2, ?_⟩
    rw [sl_cons (by omega)]
    rw [List.append_assoc] at g2
    exact g2
theorem z_plain_loop {n : Nat} (hn : n ≤ 4) (hpn : p + n ≤ t.length) : ∀ (m i f : Nat) (σ : JSt) (out : List Nat), i + m = n → m < f → TpR (jf_tape σ) t → jf_place σ = nI p → RowL 0 (jf_target σ) out → out.length + m ≤ 70010 → ∃ tg, jj_readPlainSign_L51 0 f (nI n) (nI i) σ = some (true, js_target (js_place σ (nI (p + n))) tg) ∧ RowL 0 tg (out ++ sl t (p + i) m) := by
  intro m
  induction m with
  | zero =>
    intro i f σ out him hf hT hpl hR ho
    obtain ⟨f, rfl⟩ : ∃ g, f = g + 1 := ⟨f - 1, by omega⟩
    have hle := hT.2
    refine ⟨jf_target σ, ?_, by rw [sl_0, List.append_nil]; exact hR⟩
    show jj_readPlainSign_b51 0 _ _ _ σ = _
    unfold jj_readPlainSign_b51
    rw [if_pos (nI_le (by omega) (by omega)), hpl, nI_add]
    rfl
  | succ m ih =>
    intro i f σ out him hf hT hpl hR ho
    obtain ⟨f, rfl⟩ : ∃ g, f = g + 1 := ⟨f - 1, by omega⟩
    have hle := hT.2
    have hb := getD_lt hT.1.2.2 (p + i)
    show ∃ tg, jj_readPlainSign_b51 0 (jj_readPlainSign_L51 0 f) (nI n) (nI i) σ = _ ∧ _
    unfold jj_readPlainSign_b51
    rw [if_neg (nI_ge (by omega) (by omega)), hpl, nI_add, bd_of (hT.at (by omega)), gL_in (by omega)]
    simp only []
    obtain ⟨r1, e1, g1⟩ := rr_put_row hR (by decide) (by omega) (nI (t.getD (p + i) 0))
    rw [bd_of e1]
    simp only [lt]
    rw [nI_1, js_tape_id]
    rw [lowb_byte hb] at g1
    obtain ⟨tg, e2, g2⟩ := ih (i + 1) f (js_target σ r1) _ (by omega) (by omega) (by simp only [jG_depthLimit_depthLimit, jG_depthLimit_place, jG_depthLimit_faultKind, jG_depthLimit_faultPlace, jG_depthLimit_tape, jG_depthLimit_target, jG_place_depthLimit, jG_place_place, jG_place_faultKind, jG_place_faultPlace, jG_place_tape, jG_place_target, jG_faultKind_depthLimit, jG_faultKind_place, jG_faultKind_faultKind, jG_faultKind_faultPlace, jG_faultKind_tape, jG_faultKind_target, jG_faultPlace_depthLimit, jG_faultPlace_place, jG_faultPlace_faultKind, jG_faultPlace_faultPlace, jG_faultPlace_tape, jG_faultPlace_target, jG_tape_depthLimit, jG_tape_place, jG_tape_faultKind, jG_tape_faultPlace, jG_tape_tape, jG_tape_target, jG_target_depthLimit, jG_target_place, jG_target_faultKind, jG_target_faultPlace, jG_target_tape, jG_target_target]; exact hT) (by simp only [jG_depthLimit_depthLimit, jG_depthLimit_place, jG_depthLimit_faultKind, jG_depthLimit_faultPlace, jG_depthLimit_tape, jG_depthLimit_target, jG_place_depthLimit, jG_place_place, jG_place_faultKind, jG_place_faultPlace, jG_place_tape, jG_place_target, jG_faultKind_depthLimit, jG_faultKind_place, jG_faultKind_faultKind, jG_faultKind_faultPlace, jG_faultKind_tape, jG_faultKind_target, jG_faultPlace_depthLimit, jG_faultPlace_place, jG_faultPlace_faultKind, jG_faultPlace_faultPlace, jG_faultPlace_tape, jG_faultPlace_target, jG_tape_depthLimit, jG_tape_place, jG_tape_faultKind, jG_tape_faultPlace, jG_tape_tape, jG_tape_target, jG_target_depthLimit, jG_target_place, jG_target_faultKind, jG_target_faultPlace, jG_target_tape, jG_target_target]; exact hpl) (by simp only [jG_depthLimit_depthLimit, jG_depthLimit_place, jG_depthLimit_faultKind, jG_depthLimit_faultPlace, jG_depthLimit_tape, jG_depthLimit_target, jG_place_depthLimit, jG_place_place, jG_place_faultKind, jG_place_faultPlace, jG_place_tape, jG_place_target, jG_faultKind_depthLimit, jG_faultKind_place, jG_faultKind_faultKind, jG_faultKind_faultPlace, jG_faultKind_tape, jG_faultKind_target, jG_faultPlace_depthLimit, jG_faultPlace_place, jG_faultPlace_faultKind, jG_faultPlace_faultPlace, jG_faultPlace_tape, jG_faultPlace_target, jG_tape_depthLimit, jG_tape_place, jG_tape_faultKind, jG_tape_faultPlace, jG_tape_tape, jG_tape_target, jG_target_depthLimit, jG_target_place, jG_target_faultKind, jG_target_faultPlace, jG_target_tape, jG_target_target]; exact g1) (by simp; omega)
    refine ⟨tg, e2, ?_⟩
    rw [sl_cons (by omega)]
    rw [List.append_assoc] at g2
    exact g2
variable {σ : JSt} {out : List Nat}
theorem j_plain (hT : TpR (jf_tape σ) t) (hpl : jf_place σ = nI p) (hp : p < t.length) (h32 : ¬ gL t p < 32) (hR : RowL 6000 (jf_target σ) out) (ho : out.length ≤ 70000) : JOk σ out (if sgn t p t.length = 0 then .inl (2, p) else .inr (sl t p (sgn t p t.length), p + sgn t p t.length)) (jj_readPlainSign 6000 (gL t p) σ) := by
  have hle := hT.2
  have hs := sgn_bd t p t.length hp
  unfold jj_readPlainSign
  rw [if_pos (show (32 : Int32) ≤ gL t p from Int32.not_lt.mp h32), bd_of hT.sz, hpl]
  simp only []
  rw [bd_of (signLength_eq hT hp (Nat.le_refl _))]
  simp only []
  rw [js_tape_id, js_tape_id]
  by_cases c : sgn t p t.length = 0
  · rw [if_pos c, if_pos (show nI (sgn t p t.length) = 0 by rw [c]; rfl)]
    exact ⟨nI p, jf_target σ, out, by rw [show js_place σ (nI p) = σ by rw [← hpl, js_place_id]]; rfl, hR, by omega⟩
  · rw [if_neg c, if_neg (show ¬ nI (sgn t p t.length) = 0 from nI_ne0 (by omega) (by omega))]
    obtain ⟨tg, e1, e2⟩ := plain_loop hs.1 hs.2 (sgn t p t.length) 0 FU σ out (by omega) (by show _ < 100000; omega) hT hpl hR (by omega)
    exact ⟨tg, e1, e2⟩
theorem z_j_plain (hT : TpR (jf_tape σ) t) (hpl : jf_place σ = nI p) (hp : p < t.length) (h32 : ¬ gL t p < 32) (hR : RowL 0 (jf_target σ) out) (ho : out.length ≤ 70000) : z_JOk σ out (if sgn t p t.length = 0 then .inl (2, p) else .inr (sl t p (sgn t p t.length), p + sgn t p t.length)) (jj_readPlainSign 0 (gL t p) σ) := by
  have hle := hT.2
  have hs := sgn_bd t p t.length hp
  unfold jj_readPlainSign
  rw [if_pos (show (32 : Int32) ≤ gL t p from Int32.not_lt.mp h32), bd_of hT.sz, hpl]
  simp only []
  rw [bd_of (signLength_eq hT hp (Nat.le_refl _))]
  simp only []
  rw [js_tape_id, js_tape_id]
  by_cases c : sgn t p t.length = 0
  · rw [if_pos c, if_pos (show nI (sgn t p t.length) = 0 by rw [c]; rfl)]
    exact ⟨nI p, jf_target σ, out, by rw [show js_place σ (nI p) = σ by rw [← hpl, js_place_id]]; rfl, hR, by omega⟩
  · rw [if_neg c, if_neg (show ¬ nI (sgn t p t.length) = 0 from nI_ne0 (by omega) (by omega))]
    obtain ⟨tg, e1, e2⟩ := z_plain_loop hs.1 hs.2 (sgn t p t.length) 0 FU σ out (by omega) (by show _ < 100000; omega) hT hpl hR (by omega)
    exact ⟨tg, e1, e2⟩
theorem j_plain_low (hpl : jf_place σ = nI p) (h32 : gL t p < 32) (hR : RowL 6000 (jf_target σ) out) (ho : out.length ≤ 70000) : JOk σ out (.inl (1, p)) (jj_readPlainSign 6000 (gL t p) σ) := by
  unfold jj_readPlainSign
  rw [if_neg (show ¬ (32 : Int32) ≤ gL t p from Int32.not_le.mpr h32), hpl]
  exact ⟨nI p, jf_target σ, out, by rw [show js_place σ (nI p) = σ by rw [← hpl, js_place_id]]; rfl, hR, by omega⟩
theorem z_j_plain_low (hpl : jf_place σ = nI p) (h32 : gL t p < 32) (hR : RowL 0 (jf_target σ) out) (ho : out.length ≤ 70000) : z_JOk σ out (.inl (1, p)) (jj_readPlainSign 0 (gL t p) σ) := by
  unfold jj_readPlainSign
  rw [if_neg (show ¬ (32 : Int32) ≤ gL t p from Int32.not_le.mpr h32), hpl]
  exact ⟨nI p, jf_target σ, out, by rw [show js_place σ (nI p) = σ by rw [← hpl, js_place_id]]; rfl, hR, by omega⟩
theorem signOf_all : ∀ v, v < 256 → (eX1_signOf (nI v) = -1 ∨ ∃ d, d < 128 ∧ eX1_signOf (nI v) = nI d) := by decide +kernel
theorem letN_spec (ht : ∀ x ∈ t, x < 256) (i : Nat) : (letN (gL t i) = 256 ∧ eX1_signOf (gL t i) = -1) ∨ (letN (gL t i) < 128 ∧ eX1_signOf (gL t i) = nI (letN (gL t i)) ∧ i < t.length) := by
  unfold letN
  rcases Nat.lt_or_ge i t.length with c | c
  · rw [gL_in c]
    rcases signOf_all _ (getD_lt ht i) with h | ⟨d, hd, h⟩
    · exact Or.inl ⟨by rw [if_pos h], h⟩
    · refine Or.inr ?_
      rw [h, if_neg (show ¬ nI d = (-1 : Int32) from fun z => by
        have e := congrArg Int32.toInt z
        rw [nI_toInt (by omega)] at e
        have e2 : (-1 : Int32).toInt = -1 := by decide
        omega), nI_clamp (by omega)]
      exact ⟨hd, rfl, c⟩
  · rw [gL_out c]
    exact Or.inl ⟨by decide, by decide⟩
theorem j_letter (hT : TpR (jf_tape σ) t) (hpl : jf_place σ = nI p) (hp : p < t.length) (hR : RowL 6000 (jf_target σ) out) (ho : out.length ≤ 70000) : JOk σ out (if letN (gL t (p + 1)) = 256 then .inl (1, p + 1) else .inr ([letN (gL t (p + 1))], p + 2)) (jj_readLetter 6000 σ) := by
  have hle := hT.2
  unfold jj_readLetter
  rw [hpl, nI_1, bd_of (hT.at (by omega))]
  simp only [lt]
  rw [js_tape_id]
  rcases letN_spec hT.1.2.2 (p + 1) with ⟨h1, h2⟩ | ⟨h1, h2, h3⟩
  · rw [if_pos h1, if_pos h2]
    exact ⟨nI p, jf_target σ, out, by rw [show js_place σ (nI p) = σ by rw [← hpl, js_place_id]]; rfl, hR, by omega⟩
  · rw [if_neg (show ¬ letN (gL t (p + 1)) = 256 by omega), h2, if_neg (show ¬ nI (letN (gL t (p + 1))) = (-1 : Int32) from fun z => by
      have e := congrArg Int32.toInt z
      rw [nI_toInt (by omega)] at e
      have e2 : (-1 : Int32).toInt = -1 := by decide
      omega)]
    obtain ⟨r1, e1, g1⟩ := rr_put_row hR (by decide) (by omega) (nI (letN (gL t (p + 1))))
    rw [lowb_byte (by omega)] at g1
    rw [bd_of e1]
    refine ⟨r1, ?_, g1⟩
    rw [show nI p + (2 : Int32) = nI (p + 2) from nI_add p 2]
    rfl
theorem z_j_letter (hT : TpR (jf_tape σ) t) (hpl : jf_place σ = nI p) (hp : p < t.length) (hR : RowL 0 (jf_target σ) out) (ho : out.length ≤ 70000) : z_JOk σ out (if letN (gL t (p + 1)) = 256 then .inl (1, p + 1) else .inr ([letN (gL t (p + 1))], p + 2)) (jj_readLetter 0 σ) := by
  have hle := hT.2
  unfold jj_readLetter
  rw [hpl, nI_1, bd_of (hT.at (by omega))]
  simp only [lt]
  rw [js_tape_id]
  rcases letN_spec hT.1.2.2 (p + 1) with ⟨h1, h2⟩ | ⟨h1, h2, h3⟩
  · rw [if_pos h1, if_pos h2]
    exact ⟨nI p, jf_target σ, out, by rw [show js_place σ (nI p) = σ by rw [← hpl, js_place_id]]; rfl, hR, by omega⟩
  · rw [if_neg (show ¬ letN (gL t (p + 1)) = 256 by omega), h2, if_neg (show ¬ nI (letN (gL t (p + 1))) = (-1 : Int32) from fun z => by
      have e := congrArg Int32.toInt z
      rw [nI_toInt (by omega)] at e
      have e2 : (-1 : Int32).toInt = -1 := by decide
      omega)]
    obtain ⟨r1, e1, g1⟩ := rr_put_row hR (by decide) (by omega) (nI (letN (gL t (p + 1))))
    rw [lowb_byte (by omega)] at g1
    rw [bd_of e1]
    refine ⟨r1, ?_, g1⟩
    rw [show nI p + (2 : Int32) = nI (p + 2) from nI_add p 2]
    rfl
end SGJ
