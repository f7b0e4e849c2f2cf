/-! PURE E: reading the tape on both sides: the byte at hand, blanks, digits -/
/-- the tape t of a reader -/
def TpR (tp : RSt) (t : List Nat) : Prop := RowL 4000 tp t ∧ t.length ≤ 4000
/-- the tape t of the reference -/
def TpM (σ : MSt) (t : List Nat) : Prop := mf_taped σ = nI t.length ∧ t.length ≤ 4000 ∧ (∀ x ∈ t, x < 256) ∧ ∀ i, i < t.length → mf_tape σ i = nI (t.getD i 0)
theorem TpR.at {tp : RSt} {t : List Nat} (h : TpR tp t) {i : Nat} (hi : i < 2 ^ 31) : rr_at 4000 (nI i) tp = some (gL t i, tp) := rr_at_row h.1 h.2 (by decide) hi
theorem TpR.sz {tp : RSt} {t : List Nat} (h : TpR tp t) : rr_size 4000 tp = some (nI t.length, tp) := by rw [rr_size_eq, h.1.1]
theorem here_eq {σ : MSt} {t : List Nat} (h : TpM σ t) {p : Nat} (hp : p < 2 ^ 31) (ha : mf_at σ = nI p) : mm_here σ = some (gL t p, σ) := by
  obtain ⟨h1, h2, h3, h4⟩ := h
  unfold mm_here
  rw [h1, ha]
  by_cases c : p < t.length
  · rw [if_neg (nI_ge c (by omega)), ck_in (vp_in_nI (by omega) (by decide)), nI_clamp hp, h4 p c, gL_in c]
  · rw [if_pos (nI_le (by omega) hp), gL_out (by omega)]
theorem TpM.at {σ : MSt} {t : List Nat} (h : TpM σ t) (v : Int32) : TpM (ms_at σ v) t := by
  unfold TpM
  simp only [mG_thrown_at, mG_tape_at, mG_taped_at, mG_depth_at, mG_room_at, mG_written_at, mG_writtenMany_at, mG_errorPlace_at, mG_sorts_at, mG_numbers_at, mG_places_at, mG_things_at, mG_letters_at, mG_lettersMany_at, mG_openThing_at, mG_openLeft_at, mG_open_at, mG_at_at, mG_fault_at, mG_fresh_at, mG_freshMany_at, mG_figures_at]
  exact h
theorem gL_lt {t : List Nat} (h : ∀ x ∈ t, x < 256) {i : Nat} (hi : i < t.length) : ∃ v, v < 256 ∧ gL t i = nI v := ⟨t.getD i 0, getD_lt h i, gL_in hi⟩
theorem gL_ne {t : List Nat} {i v : Nat} (hv : v < 256) (h : gL t i = nI v) : i < t.length := by
  rcases Nat.lt_or_ge i t.length with c | c
  · exact c
  · rw [gL_out c] at h
    have e : (-1 : Int32).toInt = (nI v).toInt := congrArg Int32.toInt h
    rw [nI_toInt (by omega)] at e
    have e2 : (-1 : Int32).toInt = -1 := by decide
    omega
/-- what a blank is, what a digit is -/
def isBl (x : Int32) : Bool := x == 9 || x == 10 || x == 13 || x == 32
def isDg (x : Int32) : Bool := decide (48 ≤ x) && decide (x ≤ 57)
theorem isBl_eq (x : Int32) : eX1_isBlank x = isBl x := by
  unfold eX1_isBlank isBl
  by_cases c1 : x = 9
  · simp [c1]
  by_cases c2 : x = 10
  · simp [c2]
  by_cases c3 : x = 13
  · simp [c3]
  by_cases c4 : x = 32
  · simp [c4]
  simp [c1, c2, c3, c4]
theorem isDg_eq (x : Int32) : eX1_isDigit x = isDg x := by
  unfold eX1_isDigit isDg
  by_cases c1 : x < 48
  · rw [if_pos c1]; simp [Int32.not_le.mpr c1]
  · rw [if_neg c1]
    by_cases c2 : (57 : Int32) < x
    · rw [if_pos c2]; simp [Int32.not_le.mpr c2]
    · rw [if_neg c2]; simp [Int32.not_lt.mp c1, Int32.not_lt.mp c2]
theorem mm_isDigit_eq (x : Int32) (σ : MSt) : mm_isDigit x σ = some (isDg x, σ) := by
  rw [← isDg_eq]
  unfold mm_isDigit eX1_isDigit
  split
  · rfl
  · split <;> rfl
theorem isBl_m1 : isBl (-1) = false := by decide
theorem isDg_m1 : isDg (-1) = false := by decide
/-- behind the blanks; behind the digits (m: how much of the tape is left) -/
def sBm (t : List Nat) : Nat → Nat → Nat
  | 0, p => p
  | m + 1, p => if isBl (gL t p) = true then sBm t m (p + 1) else p
def sB (t : List Nat) (p : Nat) : Nat := sBm t (t.length - p) p
def sDm (t : List Nat) : Nat → Nat → Nat
  | 0, p => p
  | m + 1, p => if isDg (gL t p) = true then sDm t m (p + 1) else p
def sD (t : List Nat) (p : Nat) : Nat := sDm t (t.length - p) p
theorem sBm_le (t : List Nat) : ∀ m p, p ≤ sBm t m p ∧ sBm t m p ≤ p + m := by
  intro m
  induction m with
  | zero => intro p; exact ⟨Nat.le_refl _, Nat.le_refl _⟩
  | succ m ih =>
    intro p
    unfold sBm
    split
    · have := ih (p + 1); omega
    · omega
theorem sB_le {t : List Nat} {p : Nat} (h : p ≤ t.length) : p ≤ sB t p ∧ sB t p ≤ t.length := by
  have := sBm_le t (t.length - p) p
  unfold sB
  omega
theorem sDm_le (t : List Nat) : ∀ m p, p ≤ sDm t m p ∧ sDm t m p ≤ p + m := by
  intro m
  induction m with
  | zero => intro p; exact ⟨Nat.le_refl _, Nat.le_refl _⟩
  | succ m ih =>
    intro p
    unfold sDm
    split
    · have := ih (p + 1); omega
    · omega
theorem sD_le {t : List Nat} {p : Nat} (h : p ≤ t.length) : p ≤ sD t p ∧ sD t p ≤ t.length := by
  have := sDm_le t (t.length - p) p
  unfold sD
  omega
theorem sD_dg {t : List Nat} : ∀ m p, ∀ i, p ≤ i → i < sDm t m p → isDg (gL t i) = true := by
  intro m
  induction m with
  | zero => intro p i h1 h2; unfold sDm at h2; omega
  | succ m ih =>
    intro p i h1 h2
    unfold sDm at h2
    split at h2
    · rename_i c
      by_cases e : i = p
      · rw [e]; exact c
      · exact ih (p + 1) i (by omega) h2
    · omega
theorem sD_pos {t : List Nat} {p : Nat} : p < sD t p ↔ isDg (gL t p) = true := by
  constructor
  · intro h
    exact sD_dg (t.length - p) p p (Nat.le_refl _) h
  · intro h
    have hp : p < t.length := by
      rcases Nat.lt_or_ge p t.length with c | c
      · exact c
      · rw [gL_out c] at h; exact absurd h (by decide)
    unfold sD
    obtain ⟨m, hm⟩ : ∃ m, t.length - p = m + 1 := ⟨t.length - p - 1, by omega⟩
    rw [hm, sDm, if_pos h]
    have := sDm_le t m (p + 1)
    omega
theorem js_tape_id (σ : JSt) : js_tape σ (jf_tape σ) = σ := rfl
theorem js_pp (σ : JSt) (a b : Int32) : js_place (js_place σ a) b = js_place σ b := rfl
theorem ms_aa (σ : MSt) (a b : Int32) : ms_at (ms_at σ a) b = ms_at σ b := rfl
theorem ms_at_id (σ : MSt) : ms_at σ (mf_at σ) = σ := rfl
theorem js_place_id (σ : JSt) : js_place σ (jf_place σ) = σ := rfl
theorem j_blanks_loop {t : List Nat} : ∀ (m p f : Nat) (σ : JSt), TpR (jf_tape σ) t → p + m = t.length → m < f → jf_place σ = nI p → jj_skipBlanks_L5 6000 f (nI p) σ = some (js_place σ (nI (sBm t m p))) := by
  intro m
  induction m with
  | zero =>
    intro p f σ hT hp hf hpl
    obtain ⟨f, rfl⟩ : ∃ g, f = g + 1 := ⟨f - 1, by omega⟩
    show jj_skipBlanks_b5 6000 _ (nI p) σ = _
    unfold jj_skipBlanks_b5
    rw [bd_of hT.sz]
    simp only []
    have hle := hT.2
    rw [if_pos (nI_le (by omega) (by omega)), js_tape_id, sBm, ← hpl, js_place_id]
  | succ m ih =>
    intro p f σ hT hp hf hpl
    obtain ⟨f, rfl⟩ : ∃ g, f = g + 1 := ⟨f - 1, by omega⟩
    have hle := hT.2
    show jj_skipBlanks_b5 6000 (jj_skipBlanks_L5 6000 f) (nI p) σ = _
    unfold jj_skipBlanks_b5
    rw [bd_of hT.sz]
    simp only []
    rw [if_neg (nI_ge (by omega) (by omega)), bd_of (hT.at (by omega))]
    simp only [lt]
    rw [isBl_eq, js_tape_id, js_tape_id, nI_1, sBm]
    by_cases c : isBl (gL t p) = true
    · rw [if_pos c, if_pos c, ih (p + 1) f _ (by simp only [jG_depthLimit_depthLimit, jG_depthLimit_place, jG_depthLimit_faultKind, jG_depthLimit_faultPlace, jG_depthLimit_tape, jG_depthLimit_target, jG_place_depthLimit, jG_place_place, jG_place_faultKind, jG_place_faultPlace, jG_place_tape, jG_place_target, jG_faultKind_depthLimit, jG_faultKind_place, jG_faultKind_faultKind, jG_faultKind_faultPlace, jG_faultKind_tape, jG_faultKind_target, jG_faultPlace_depthLimit, jG_faultPlace_place, jG_faultPlace_faultKind, jG_faultPlace_faultPlace, jG_faultPlace_tape, jG_faultPlace_target, jG_tape_depthLimit, jG_tape_place, jG_tape_faultKind, jG_tape_faultPlace, jG_tape_tape, jG_tape_target, jG_target_depthLimit, jG_target_place, jG_target_faultKind, jG_target_faultPlace, jG_target_tape, jG_target_target]; exact hT) (by omega) (by omega) (by simp only [jG_depthLimit_depthLimit, jG_depthLimit_place, jG_depthLimit_faultKind, jG_depthLimit_faultPlace, jG_depthLimit_tape, jG_depthLimit_target, jG_place_depthLimit, jG_place_place, jG_place_faultKind, jG_place_faultPlace, jG_place_tape, jG_place_target, jG_faultKind_depthLimit, jG_faultKind_place, jG_faultKind_faultKind, jG_faultKind_faultPlace, jG_faultKind_tape, jG_faultKind_target, jG_faultPlace_depthLimit, jG_faultPlace_place, jG_faultPlace_faultKind, jG_faultPlace_faultPlace, jG_faultPlace_tape, jG_faultPlace_target, jG_tape_depthLimit, jG_tape_place, jG_tape_faultKind, jG_tape_faultPlace, jG_tape_tape, jG_tape_target, jG_target_depthLimit, jG_target_place, jG_target_faultKind, jG_target_faultPlace, jG_target_tape, jG_target_target]), js_pp]
    · rw [if_neg c, if_neg c, ← hpl, js_place_id]
theorem z_j_blanks_loop {t : List Nat} : ∀ (m p f : Nat) (σ : JSt), TpR (jf_tape σ) t → p + m = t.length → m < f → jf_place σ = nI p → jj_skipBlanks_L5 0 f (nI p) σ = some (js_place σ (nI (sBm t m p))) := by
  intro m
  induction m with
  | zero =>
    intro p f σ hT hp hf hpl
    obtain ⟨f, rfl⟩ : ∃ g, f = g + 1 := ⟨f - 1, by omega⟩
    show jj_skipBlanks_b5 0 _ (nI p) σ = _
    unfold jj_skipBlanks_b5
    rw [bd_of hT.sz]
    simp only []
    have hle := hT.2
    rw [if_pos (nI_le (by omega) (by omega)), js_tape_id, sBm, ← hpl, js_place_id]
  | succ m ih =>
    intro p f σ hT hp hf hpl
    obtain ⟨f, rfl⟩ : ∃ g, f = g + 1 := ⟨f - 1, by omega⟩
    have hle := hT.2
    show jj_skipBlanks_b5 0 (jj_skipBlanks_L5 0 f) (nI p) σ = _
    unfold jj_skipBlanks_b5
    rw [bd_of hT.sz]
    simp only []
    rw [if_neg (nI_ge (by omega) (by omega)), bd_of (hT.at (by omega))]
    simp only [lt]
    rw [isBl_eq, js_tape_id, js_tape_id, nI_1, sBm]
    by_cases c : isBl (gL t p) = true
    · rw [if_pos c, if_pos c, ih (p + 1) f _ (by simp only [jG_depthLimit_depthLimit, jG_depthLimit_place, jG_depthLimit_faultKind, jG_depthLimit_faultPlace, jG_depthLimit_tape, jG_depthLimit_target, jG_place_depthLimit, jG_place_place, jG_place_faultKind, jG_place_faultPlace, jG_place_tape, jG_place_target, jG_faultKind_depthLimit, jG_faultKind_place, jG_faultKind_faultKind, jG_faultKind_faultPlace, jG_faultKind_tape, jG_faultKind_target, jG_faultPlace_depthLimit, jG_faultPlace_place, jG_faultPlace_faultKind, jG_faultPlace_faultPlace, jG_faultPlace_tape, jG_faultPlace_target, jG_tape_depthLimit, jG_tape_place, jG_tape_faultKind, jG_tape_faultPlace, jG_tape_tape, jG_tape_target, jG_target_depthLimit, jG_target_place, jG_target_faultKind, jG_target_faultPlace, jG_target_tape, jG_target_target]; exact hT) (by omega) (by omega) (by simp only [jG_depthLimit_depthLimit, jG_depthLimit_place, jG_depthLimit_faultKind, jG_depthLimit_faultPlace, jG_depthLimit_tape, jG_depthLimit_target, jG_place_depthLimit, jG_place_place, jG_place_faultKind, jG_place_faultPlace, jG_place_tape, jG_place_target, jG_faultKind_depthLimit, jG_faultKind_place, jG_faultKind_faultKind, jG_faultKind_faultPlace, jG_faultKind_tape, jG_faultKind_target, jG_faultPlace_depthLimit, jG_faultPlace_place, jG_faultPlace_faultKind, jG_faultPlace_faultPlace, jG_faultPlace_tape, jG_faultPlace_target, jG_tape_depthLimit, jG_tape_place, jG_tape_faultKind, jG_tape_faultPlace, jG_tape_tape, jG_tape_target, jG_target_depthLimit, jG_target_place, jG_target_faultKind, jG_target_faultPlace, jG_target_tape, jG_target_target]), js_pp]
    · rw [if_neg c, if_neg c, ← hpl, js_place_id]
theorem j_blanks {t : List Nat} {σ : JSt} {p : Nat} (hT : TpR (jf_tape σ) t) (hp : p ≤ t.length) (hpl : jf_place σ = nI p) : jj_skipBlanks 6000 σ = some (js_place σ (nI (sB t p))) := by
  unfold jj_skipBlanks
  simp only [lt]
  rw [hpl]
  have := hT.2
  exact j_blanks_loop (t.length - p) p FU σ hT (by omega) (by show _ < 100000; omega) hpl
theorem z_j_blanks {t : List Nat} {σ : JSt} {p : Nat} (hT : TpR (jf_tape σ) t) (hp : p ≤ t.length) (hpl : jf_place σ = nI p) : jj_skipBlanks 0 σ = some (js_place σ (nI (sB t p))) := by
  unfold jj_skipBlanks
  simp only [lt]
  rw [hpl]
  have := hT.2
  exact z_j_blanks_loop (t.length - p) p FU σ hT (by omega) (by show _ < 100000; omega) hpl
theorem m_blanks_loop {t : List Nat} : ∀ (m p f : Nat) (σ : MSt), TpM σ t → p + m = t.length → m < f → mf_at σ = nI p → mm_blanks_L0 f σ = some (ms_at σ (nI (sBm t m p))) := by
  have stop : ∀ (k : MSt → Option MSt) (p : Nat) (σ : MSt), TpM σ t → p < 2 ^ 31 → mf_at σ = nI p → isBl (gL t p) = false → mm_blanks_b0 k σ = some σ := by
    intro k p σ hT hp ha hb
    unfold isBl at hb
    simp only [Bool.or_eq_false_iff, beq_eq_false_iff_ne, ne_eq] at hb
    unfold mm_blanks_b0
    rw [bd_of (here_eq hT hp ha)]
    simp only []
    rw [if_neg hb.1.1.1, bd_of (here_eq hT hp ha)]
    simp only []
    rw [if_neg hb.1.1.2, bd_of (here_eq hT hp ha)]
    simp only []
    rw [if_neg hb.1.2, bd_of (here_eq hT hp ha)]
    simp only []
    rw [if_neg hb.2]
  have go : ∀ (k : MSt → Option MSt) (p : Nat) (σ : MSt), TpM σ t → p < 2 ^ 31 → mf_at σ = nI p → isBl (gL t p) = true → mm_blanks_b0 k σ = k (ms_at σ (nI (p + 1))) := by
    intro k p σ hT hp ha hb
    unfold isBl at hb
    have e : ms_at σ (mf_at σ + 1) = ms_at σ (nI (p + 1)) := by rw [ha, nI_1]
    unfold mm_blanks_b0 mm_blanks_b36
    rw [bd_of (here_eq hT hp ha)]
    simp only []
    by_cases c1 : gL t p = 9
    · rw [if_pos c1, e]
    rw [if_neg c1, bd_of (here_eq hT hp ha)]
    simp only []
    by_cases c2 : gL t p = 10
    · rw [if_pos c2, e]
    rw [if_neg c2, bd_of (here_eq hT hp ha)]
    simp only []
    by_cases c3 : gL t p = 13
    · rw [if_pos c3, e]
    rw [if_neg c3, bd_of (here_eq hT hp ha)]
    simp only []
    by_cases c4 : gL t p = 32
    · rw [if_pos c4, e]
    simp [c1, c2, c3, c4] at hb
  intro m
  induction m with
  | zero =>
    intro p f σ hT hp hf ha
    obtain ⟨f, rfl⟩ : ∃ g, f = g + 1 := ⟨f - 1, by omega⟩
    have hle := hT.2.1
    show mm_blanks_b0 _ σ = _
    rw [stop _ p σ hT (by omega) ha (by rw [gL_out (by omega)]; decide), sBm, ← ha, ms_at_id]
  | succ m ih =>
    intro p f σ hT hp hf ha
    obtain ⟨f, rfl⟩ : ∃ g, f = g + 1 := ⟨f - 1, by omega⟩
    have hle := hT.2.1
    show mm_blanks_b0 (mm_blanks_L0 f) σ = _
    rw [sBm]
    by_cases c : isBl (gL t p) = true
    · rw [go _ p σ hT (by omega) ha c, if_pos c, ih (p + 1) f _ (hT.at _) (by omega) (by omega) (by rw [mG_at_at]), ms_aa]
    · rw [stop _ p σ hT (by omega) ha (by simpa using c), if_neg c, ← ha, ms_at_id]
theorem m_blanks {t : List Nat} {σ : MSt} {p : Nat} (hT : TpM σ t) (hp : p ≤ t.length) (ha : mf_at σ = nI p) : mm_blanks σ = some (ms_at σ (nI (sB t p))) := by
  have := hT.2.1
  exact m_blanks_loop (t.length - p) p FU σ hT (by omega) (by show _ < 100000; omega) ha
/-- a fault, on both sides -/
def jF (σ : JSt) (k p : Int32) : JSt := js_faultPlace (js_faultKind σ k) p
def mF (σ : MSt) (k p : Int32) : MSt := ms_errorPlace (ms_fault σ k) p
theorem wrong_eq {σ : MSt} (h : mf_fault σ = 0) (k p : Int32) : mm_wrong k p σ = some (false, mF σ k p) := by
  unfold mm_wrong
  rw [if_pos h]
  rfl
theorem stuck_eq {σ : MSt} (h : mf_fault σ = 0) : mm_stuck σ = some (false, mF σ 1 (mf_at σ)) := by
  unfold mm_stuck
  rw [bd_of (wrong_eq h _ _)]
theorem j_digits_loop {t : List Nat} {a1 : Int32} : ∀ (m p f : Nat) (σ : JSt), TpR (jf_tape σ) t → p + m = t.length → m < f → jf_place σ = nI p → jj_readDigits_L7 6000 f a1 (nI p) σ = jj_readDigits_b45 6000 a1 (js_place σ (nI (sDm t m p))) := by
  intro m
  induction m with
  | zero =>
    intro p f σ hT hp hf hpl
    obtain ⟨f, rfl⟩ : ∃ g, f = g + 1 := ⟨f - 1, by omega⟩
    have hle := hT.2
    show jj_readDigits_b7 6000 _ a1 (nI p) σ = _
    unfold jj_readDigits_b7
    rw [bd_of hT.sz]
    simp only []
    rw [if_pos (nI_le (by omega) (by omega)), js_tape_id, sDm, ← hpl, js_place_id]
  | succ m ih =>
    intro p f σ hT hp hf hpl
    obtain ⟨f, rfl⟩ : ∃ g, f = g + 1 := ⟨f - 1, by omega⟩
    have hle := hT.2
    show jj_readDigits_b7 6000 (jj_readDigits_L7 6000 f) a1 (nI p) σ = _
    unfold jj_readDigits_b7
    rw [bd_of hT.sz]
    simp only []
    rw [if_neg (nI_ge (by omega) (by omega)), bd_of (hT.at (by omega))]
    simp only [lt]
    rw [isDg_eq, js_tape_id, js_tape_id, nI_1, sDm]
    by_cases c : isDg (gL t p) = true
    · rw [if_pos c, if_pos c, ih (p + 1) f _ (by simp only [jG_depthLimit_depthLimit, jG_depthLimit_place, jG_depthLimit_faultKind, jG_depthLimit_faultPlace, jG_depthLimit_tape, jG_depthLimit_target, jG_place_depthLimit, jG_place_place, jG_place_faultKind, jG_place_faultPlace, jG_place_tape, jG_place_target, jG_faultKind_depthLimit, jG_faultKind_place, jG_faultKind_faultKind, jG_faultKind_faultPlace, jG_faultKind_tape, jG_faultKind_target, jG_faultPlace_depthLimit, jG_faultPlace_place, jG_faultPlace_faultKind, jG_faultPlace_faultPlace, jG_faultPlace_tape, jG_faultPlace_target, jG_tape_depthLimit, jG_tape_place, jG_tape_faultKind, jG_tape_faultPlace, jG_tape_tape, jG_tape_target, jG_target_depthLimit, jG_target_place, jG_target_faultKind, jG_target_faultPlace, jG_target_tape, jG_target_target]; exact hT) (by omega) (by omega) (by simp only [jG_depthLimit_depthLimit, jG_depthLimit_place, jG_depthLimit_faultKind, jG_depthLimit_faultPlace, jG_depthLimit_tape, jG_depthLimit_target, jG_place_depthLimit, jG_place_place, jG_place_faultKind, jG_place_faultPlace, jG_place_tape, jG_place_target, jG_faultKind_depthLimit, jG_faultKind_place, jG_faultKind_faultKind, jG_faultKind_faultPlace, jG_faultKind_tape, jG_faultKind_target, jG_faultPlace_depthLimit, jG_faultPlace_place, jG_faultPlace_faultKind, jG_faultPlace_faultPlace, jG_faultPlace_tape, jG_faultPlace_target, jG_tape_depthLimit, jG_tape_place, jG_tape_faultKind, jG_tape_faultPlace, jG_tape_tape, jG_tape_target, jG_target_depthLimit, jG_target_place, jG_target_faultKind, jG_target_faultPlace, jG_target_tape, jG_target_target]), js_pp]
    · rw [if_neg c, if_neg c, ← hpl, js_place_id]
theorem z_j_digits_loop {t : List Nat} {a1 : Int32} : ∀ (m p f : Nat) (σ : JSt), TpR (jf_tape σ) t → p + m = t.length → m < f → jf_place σ = nI p → jj_readDigits_L7 0 f a1 (nI p) σ = jj_readDigits_b45 0 a1 (js_place σ (nI (sDm t m p))) := by
  intro m
  induction m with
  | zero =>
    intro p f σ hT hp hf hpl
    obtain ⟨f, rfl⟩ : ∃ g, f = g + 1 := ⟨f - 1, by omega⟩
    have hle := hT.2
    show jj_readDigits_b7 0 _ a1 (nI p) σ = _
    unfold jj_readDigits_b7
    rw [bd_of hT.sz]
    simp only []
    rw [if_pos (nI_le (by omega) (by omega)), js_tape_id, sDm, ← hpl, js_place_id]
  | succ m ih =>
    intro p f σ hT hp hf hpl
    obtain ⟨f, rfl⟩ : ∃ g, f = g + 1 := ⟨f - 1, by omega⟩
    have hle := hT.2
    show jj_readDigits_b7 0 (jj_readDigits_L7 0 f) a1 (nI p) σ = _
    unfold jj_readDigits_b7
    rw [bd_of hT.sz]
    simp only []
    rw [if_neg (nI_ge (by omega) (by omega)), bd_of (hT.at (by omega))]
    simp only [lt]
    rw [isDg_eq, js_tape_id, js_tape_id, nI_1, sDm]
    by_cases c : isDg (gL t p) = true
    · rw [if_pos c, if_pos c, ih (p + 1) f _ (by simp only [jG_depthLimit_depthLimit, jG_depthLimit_place, jG_depthLimit_faultKind, jG_depthLimit_faultPlace, jG_depthLimit_tape, jG_depthLimit_target, jG_place_depthLimit, jG_place_place, jG_place_faultKind, jG_place_faultPlace, jG_place_tape, jG_place_target, jG_faultKind_depthLimit, jG_faultKind_place, jG_faultKind_faultKind, jG_faultKind_faultPlace, jG_faultKind_tape, jG_faultKind_target, jG_faultPlace_depthLimit, jG_faultPlace_place, jG_faultPlace_faultKind, jG_faultPlace_faultPlace, jG_faultPlace_tape, jG_faultPlace_target, jG_tape_depthLimit, jG_tape_place, jG_tape_faultKind, jG_tape_faultPlace, jG_tape_tape, jG_tape_target, jG_target_depthLimit, jG_target_place, jG_target_faultKind, jG_target_faultPlace, jG_target_tape, jG_target_target]; exact hT) (by omega) (by omega) (by simp only [jG_depthLimit_depthLimit, jG_depthLimit_place, jG_depthLimit_faultKind, jG_depthLimit_faultPlace, jG_depthLimit_tape, jG_depthLimit_target, jG_place_depthLimit, jG_place_place, jG_place_faultKind, jG_place_faultPlace, jG_place_tape, jG_place_target, jG_faultKind_depthLimit, jG_faultKind_place, jG_faultKind_faultKind, jG_faultKind_faultPlace, jG_faultKind_tape, jG_faultKind_target, jG_faultPlace_depthLimit, jG_faultPlace_place, jG_faultPlace_faultKind, jG_faultPlace_faultPlace, jG_faultPlace_tape, jG_faultPlace_target, jG_tape_depthLimit, jG_tape_place, jG_tape_faultKind, jG_tape_faultPlace, jG_tape_tape, jG_tape_target, jG_target_depthLimit, jG_target_place, jG_target_faultKind, jG_target_faultPlace, jG_target_tape, jG_target_target]), js_pp]
    · rw [if_neg c, if_neg c, ← hpl, js_place_id]
theorem j_digits {t : List Nat} {σ : JSt} {p : Nat} (hT : TpR (jf_tape σ) t) (hp : p ≤ t.length) (hpl : jf_place σ = nI p) : jj_readDigits 6000 σ = if isDg (gL t p) = true then some (true, js_place σ (nI (sD t p))) else some (false, jF σ 1 (nI p)) := by
  have hle := hT.2
  have hs := sD_le hp
  unfold jj_readDigits
  simp only [lt]
  rw [hpl, j_digits_loop (t.length - p) p FU σ hT (by omega) (by show _ < 100000; omega) hpl]
  show jj_readDigits_b45 6000 (nI p) (js_place σ (nI (sD t p))) = _
  unfold jj_readDigits_b45
  rw [jG_place_place]
  by_cases c : isDg (gL t p) = true
  · rw [if_pos c, if_pos (nI_lt (sD_pos.mpr c) (by omega))]
  · have e : sD t p = p := by
      have := mt sD_pos.mp c
      omega
    rw [if_neg c, if_neg (nI_nlt (by omega) (by omega)), e, ← hpl, js_place_id]
    rfl
theorem z_j_digits {t : List Nat} {σ : JSt} {p : Nat} (hT : TpR (jf_tape σ) t) (hp : p ≤ t.length) (hpl : jf_place σ = nI p) : jj_readDigits 0 σ = if isDg (gL t p) = true then some (true, js_place σ (nI (sD t p))) else some (false, jF σ 1 (nI p)) := by
  have hle := hT.2
  have hs := sD_le hp
  unfold jj_readDigits
  simp only [lt]
  rw [hpl, z_j_digits_loop (t.length - p) p FU σ hT (by omega) (by show _ < 100000; omega) hpl]
  show jj_readDigits_b45 0 (nI p) (js_place σ (nI (sD t p))) = _
  unfold jj_readDigits_b45
  rw [jG_place_place]
  by_cases c : isDg (gL t p) = true
  · rw [if_pos c, if_pos (nI_lt (sD_pos.mpr c) (by omega))]
  · have e : sD t p = p := by
      have := mt sD_pos.mp c
      omega
    rw [if_neg c, if_neg (nI_nlt (by omega) (by omega)), e, ← hpl, js_place_id]
    rfl
theorem m_digits_loop {t : List Nat} : ∀ (m p f : Nat) (σ : MSt), TpM σ t → p + m = t.length → m < f → mf_at σ = nI p → mm_digits_L16 f σ = some (true, ms_at σ (nI (sDm t m p))) := by
  intro m
  induction m with
  | zero =>
    intro p f σ hT hp hf ha
    obtain ⟨f, rfl⟩ : ∃ g, f = g + 1 := ⟨f - 1, by omega⟩
    have hle := hT.2.1
    show mm_digits_b16 _ σ = _
    unfold mm_digits_b16
    rw [bd_of (here_eq hT (by omega) ha)]
    simp only []
    rw [bd_of (mm_isDigit_eq _ _), gL_out (by omega)]
    simp only []
    rw [if_neg (by decide), sDm, ← ha, ms_at_id]
  | succ m ih =>
    intro p f σ hT hp hf ha
    obtain ⟨f, rfl⟩ : ∃ g, f = g + 1 := ⟨f - 1, by omega⟩
    have hle := hT.2.1
    show mm_digits_b16 (mm_digits_L16 f) σ = _
    unfold mm_digits_b16
    rw [bd_of (here_eq hT (by omega) ha)]
    simp only []
    rw [bd_of (mm_isDigit_eq _ _)]
    simp only []
    rw [sDm]
    by_cases c : isDg (gL t p) = true
    · rw [if_pos c, if_pos c, show ms_at σ (mf_at σ + 1) = ms_at σ (nI (p + 1)) by rw [ha, nI_1], ih (p + 1) f _ (hT.at _) (by omega) (by omega) (by rw [mG_at_at]), ms_aa]
    · rw [if_neg c, if_neg c, ← ha, ms_at_id]
theorem m_digits {t : List Nat} {σ : MSt} {p : Nat} (hT : TpM σ t) (hp : p ≤ t.length) (ha : mf_at σ = nI p) (hf : mf_fault σ = 0) : mm_digits σ = if isDg (gL t p) = true then some (true, ms_at σ (nI (sD t p))) else some (false, mF σ 1 (nI p)) := by
  have hle := hT.2.1
  unfold mm_digits
  rw [bd_of (here_eq hT (by omega) ha)]
  simp only []
  rw [bd_of (mm_isDigit_eq _ _)]
  simp only []
  by_cases c : isDg (gL t p) = true
  · rw [if_pos c, if_pos c]
    exact m_digits_loop (t.length - p) p FU σ hT (by omega) (by show _ < 100000; omega) ha
  · rw [if_neg c, if_neg c, bd_of (stuck_eq hf), ha]
