/-! PURE P: what a JSON text tells: the row of things, and bounds -/
abbrev Tok : Type := Nat × Nat × List Nat
def encT (x : Tok) : List Nat := hd x.1 x.2.1 ++ x.2.2
def encL : List Tok → List Nat
  | [] => []
  | x :: l => encT x ++ encL l
def ltL : List Tok → List Nat
  | [] => []
  | x :: l => x.2.2 ++ ltL l
theorem encL_app (a b : List Tok) : encL (a ++ b) = encL a ++ encL b := by
  induction a with
  | nil => rfl
  | cons x a ih => show encT x ++ encL (a ++ b) = encT x ++ encL a ++ encL b; rw [ih, List.append_assoc]
theorem ltL_app (a b : List Tok) : ltL (a ++ b) = ltL a ++ ltL b := by
  induction a with
  | nil => rfl
  | cons x a ih => show x.2.2 ++ ltL (a ++ b) = x.2.2 ++ ltL a ++ ltL b; rw [ih, List.append_assoc]
/-- a thing as both hold it -/
def wTk (x : Tok) : Prop := x.1 < 8 ∧ x.2.1 < 2 ^ 64 ∧ (∀ b ∈ x.2.2, b < 256) ∧ (x.1 = 3 → x.2.1 = x.2.2.length) ∧ (x.1 ≠ 3 → x.2.2 = [])
theorem encL_len : ∀ ts : List Tok, (encL ts).length ≤ 9 * ts.length + (ltL ts).length := by
  intro ts
  induction ts with
  | nil => exact Nat.zero_le _
  | cons x ts ih =>
    show (hd x.1 x.2.1 ++ x.2.2 ++ encL ts).length ≤ 9 * (ts.length + 1) + (x.2.2 ++ ltL ts).length
    have := hd_len x.1 x.2.1
    have := nb_le x.2.1
    simp only [List.length_append]
    omega
theorem sBm_end {t : List Nat} : ∀ m p, p + m = t.length → isBl (gL t (sBm t m p)) = false := by
  intro m
  induction m with
  | zero => intro p h; unfold sBm; rw [gL_out (by omega)]; decide
  | succ m ih =>
    intro p h
    unfold sBm
    split
    · exact ih (p + 1) (by omega)
    · rename_i c; simpa using c
theorem sB_end {t : List Nat} {p : Nat} (h : p ≤ t.length) : isBl (gL t (sB t p)) = false := sBm_end _ _ (by omega)
theorem sB_stay {t : List Nat} {p : Nat} (h : isBl (gL t p) = false) : sB t p = p := by
  unfold sB
  cases t.length - p with
  | zero => rfl
  | succ m => unfold sBm; rw [if_neg (by rw [h]; decide)]
theorem sB_idem {t : List Nat} {p : Nat} (h : p ≤ t.length) : sB t (sB t p) = sB t p := sB_stay (sB_end h)
def sSca (t : List Nat) (p : Nat) : Rd (List Tok × Nat) :=
  if gL t p = 34 then mapR (fun y => ([(3, y.1.length, y.1)], y.2)) (sStr t p)
  else if gL t p = 102 then mapR (fun q => ([(7, 20, [])], q)) (sWd t 0 p)
  else if gL t p = 116 then mapR (fun q => ([(7, 21, [])], q)) (sWd t 1 p)
  else if gL t p = 110 then mapR (fun q => ([(7, 22, [])], q)) (sWd t 2 p)
  else if gL t p = 45 ∨ isDg (gL t p) = true then mapR (fun y => ([(y.1.1, y.1.2, [])], y.2)) (sNum t p)
  else .inl (1, p)
def cls (isMap : Bool) : Int32 := if isMap = true then 125 else 93
def srt (isMap : Bool) : Nat := if isMap = true then 5 else 4
def sKey (t : List Nat) (isMap : Bool) (p : Nat) : Rd (List Tok × Nat) :=
  if isMap = true then (if gL t (sB t p) = 34 then (match sStr t (sB t p) with
    | .inl k => .inl k
    | .inr y => if gL t (sB t y.2) = 58 then .inr ([(3, y.1.length, y.1)], sB t y.2 + 1) else .inl (1, sB t y.2)) else .inl (1, sB t p)) else .inr ([], p)
def sPts (t : List Nat) (val : Nat → Rd (List Tok × Nat)) (isMap : Bool) : Nat → Nat → Rd (List Tok × Nat × Nat)
  | 0, p => .inl (1, p)
  | m + 1, p => match sKey t isMap p with
    | .inl k => .inl k
    | .inr kp => match val (sB t kp.2) with
      | .inl k => .inl k
      | .inr vp => if gL t (sB t vp.2) = cls isMap then .inr (kp.1 ++ vp.1, 1, sB t vp.2 + 1) else if gL t (sB t vp.2) = 44 then (match sPts t val isMap m (sB t vp.2 + 1) with
        | .inl k => .inl k
        | .inr y => .inr (kp.1 ++ vp.1 ++ y.1, y.2.1 + 1, y.2.2)) else .inl (1, sB t vp.2)
def sBox (t : List Nat) (val : Nat → Rd (List Tok × Nat)) (isMap : Bool) (p : Nat) : Rd (List Tok × Nat) :=
  if gL t (sB t (p + 1)) = cls isMap then .inr ([(srt isMap, 0, [])], sB t (p + 1) + 1) else match sPts t val isMap 4001 (sB t (p + 1)) with
    | .inl k => .inl k
    | .inr y => .inr ((srt isMap, y.2.1, []) :: y.1, y.2.2)
def sVal (t : List Nat) : Nat → Nat → Rd (List Tok × Nat)
  | 0, p => if gL t p = 91 ∨ gL t p = 123 then .inl (4, p) else sSca t p
  | d + 1, p => if gL t p = 91 then sBox t (sVal t d) false p else if gL t p = 123 then sBox t (sVal t d) true p else sSca t p
/-- what a reading of things takes and gives -/
def Bd (t : List Nat) (p : Nat) (ts : List Tok) (q : Nat) : Prop := p ≤ q ∧ q ≤ t.length ∧ ts.length + (ltL ts).length ≤ q - p ∧ ∀ x ∈ ts, wTk x
theorem Bd.app {t : List Nat} {p q r : Nat} {a b : List Tok} (h : Bd t p a q) (g : Bd t q b r) : Bd t p (a ++ b) r := by
  obtain ⟨h1, h2, h3, h4⟩ := h
  obtain ⟨g1, g2, g3, g4⟩ := g
  refine ⟨by omega, g2, ?_, fun x hx => (List.mem_append.mp hx).elim (h4 x) (g4 x)⟩
  rw [ltL_app]
  simp only [List.length_append]
  omega
theorem Bd.to {t : List Nat} {p q r : Nat} {a : List Tok} (h : Bd t p a q) (hq : q ≤ r) (hr : r ≤ t.length) : Bd t p a r := ⟨by have := h.1; omega, hr, by have := h.2.2.1; omega, h.2.2.2⟩
theorem Bd.frm {t : List Nat} {p q r : Nat} {a : List Tok} (h : Bd t p a q) (hr : r ≤ p) : Bd t r a q := ⟨by have := h.1; omega, h.2.1, by have := h.2.2.1; have := h.1; omega, h.2.2.2⟩
theorem Bd.nil {t : List Nat} {p : Nat} (h : p ≤ t.length) : Bd t p [] p := ⟨Nat.le_refl _, h, Nat.zero_le _, fun _ hx => absurd hx List.not_mem_nil⟩
theorem Bd.one {t : List Nat} {p q s n : Nat} (h : p < q) (hq : q ≤ t.length) (hs : s < 8) (h3 : s ≠ 3) (hn : n < 2 ^ 64) : Bd t p [(s, n, [])] q := by
  refine ⟨by omega, hq, by show 1 + 0 ≤ _; omega, fun x hx => ?_⟩
  rw [List.mem_singleton.mp hx]
  exact ⟨hs, hn, fun b hb => absurd hb List.not_mem_nil, fun z => absurd z h3, fun _ => rfl⟩
theorem sNum_bd {t : List Nat} (ht : ∀ x ∈ t, x < 256) {p : Nat} (hp : p ≤ t.length) {y : Nat × Nat} {q : Nat} (h : sNum t p = .inr (y, q)) : p < q ∧ q ≤ t.length ∧ y.1 < 2 ∧ y.2 < 2 ^ 64 := by
  have hE : ∀ a b c, a < b → p ≤ a → b ≤ t.length → sNumE t p a b c = .inr (y, q) → p < q ∧ q ≤ t.length ∧ y.1 < 2 ∧ y.2 < 2 ^ 64 := by
    intro a b c hab hpa hb h
    unfold sNumE at h
    split at h
    · split at h
      · split at h <;> cases h
      · split at h <;> cases h
    · split at h
      · rename_i c1
        obtain ⟨e1, e2⟩ := Prod.mk.inj (Sum.inr.inj h)
        subst e2
        subst e1
        refine ⟨by omega, hb, ?_, (numTh_lt c1.2).2⟩
        unfold numTh
        split
        · show (1 : Nat) < 2; decide
        · show (0 : Nat) < 2; decide
      · cases h
  have hF : ∀ a b, a < b → p ≤ a → b ≤ t.length → sNumF t p a b = .inr (y, q) → p < q ∧ q ≤ t.length ∧ y.1 < 2 ∧ y.2 < 2 ^ 64 := by
    intro a b hab hpa hb h
    unfold sNumF at h
    split at h
    · split at h
      · exact hE a b _ hab hpa hb h
      · cases h
    · exact hE a b _ hab hpa hb h
  have hA : ∀ a, p ≤ a → a ≤ t.length → sNumA t p a = .inr (y, q) → p < q ∧ q ≤ t.length ∧ y.1 < 2 ∧ y.2 < 2 ^ 64 := by
    intro a hpa ha h
    unfold sNumA at h
    split at h
    · rename_i c
      have := gL_lit (v := 48) (by decide) rfl c
      exact hF a (a + 1) (by omega) hpa (by omega) h
    · split at h
      · rename_i c1 c2
        exact hF a _ (sD_pos.mpr c2) hpa (sD_le ha).2 h
      · cases h
  unfold sNum at h
  by_cases c : gL t p = 45
  · have := gL_lit (v := 45) (by decide) rfl c
    rw [if_pos c] at h
    exact hA (p + 1) (by omega) (by omega) h
  · rw [if_neg c] at h
    exact hA p (Nat.le_refl _) hp h
theorem sStr_bd {t : List Nat} (ht : ∀ x ∈ t, x < 256) (hle : t.length ≤ 4000) {p : Nat} (hp : p < t.length) {bs : List Nat} {q : Nat} (h : sStr t p = .inr (bs, q)) : p < q ∧ Bd t p [(3, bs.length, bs)] q ∧ bs.length + 2 ≤ q - p := by
  have g := sStrF_bd ht 4002 (p + 1) (by omega) bs q h
  refine ⟨by omega, ⟨by omega, g.2.1, ?_, fun x hx => ?_⟩, by omega⟩
  · show 1 + (bs ++ []).length ≤ _
    rw [List.append_nil]
    omega
  · rw [List.mem_singleton.mp hx]
    exact ⟨by show (3 : Nat) < 8; decide, by show bs.length < _; omega, g.2.2.2, fun _ => rfl, fun z => absurd rfl z⟩
theorem mapR_inr {α β : Type} {f : α → β} {r : Rd α} {y : β} (h : mapR f r = .inr y) : ∃ x, r = .inr x ∧ f x = y := by
  cases r with
  | inl k => cases h
  | inr x => exact ⟨x, rfl, Sum.inr.inj h⟩
section SPB
variable {t : List Nat}
theorem sSca_bd (ht : ∀ x ∈ t, x < 256) (hle : t.length ≤ 4000) {p : Nat} (hp : p ≤ t.length) {ts : List Tok} {q : Nat} (h : sSca t p = .inr (ts, q)) : p < q ∧ Bd t p ts q := by
  have wd : ∀ sI w, sI < 3 → w < 256 → ∀ hp2 : p < t.length, mapR (fun q => ([((7 : Nat), w, ([] : List Nat))], q)) (sWd t sI p) = .inr (ts, q) → p < q ∧ Bd t p ts q := by
    intro sI w hs hw hp2 h
    obtain ⟨x, h1, h2⟩ := mapR_inr h
    obtain ⟨e1, e2⟩ := Prod.mk.inj h2
    subst e2
    subst e1
    have g := sWdm_bd hs (sLn sI) 0 (by omega) x (by omega) h1
    have hl : 0 < sLn sI := by
      have : ∀ s, s < 3 → 0 < sLn s := by decide +kernel
      exact this sI hs
    exact ⟨by omega, Bd.one (by omega) g.2 (by decide) (by decide) (by omega)⟩
  unfold sSca at h
  by_cases c1 : gL t p = 34
  · rw [if_pos c1] at h
    obtain ⟨x, h1, h2⟩ := mapR_inr h
    obtain ⟨e1, e2⟩ := Prod.mk.inj h2
    obtain ⟨bs, q1⟩ := x
    have g := sStr_bd ht hle (gL_lit (v := 34) (by decide) rfl c1) h1
    subst e2
    subst e1
    exact ⟨g.1, g.2.1⟩
  rw [if_neg c1] at h
  by_cases c2 : gL t p = 102
  · rw [if_pos c2] at h
    exact wd 0 20 (by decide) (by decide) (gL_lit (v := 102) (by decide) rfl c2) h
  rw [if_neg c2] at h
  by_cases c3 : gL t p = 116
  · rw [if_pos c3] at h
    exact wd 1 21 (by decide) (by decide) (gL_lit (v := 116) (by decide) rfl c3) h
  rw [if_neg c3] at h
  by_cases c4 : gL t p = 110
  · rw [if_pos c4] at h
    exact wd 2 22 (by decide) (by decide) (gL_lit (v := 110) (by decide) rfl c4) h
  rw [if_neg c4] at h
  split at h
  · obtain ⟨x, h1, h2⟩ := mapR_inr h
    obtain ⟨e1, e2⟩ := Prod.mk.inj h2
    obtain ⟨y, q1⟩ := x
    have g := sNum_bd ht hp h1
    subst e2
    subst e1
    exact ⟨g.1, Bd.one g.1 g.2.1 (by show y.1 < 8; omega) (by show y.1 ≠ 3; omega) g.2.2.2⟩
  · cases h
theorem sKey_bd (ht : ∀ x ∈ t, x < 256) (hle : t.length ≤ 4000) {isMap : Bool} {p : Nat} (hp : p ≤ t.length) {ts : List Tok} {q : Nat} (h : sKey t isMap p = .inr (ts, q)) : Bd t p ts q := by
  have hb := sB_le hp
  unfold sKey at h
  split at h
  · by_cases c : gL t (sB t p) = 34
    · rw [if_pos c] at h
      cases hs : sStr t (sB t p) with
      | inl k => rw [hs] at h; cases h
      | inr y =>
        obtain ⟨bs, q1⟩ := y
        have g := sStr_bd ht hle (gL_lit (v := 34) (by decide) rfl c) hs
        have hb2 := sB_le g.2.1.2.1
        rw [hs] at h
        simp only [] at h
        split at h
        · rename_i c2
          have := gL_lit (v := 58) (by decide) rfl c2
          obtain ⟨e1, e2⟩ := Prod.mk.inj (Sum.inr.inj h)
          subst e2
          subst e1
          exact (g.2.1.to (by omega) (by omega)).frm hb.1
        · cases h
    · rw [if_neg c] at h; cases h
  · obtain ⟨e1, e2⟩ := Prod.mk.inj (Sum.inr.inj h)
    subst e2
    subst e1
    exact Bd.nil hp
theorem cls_in (ht : ∀ x ∈ t, x < 256) (hle : t.length ≤ 4000) {isMap : Bool} {p : Nat} (h : gL t p = cls isMap) : p < t.length := by
  cases isMap with
  | true => exact gL_lit (v := 125) (by decide) rfl h
  | false => exact gL_lit (v := 93) (by decide) rfl h
theorem sPts_bd (ht : ∀ x ∈ t, x < 256) (hle : t.length ≤ 4000) {val : Nat → Rd (List Tok × Nat)} {isMap : Bool} (hv : ∀ p, p ≤ t.length → ∀ ts q, val p = .inr (ts, q) → p < q ∧ Bd t p ts q) : ∀ m p, p ≤ t.length → ∀ ts n q, sPts t val isMap m p = .inr (ts, n, q) → p < q ∧ Bd t p ts q ∧ n ≤ q - p := by
  intro m
  induction m with
  | zero => intro p hp ts n q h; cases h
  | succ m ih =>
    intro p hp ts n q h
    unfold sPts at h
    cases hk : sKey t isMap p with
    | inl k => rw [hk] at h; cases h
    | inr kp =>
      obtain ⟨ks, p1⟩ := kp
      have g1 := sKey_bd ht hle hp hk
      have b1 := sB_le g1.2.1
      rw [hk] at h
      simp only [] at h
      cases hvv : val (sB t p1) with
      | inl k => rw [hvv] at h; cases h
      | inr vp =>
        obtain ⟨vs, p2⟩ := vp
        have g2 := hv _ b1.2 vs p2 hvv
        have b2 := sB_le g2.2.2.1
        have g3 := g1.app (g2.2.frm b1.1)
        have l1 := g1.1
        have l2 := g2.1
        rw [hvv] at h
        simp only [] at h
        by_cases c1 : gL t (sB t p2) = cls isMap
        · rw [if_pos c1] at h
          have hc := cls_in ht hle c1
          obtain ⟨e1, e0⟩ := Prod.mk.inj (Sum.inr.inj h)
          obtain ⟨e2, e3⟩ := Prod.mk.inj e0
          subst e3
          subst e2
          subst e1
          exact ⟨by omega, g3.to (by omega) (by omega), by omega⟩
        rw [if_neg c1] at h
        by_cases c2 : gL t (sB t p2) = 44
        · rw [if_pos c2] at h
          have hc := gL_lit (v := 44) (by decide) rfl c2
          cases hr : sPts t val isMap m (sB t p2 + 1) with
          | inl k => rw [hr] at h; cases h
          | inr y =>
            obtain ⟨ys, n1, q1⟩ := y
            have g4 := ih (sB t p2 + 1) (by omega) ys n1 q1 hr
            rw [hr] at h
            obtain ⟨e1, e0⟩ := Prod.mk.inj (Sum.inr.inj h)
            obtain ⟨e2, e3⟩ := Prod.mk.inj e0
            subst e3
            subst e2
            subst e1
            have l3 := g4.1
            exact ⟨by show p < q1; omega, (g3.to (r := sB t p2 + 1) (by omega) (by omega)).app g4.2.1, by show n1 + 1 ≤ q1 - p; omega⟩
        · rw [if_neg c2] at h; cases h
theorem sBox_bd (ht : ∀ x ∈ t, x < 256) (hle : t.length ≤ 4000) {val : Nat → Rd (List Tok × Nat)} {isMap : Bool} (hv : ∀ p, p ≤ t.length → ∀ ts q, val p = .inr (ts, q) → p < q ∧ Bd t p ts q) {p : Nat} (hp : p < t.length) {ts : List Tok} {q : Nat} (h : sBox t val isMap p = .inr (ts, q)) : p < q ∧ Bd t p ts q := by
  have hb := sB_le (t := t) (p := p + 1) (by omega)
  have hs : srt isMap < 8 ∧ srt isMap ≠ 3 := by cases isMap <;> decide
  unfold sBox at h
  by_cases c1 : gL t (sB t (p + 1)) = cls isMap
  · rw [if_pos c1] at h
    have hc := cls_in ht hle c1
    obtain ⟨e1, e2⟩ := Prod.mk.inj (Sum.inr.inj h)
    subst e2
    subst e1
    exact ⟨by omega, Bd.one (by omega) (by omega) hs.1 hs.2 (by decide)⟩
  rw [if_neg c1] at h
  cases hr : sPts t val isMap 4001 (sB t (p + 1)) with
  | inl k => rw [hr] at h; cases h
  | inr y =>
    obtain ⟨ys, n1, q1⟩ := y
    have g := sPts_bd ht hle hv 4001 _ hb.2 ys n1 q1 hr
    have gq := g.2.1.2.1
    rw [hr] at h
    obtain ⟨e1, e2⟩ := Prod.mk.inj (Sum.inr.inj h)
    subst e2
    subst e1
    refine ⟨by show p < q1; omega, ?_⟩
    exact Bd.app (a := [(srt isMap, n1, [])]) (q := p + 1) (Bd.one (by omega) (by omega) hs.1 hs.2 (by omega)) (g.2.1.frm hb.1)
theorem sVal_bd (ht : ∀ x ∈ t, x < 256) (hle : t.length ≤ 4000) : ∀ d p, p ≤ t.length → ∀ ts q, sVal t d p = .inr (ts, q) → p < q ∧ Bd t p ts q := by
  intro d
  induction d with
  | zero =>
    intro p hp ts q h
    unfold sVal at h
    split at h
    · cases h
    · exact sSca_bd ht hle hp h
  | succ d ih =>
    intro p hp ts q h
    unfold sVal at h
    by_cases c1 : gL t p = 91
    · rw [if_pos c1] at h
      exact sBox_bd ht hle ih (gL_lit (v := 91) (by decide) rfl c1) h
    rw [if_neg c1] at h
    by_cases c2 : gL t p = 123
    · rw [if_pos c2] at h
      exact sBox_bd ht hle ih (gL_lit (v := 123) (by decide) rfl c2) h
    rw [if_neg c2] at h
    exact sSca_bd ht hle hp h
end SPB
