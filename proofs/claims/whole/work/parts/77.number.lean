/-! PURE H: a number, read by both -/
def sNumE (t : List Nat) (p a b c : Nat) : Rd ((Nat × Nat) × Nat) :=
  if gL t c = 101 ∨ gL t c = 69 then
    (if gL t (c + 1) = 43 ∨ gL t (c + 1) = 45 then (if isDg (gL t (c + 2)) = true then .inl (3, p) else .inl (1, c + 2)) else (if isDg (gL t (c + 1)) = true then .inl (3, p) else .inl (1, c + 1)))
  else if c = b ∧ dv t a (b - a) ≤ lim (decide (gL t p = 45)) then .inr (numTh (decide (gL t p = 45)) (dv t a (b - a)), b) else .inl (3, p)
def sNumF (t : List Nat) (p a b : Nat) : Rd ((Nat × Nat) × Nat) :=
  if gL t b = 46 then (if isDg (gL t (b + 1)) = true then sNumE t p a b (sD t (b + 1)) else .inl (1, b + 1)) else sNumE t p a b b
def sNumA (t : List Nat) (p a : Nat) : Rd ((Nat × Nat) × Nat) :=
  if gL t a = 48 then sNumF t p a (a + 1) else if isDg (gL t a) = true then sNumF t p a (sD t a) else .inl (1, a)
def sNum (t : List Nat) (p : Nat) : Rd ((Nat × Nat) × Nat) := sNumA t p (if gL t p = 45 then p + 1 else p)
theorem gL_lit {t : List Nat} {i v : Nat} (hv : v < 256) {x : Int32} (hx : x = nI v) (h : gL t i = x) : i < t.length := gL_ne hv (h.trans hx)
/-- what a reading of J comes to: a fault, or bytes behind what was there, and a new place -/
def JOk (σ : JSt) (out : List Nat) (r : Rd (List Nat × Nat)) (x : Option (Bool × JSt)) : Prop := match r with
  | .inl kq => ∃ (a : Int32) (tg : RSt) (o : List Nat), x = some (false, jF (js_target (js_place σ a) tg) (nI kq.1) (nI kq.2)) ∧ RowL 6000 tg o ∧ o.length ≤ 100000
  | .inr bp => ∃ tg : RSt, x = some (true, js_target (js_place σ (nI bp.2)) tg) ∧ RowL 6000 tg (out ++ bp.1)
/-- what a reading of J comes to: a fault, or bytes behind what was there, and a new place -/
def z_JOk (σ : JSt) (out : List Nat) (r : Rd (List Nat × Nat)) (x : Option (Bool × JSt)) : Prop := match r with
  | .inl kq => ∃ (a : Int32) (tg : RSt) (o : List Nat), x = some (false, jF (js_target (js_place σ a) tg) (nI kq.1) (nI kq.2)) ∧ RowL 0 tg o ∧ o.length ≤ 100000
  | .inr bp => ∃ tg : RSt, x = some (true, js_target (js_place σ (nI bp.2)) tg) ∧ RowL 0 tg (out ++ bp.1)
def mapR {α β : Type} (f : α → β) (r : Rd α) : Rd β := match r with
  | .inl k => .inl k
  | .inr x => .inr (f x)
theorem JOk.fault {σ : JSt} {out : List Nat} {k q : Nat} {x : Option (Bool × JSt)} {a : Int32} (hR : RowL 6000 (jf_target σ) out) (ho : out.length ≤ 100000) (h : x = some (false, jF (js_place σ a) (nI k) (nI q))) : JOk σ out (.inl (k, q)) x := ⟨a, jf_target σ, out, h, hR, ho⟩
theorem z_JOk.fault {σ : JSt} {out : List Nat} {k q : Nat} {x : Option (Bool × JSt)} {a : Int32} (hR : RowL 0 (jf_target σ) out) (ho : out.length ≤ 100000) (h : x = some (false, jF (js_place σ a) (nI k) (nI q))) : z_JOk σ out (.inl (k, q)) x := ⟨a, jf_target σ, out, h, hR, ho⟩
section NUMJ
variable {t : List Nat} {σ : JSt} {out : List Nat} {p : Nat}
theorem j_num_end {a b : Nat} {pl : Nat} (hT : TpR (jf_tape σ) t) (hR : RowL 6000 (jf_target σ) out) (ho : out.length ≤ 60000) (hpa : a = if gL t p = 45 then p + 1 else p) (hab : a < b) (hbl : b ≤ t.length) (hdg : ∀ i, a ≤ i → i < b → isDg (gL t i) = true) (hz : t.getD a 0 = 48 → b = a + 1) (hpl : pl ≤ t.length) (hbp : b ≤ pl) :
    JOk σ out (if pl = b ∧ dv t a (b - a) ≤ lim (decide (gL t p = 45)) then .inr (hd (numTh (decide (gL t p = 45)) (dv t a (b - a))).1 (numTh (decide (gL t p = 45)) (dv t a (b - a))).2, b) else .inl (3, p))
      (if nI pl = nI b then jj_readNumber_b108 6000 (nI p) (nI a) (nI b) (1 : Int32) (js_place σ (nI pl)) else jj_readNumber_b108 6000 (nI p) (nI a) (nI b) (0 : Int32) (js_place σ (nI pl))) := by
  have hle := hT.2
  have hT2 : TpR (jf_tape (js_place σ (nI pl))) t := by simp only [jG_depthLimit_depthLimit, jG_depthLimit_place, jG_depthLimit_faultKind, jG_depthLimit_faultPlace, jG_depthLimit_tape, jG_depthLimit_target, jG_place_depthLimit, jG_place_place, jG_place_faultKind, jG_place_faultPlace, jG_place_tape, jG_place_target, jG_faultKind_depthLimit, jG_faultKind_place, jG_faultKind_faultKind, jG_faultKind_faultPlace, jG_faultKind_tape, jG_faultKind_target, jG_faultPlace_depthLimit, jG_faultPlace_place, jG_faultPlace_faultKind, jG_faultPlace_faultPlace, jG_faultPlace_tape, jG_faultPlace_target, jG_tape_depthLimit, jG_tape_place, jG_tape_faultKind, jG_tape_faultPlace, jG_tape_tape, jG_tape_target, jG_target_depthLimit, jG_target_place, jG_target_faultKind, jG_target_faultPlace, jG_target_tape, jG_target_target]; exact hT
  have hR2 : RowL 6000 (jf_target (js_place σ (nI pl))) out := by simp only [jG_depthLimit_depthLimit, jG_depthLimit_place, jG_depthLimit_faultKind, jG_depthLimit_faultPlace, jG_depthLimit_tape, jG_depthLimit_target, jG_place_depthLimit, jG_place_place, jG_place_faultKind, jG_place_faultPlace, jG_place_tape, jG_place_target, jG_faultKind_depthLimit, jG_faultKind_place, jG_faultKind_faultKind, jG_faultKind_faultPlace, jG_faultKind_tape, jG_faultKind_target, jG_faultPlace_depthLimit, jG_faultPlace_place, jG_faultPlace_faultKind, jG_faultPlace_faultPlace, jG_faultPlace_tape, jG_faultPlace_target, jG_tape_depthLimit, jG_tape_place, jG_tape_faultKind, jG_tape_faultPlace, jG_tape_tape, jG_tape_target, jG_target_depthLimit, jG_target_place, jG_target_faultKind, jG_target_faultPlace, jG_target_tape, jG_target_target]; exact hR
  have b134 : jj_readNumber_b134 6000 (nI p) (js_place σ (nI pl)) = some (false, jF (js_place σ (nI pl)) 3 (nI p)) := rfl
  by_cases c : pl = b
  · subst c
    rw [if_pos rfl]
    unfold jj_readNumber_b108
    rw [if_neg (show ¬ (1 : Int32) = 0 by decide)]
    have hw := j_whole (neg := decide (gL t p = 45)) (a := a) (n := pl - a) hT2 hR2 (by omega) (by omega) (fun i g1 g2 => hdg i g1 (by omega)) (fun z => by have := hz z; omega) (by omega)
    rw [show a + (pl - a) = pl by omega] at hw
    have key : (if nI a ≤ nI p then jj_readNumber_b128 6000 (nI p) (0 : Int32) (nI pl) (nI a) (js_place σ (nI pl)) else jj_readNumber_b128 6000 (nI p) (1 : Int32) (nI pl) (nI a) (js_place σ (nI pl))) = jj_readNumber_b128 6000 (nI p) (bI (decide (gL t p = 45))) (nI pl) (nI a) (js_place σ (nI pl)) := by
      by_cases c2 : gL t p = 45
      · rw [if_pos c2] at hpa
        rw [if_neg (nI_ge (by omega) (by omega)), decide_eq_true c2]
        rfl
      · rw [if_neg c2] at hpa
        rw [if_pos (nI_le (by omega) (by omega)), decide_eq_false c2]
        rfl
    rw [key]
    unfold jj_readNumber_b128
    by_cases c3 : dv t a (pl - a) ≤ lim (decide (gL t p = 45))
    · obtain ⟨tg, e1, e2⟩ := hw.1 c3
      rw [bd_of e1, if_pos ⟨rfl, c3⟩]
      exact ⟨tg, rfl, e2⟩
    · rw [bd_of (hw.2 (by omega)), if_neg (fun z => c3 z.2)]
      simp only []
      rw [if_neg (show ¬ false = true by decide), b134]
      exact JOk.fault hR (by omega) rfl
  · rw [if_neg (fun z => c ((nI_eq (by omega) (by omega)).mp z)), if_neg (fun z => c z.1)]
    unfold jj_readNumber_b108
    rw [if_pos (show (0 : Int32) = 0 from rfl), b134]
    exact JOk.fault hR (by omega) rfl
theorem z_j_num_end {a b : Nat} {pl : Nat} (hT : TpR (jf_tape σ) t) (hR : RowL 0 (jf_target σ) out) (ho : out.length ≤ 60000) (hpa : a = if gL t p = 45 then p + 1 else p) (hab : a < b) (hbl : b ≤ t.length) (hdg : ∀ i, a ≤ i → i < b → isDg (gL t i) = true) (hz : t.getD a 0 = 48 → b = a + 1) (hpl : pl ≤ t.length) (hbp : b ≤ pl) :
    z_JOk σ out (if pl = b ∧ dv t a (b - a) ≤ lim (decide (gL t p = 45)) then .inr (hd (numTh (decide (gL t p = 45)) (dv t a (b - a))).1 (numTh (decide (gL t p = 45)) (dv t a (b - a))).2, b) else .inl (3, p))
      (if nI pl = nI b then jj_readNumber_b108 0 (nI p) (nI a) (nI b) (1 : Int32) (js_place σ (nI pl)) else jj_readNumber_b108 0 (nI p) (nI a) (nI b) (0 : Int32) (js_place σ (nI pl))) := by
  have hle := hT.2
  have hT2 : TpR (jf_tape (js_place σ (nI pl))) t := by simp only [jG_depthLimit_depthLimit, jG_depthLimit_place, jG_depthLimit_faultKind, jG_depthLimit_faultPlace, jG_depthLimit_tape, jG_depthLimit_target, jG_place_depthLimit, jG_place_place, jG_place_faultKind, jG_place_faultPlace, jG_place_tape, jG_place_target, jG_faultKind_depthLimit, jG_faultKind_place, jG_faultKind_faultKind, jG_faultKind_faultPlace, jG_faultKind_tape, jG_faultKind_target, jG_faultPlace_depthLimit, jG_faultPlace_place, jG_faultPlace_faultKind, jG_faultPlace_faultPlace, jG_faultPlace_tape, jG_faultPlace_target, jG_tape_depthLimit, jG_tape_place, jG_tape_faultKind, jG_tape_faultPlace, jG_tape_tape, jG_tape_target, jG_target_depthLimit, jG_target_place, jG_target_faultKind, jG_target_faultPlace, jG_target_tape, jG_target_target]; exact hT
  have hR2 : RowL 0 (jf_target (js_place σ (nI pl))) out := by simp only [jG_depthLimit_depthLimit, jG_depthLimit_place, jG_depthLimit_faultKind, jG_depthLimit_faultPlace, jG_depthLimit_tape, jG_depthLimit_target, jG_place_depthLimit, jG_place_place, jG_place_faultKind, jG_place_faultPlace, jG_place_tape, jG_place_target, jG_faultKind_depthLimit, jG_faultKind_place, jG_faultKind_faultKind, jG_faultKind_faultPlace, jG_faultKind_tape, jG_faultKind_target, jG_faultPlace_depthLimit, jG_faultPlace_place, jG_faultPlace_faultKind, jG_faultPlace_faultPlace, jG_faultPlace_tape, jG_faultPlace_target, jG_tape_depthLimit, jG_tape_place, jG_tape_faultKind, jG_tape_faultPlace, jG_tape_tape, jG_tape_target, jG_target_depthLimit, jG_target_place, jG_target_faultKind, jG_target_faultPlace, jG_target_tape, jG_target_target]; exact hR
  have b134 : jj_readNumber_b134 0 (nI p) (js_place σ (nI pl)) = some (false, jF (js_place σ (nI pl)) 3 (nI p)) := rfl
  by_cases c : pl = b
  · subst c
    rw [if_pos rfl]
    unfold jj_readNumber_b108
    rw [if_neg (show ¬ (1 : Int32) = 0 by decide)]
    have hw := z_j_whole (neg := decide (gL t p = 45)) (a := a) (n := pl - a) hT2 hR2 (by omega) (by omega) (fun i g1 g2 => hdg i g1 (by omega)) (fun z => by have := hz z; omega) (by omega)
    rw [show a + (pl - a) = pl by omega] at hw
    have key : (if nI a ≤ nI p then jj_readNumber_b128 0 (nI p) (0 : Int32) (nI pl) (nI a) (js_place σ (nI pl)) else jj_readNumber_b128 0 (nI p) (1 : Int32) (nI pl) (nI a) (js_place σ (nI pl))) = jj_readNumber_b128 0 (nI p) (bI (decide (gL t p = 45))) (nI pl) (nI a) (js_place σ (nI pl)) := by
      by_cases c2 : gL t p = 45
      · rw [if_pos c2] at hpa
        rw [if_neg (nI_ge (by omega) (by omega)), decide_eq_true c2]
        rfl
      · rw [if_neg c2] at hpa
        rw [if_pos (nI_le (by omega) (by omega)), decide_eq_false c2]
        rfl
    rw [key]
    unfold jj_readNumber_b128
    by_cases c3 : dv t a (pl - a) ≤ lim (decide (gL t p = 45))
    · obtain ⟨tg, e1, e2⟩ := hw.1 c3
      rw [bd_of e1, if_pos ⟨rfl, c3⟩]
      exact ⟨tg, rfl, e2⟩
    · rw [bd_of (hw.2 (by omega)), if_neg (fun z => c3 z.2)]
      simp only []
      rw [if_neg (show ¬ false = true by decide), b134]
      exact z_JOk.fault hR (by omega) rfl
  · rw [if_neg (fun z => c ((nI_eq (by omega) (by omega)).mp z)), if_neg (fun z => c z.1)]
    unfold jj_readNumber_b108
    rw [if_pos (show (0 : Int32) = 0 from rfl), b134]
    exact z_JOk.fault hR (by omega) rfl
theorem j_exp {c : Nat} (hT : TpR (jf_tape σ) t) (hc : c ≤ t.length) (hpl : jf_place σ = nI c) :
    jj_readExponent 6000 σ = if gL t c = 101 ∨ gL t c = 69 then (if gL t (c + 1) = 43 ∨ gL t (c + 1) = 45 then (if isDg (gL t (c + 2)) = true then some (true, js_place σ (nI (sD t (c + 2)))) else some (false, jF (js_place σ (nI (c + 2))) 1 (nI (c + 2)))) else (if isDg (gL t (c + 1)) = true then some (true, js_place σ (nI (sD t (c + 1)))) else some (false, jF (js_place σ (nI (c + 1))) 1 (nI (c + 1))))) else some (true, σ) := by
  have hle := hT.2
  have dig : ∀ q, q ≤ t.length → jj_readExponent_b86 6000 (js_place σ (nI q)) = if isDg (gL t q) = true then some (true, js_place σ (nI (sD t q))) else some (false, jF (js_place σ (nI q)) 1 (nI q)) := by
    intro q hq
    unfold jj_readExponent_b86
    rw [j_digits (t := t) (p := q) (by simp only [jG_depthLimit_depthLimit, jG_depthLimit_place, jG_depthLimit_faultKind, jG_depthLimit_faultPlace, jG_depthLimit_tape, jG_depthLimit_target, jG_place_depthLimit, jG_place_place, jG_place_faultKind, jG_place_faultPlace, jG_place_tape, jG_place_target, jG_faultKind_depthLimit, jG_faultKind_place, jG_faultKind_faultKind, jG_faultKind_faultPlace, jG_faultKind_tape, jG_faultKind_target, jG_faultPlace_depthLimit, jG_faultPlace_place, jG_faultPlace_faultKind, jG_faultPlace_faultPlace, jG_faultPlace_tape, jG_faultPlace_target, jG_tape_depthLimit, jG_tape_place, jG_tape_faultKind, jG_tape_faultPlace, jG_tape_tape, jG_tape_target, jG_target_depthLimit, jG_target_place, jG_target_faultKind, jG_target_faultPlace, jG_target_tape, jG_target_target]; exact hT) hq (by simp only [jG_depthLimit_depthLimit, jG_depthLimit_place, jG_depthLimit_faultKind, jG_depthLimit_faultPlace, jG_depthLimit_tape, jG_depthLimit_target, jG_place_depthLimit, jG_place_place, jG_place_faultKind, jG_place_faultPlace, jG_place_tape, jG_place_target, jG_faultKind_depthLimit, jG_faultKind_place, jG_faultKind_faultKind, jG_faultKind_faultPlace, jG_faultKind_tape, jG_faultKind_target, jG_faultPlace_depthLimit, jG_faultPlace_place, jG_faultPlace_faultKind, jG_faultPlace_faultPlace, jG_faultPlace_tape, jG_faultPlace_target, jG_tape_depthLimit, jG_tape_place, jG_tape_faultKind, jG_tape_faultPlace, jG_tape_tape, jG_tape_target, jG_target_depthLimit, jG_target_place, jG_target_faultKind, jG_target_faultPlace, jG_target_tape, jG_target_target])]
    by_cases c : isDg (gL t q) = true
    · rw [if_pos c, if_pos c, bd_of rfl, js_pp]
    · rw [if_neg c, if_neg c, bd_of rfl]
  have b34 : c < t.length → jj_readExponent_b34 6000 σ = (if gL t (c + 1) = 43 ∨ gL t (c + 1) = 45 then (if isDg (gL t (c + 2)) = true then some (true, js_place σ (nI (sD t (c + 2)))) else some (false, jF (js_place σ (nI (c + 2))) 1 (nI (c + 2)))) else (if isDg (gL t (c + 1)) = true then some (true, js_place σ (nI (sD t (c + 1)))) else some (false, jF (js_place σ (nI (c + 1))) 1 (nI (c + 1))))) := by
    intro hcl
    unfold jj_readExponent_b34 jj_readExponent_b76
    rw [hpl, nI_1, bd_of (hT.at (by omega))]
    simp only [jG_depthLimit_depthLimit, jG_depthLimit_place, jG_depthLimit_faultKind, jG_depthLimit_faultPlace, jG_depthLimit_tape, jG_depthLimit_target, jG_place_depthLimit, jG_place_place, jG_place_faultKind, jG_place_faultPlace, jG_place_tape, jG_place_target, jG_faultKind_depthLimit, jG_faultKind_place, jG_faultKind_faultKind, jG_faultKind_faultPlace, jG_faultKind_tape, jG_faultKind_target, jG_faultPlace_depthLimit, jG_faultPlace_place, jG_faultPlace_faultKind, jG_faultPlace_faultPlace, jG_faultPlace_tape, jG_faultPlace_target, jG_tape_depthLimit, jG_tape_place, jG_tape_faultKind, jG_tape_faultPlace, jG_tape_tape, jG_tape_target, jG_target_depthLimit, jG_target_place, jG_target_faultKind, jG_target_faultPlace, jG_target_tape, jG_target_target]
    have et : ∀ x : Int32, js_tape (js_place σ x) (jf_tape σ) = js_place σ x := fun _ => rfl
    by_cases c1 : gL t (c + 1) = 43
    · have hc2 : c + 1 < t.length := gL_lit (v := 43) (by decide) rfl c1
      rw [if_pos c1, if_pos (Or.inl c1), et, js_pp, nI_1, dig _ (by omega)]
    · rw [if_neg c1, bd_of (hT.at (by omega))]
      simp only [jG_depthLimit_depthLimit, jG_depthLimit_place, jG_depthLimit_faultKind, jG_depthLimit_faultPlace, jG_depthLimit_tape, jG_depthLimit_target, jG_place_depthLimit, jG_place_place, jG_place_faultKind, jG_place_faultPlace, jG_place_tape, jG_place_target, jG_faultKind_depthLimit, jG_faultKind_place, jG_faultKind_faultKind, jG_faultKind_faultPlace, jG_faultKind_tape, jG_faultKind_target, jG_faultPlace_depthLimit, jG_faultPlace_place, jG_faultPlace_faultKind, jG_faultPlace_faultPlace, jG_faultPlace_tape, jG_faultPlace_target, jG_tape_depthLimit, jG_tape_place, jG_tape_faultKind, jG_tape_faultPlace, jG_tape_tape, jG_tape_target, jG_target_depthLimit, jG_target_place, jG_target_faultKind, jG_target_faultPlace, jG_target_tape, jG_target_target]
      by_cases c2 : gL t (c + 1) = 45
      · have hc2 : c + 1 < t.length := gL_lit (v := 45) (by decide) rfl c2
        rw [if_pos c2, if_pos (Or.inr c2), et, et, js_pp, nI_1, dig _ (by omega)]
      · rw [if_neg c2, if_neg (fun z => z.elim c1 c2), et, et, dig _ (by omega)]
  unfold jj_readExponent
  rw [hpl, bd_of (hT.at (by omega))]
  simp only []
  rw [js_tape_id]
  by_cases c1 : gL t c = 101
  · rw [if_pos c1, if_pos (Or.inl c1), b34 (gL_lit (v := 101) (by decide) rfl c1)]
  · rw [if_neg c1, bd_of (hT.at (by omega))]
    simp only []
    rw [js_tape_id]
    by_cases c2 : gL t c = 69
    · rw [if_pos c2, if_pos (Or.inr c2), b34 (gL_lit (v := 69) (by decide) rfl c2)]
    · rw [if_neg c2, if_neg (fun z => z.elim c1 c2)]
theorem z_j_exp {c : Nat} (hT : TpR (jf_tape σ) t) (hc : c ≤ t.length) (hpl : jf_place σ = nI c) :
    jj_readExponent 0 σ = if gL t c = 101 ∨ gL t c = 69 then (if gL t (c + 1) = 43 ∨ gL t (c + 1) = 45 then (if isDg (gL t (c + 2)) = true then some (true, js_place σ (nI (sD t (c + 2)))) else some (false, jF (js_place σ (nI (c + 2))) 1 (nI (c + 2)))) else (if isDg (gL t (c + 1)) = true then some (true, js_place σ (nI (sD t (c + 1)))) else some (false, jF (js_place σ (nI (c + 1))) 1 (nI (c + 1))))) else some (true, σ) := by
  have hle := hT.2
  have dig : ∀ q, q ≤ t.length → jj_readExponent_b86 0 (js_place σ (nI q)) = if isDg (gL t q) = true then some (true, js_place σ (nI (sD t q))) else some (false, jF (js_place σ (nI q)) 1 (nI q)) := by
    intro q hq
    unfold jj_readExponent_b86
    rw [z_j_digits (t := t) (p := q) (by simp only [jG_depthLimit_depthLimit, jG_depthLimit_place, jG_depthLimit_faultKind, jG_depthLimit_faultPlace, jG_depthLimit_tape, jG_depthLimit_target, jG_place_depthLimit, jG_place_place, jG_place_faultKind, jG_place_faultPlace, jG_place_tape, jG_place_target, jG_faultKind_depthLimit, jG_faultKind_place, jG_faultKind_faultKind, jG_faultKind_faultPlace, jG_faultKind_tape, jG_faultKind_target, jG_faultPlace_depthLimit, jG_faultPlace_place, jG_faultPlace_faultKind, jG_faultPlace_faultPlace, jG_faultPlace_tape, jG_faultPlace_target, jG_tape_depthLimit, jG_tape_place, jG_tape_faultKind, jG_tape_faultPlace, jG_tape_tape, jG_tape_target, jG_target_depthLimit, jG_target_place, jG_target_faultKind, jG_target_faultPlace, jG_target_tape, jG_target_target]; exact hT) hq (by simp only [jG_depthLimit_depthLimit, jG_depthLimit_place, jG_depthLimit_faultKind, jG_depthLimit_faultPlace, jG_depthLimit_tape, jG_depthLimit_target, jG_place_depthLimit, jG_place_place, jG_place_faultKind, jG_place_faultPlace, jG_place_tape, jG_place_target, jG_faultKind_depthLimit, jG_faultKind_place, jG_faultKind_faultKind, jG_faultKind_faultPlace, jG_faultKind_tape, jG_faultKind_target, jG_faultPlace_depthLimit, jG_faultPlace_place, jG_faultPlace_faultKind, jG_faultPlace_faultPlace, jG_faultPlace_tape, jG_faultPlace_target, jG_tape_depthLimit, jG_tape_place, jG_tape_faultKind, jG_tape_faultPlace, jG_tape_tape, jG_tape_target, jG_target_depthLimit, jG_target_place, jG_target_faultKind, jG_target_faultPlace, jG_target_tape, jG_target_target])]
    by_cases c : isDg (gL t q) = true
    · rw [if_pos c, if_pos c, bd_of rfl, js_pp]
    · rw [if_neg c, if_neg c, bd_of rfl]
  have b34 : c < t.length → jj_readExponent_b34 0 σ = (if gL t (c + 1) = 43 ∨ gL t (c + 1) = 45 then (if isDg (gL t (c + 2)) = true then some (true, js_place σ (nI (sD t (c + 2)))) else some (false, jF (js_place σ (nI (c + 2))) 1 (nI (c + 2)))) else (if isDg (gL t (c + 1)) = true then some (true, js_place σ (nI (sD t (c + 1)))) else some (false, jF (js_place σ (nI (c + 1))) 1 (nI (c + 1))))) := by
    intro hcl
    unfold jj_readExponent_b34 jj_readExponent_b76
    rw [hpl, nI_1, bd_of (hT.at (by omega))]
    simp only [jG_depthLimit_depthLimit, jG_depthLimit_place, jG_depthLimit_faultKind, jG_depthLimit_faultPlace, jG_depthLimit_tape, jG_depthLimit_target, jG_place_depthLimit, jG_place_place, jG_place_faultKind, jG_place_faultPlace, jG_place_tape, jG_place_target, jG_faultKind_depthLimit, jG_faultKind_place, jG_faultKind_faultKind, jG_faultKind_faultPlace, jG_faultKind_tape, jG_faultKind_target, jG_faultPlace_depthLimit, jG_faultPlace_place, jG_faultPlace_faultKind, jG_faultPlace_faultPlace, jG_faultPlace_tape, jG_faultPlace_target, jG_tape_depthLimit, jG_tape_place, jG_tape_faultKind, jG_tape_faultPlace, jG_tape_tape, jG_tape_target, jG_target_depthLimit, jG_target_place, jG_target_faultKind, jG_target_faultPlace, jG_target_tape, jG_target_target]
    have et : ∀ x : Int32, js_tape (js_place σ x) (jf_tape σ) = js_place σ x := fun _ => rfl
    by_cases c1 : gL t (c + 1) = 43
    · have hc2 : c + 1 < t.length := gL_lit (v := 43) (by decide) rfl c1
      rw [if_pos c1, if_pos (Or.inl c1), et, js_pp, nI_1, dig _ (by omega)]
    · rw [if_neg c1, bd_of (hT.at (by omega))]
      simp only [jG_depthLimit_depthLimit, jG_depthLimit_place, jG_depthLimit_faultKind, jG_depthLimit_faultPlace, jG_depthLimit_tape, jG_depthLimit_target, jG_place_depthLimit, jG_place_place, jG_place_faultKind, jG_place_faultPlace, jG_place_tape, jG_place_target, jG_faultKind_depthLimit, jG_faultKind_place, jG_faultKind_faultKind, jG_faultKind_faultPlace, jG_faultKind_tape, jG_faultKind_target, jG_faultPlace_depthLimit, jG_faultPlace_place, jG_faultPlace_faultKind, jG_faultPlace_faultPlace, jG_faultPlace_tape, jG_faultPlace_target, jG_tape_depthLimit, jG_tape_place, jG_tape_faultKind, jG_tape_faultPlace, jG_tape_tape, jG_tape_target, jG_target_depthLimit, jG_target_place, jG_target_faultKind, jG_target_faultPlace, jG_target_tape, jG_target_target]
      by_cases c2 : gL t (c + 1) = 45
      · have hc2 : c + 1 < t.length := gL_lit (v := 45) (by decide) rfl c2
        rw [if_pos c2, if_pos (Or.inr c2), et, et, js_pp, nI_1, dig _ (by omega)]
      · rw [if_neg c2, if_neg (fun z => z.elim c1 c2), et, et, dig _ (by omega)]
  unfold jj_readExponent
  rw [hpl, bd_of (hT.at (by omega))]
  simp only []
  rw [js_tape_id]
  by_cases c1 : gL t c = 101
  · rw [if_pos c1, if_pos (Or.inl c1), b34 (gL_lit (v := 101) (by decide) rfl c1)]
  · rw [if_neg c1, bd_of (hT.at (by omega))]
    simp only []
    rw [js_tape_id]
    by_cases c2 : gL t c = 69
    · rw [if_pos c2, if_pos (Or.inr c2), b34 (gL_lit (v := 69) (by decide) rfl c2)]
    · rw [if_neg c2, if_neg (fun z => z.elim c1 c2)]
theorem j_fin {a b c : Nat} (hT : TpR (jf_tape σ) t) (hR : RowL 6000 (jf_target σ) out) (ho : out.length ≤ 60000) (hpa : a = if gL t p = 45 then p + 1 else p) (hab : a < b) (hbl : b ≤ t.length) (hdg : ∀ i, a ≤ i → i < b → isDg (gL t i) = true) (hz : t.getD a 0 = 48 → b = a + 1) (hbc : b ≤ c) (hcl : c ≤ t.length) {k : Bool × JSt → Option (Bool × JSt)} (hk : k = fun x12 => (if x12.1 = true then (if (jf_place x12.2) = nI b then jj_readNumber_b108 6000 (nI p) (nI a) (nI b) (1 : Int32) x12.2 else jj_readNumber_b108 6000 (nI p) (nI a) (nI b) (0 : Int32) x12.2) else some (false, x12.2))) :
    JOk σ out (mapR (fun y => (hd y.1.1 y.1.2, y.2)) (sNumE t p a b c)) (bd (jj_readExponent 6000 (js_place σ (nI c))) k) := by
  have hle := hT.2
  have hT2 : TpR (jf_tape (js_place σ (nI c))) t := by simp only [jG_depthLimit_depthLimit, jG_depthLimit_place, jG_depthLimit_faultKind, jG_depthLimit_faultPlace, jG_depthLimit_tape, jG_depthLimit_target, jG_place_depthLimit, jG_place_place, jG_place_faultKind, jG_place_faultPlace, jG_place_tape, jG_place_target, jG_faultKind_depthLimit, jG_faultKind_place, jG_faultKind_faultKind, jG_faultKind_faultPlace, jG_faultKind_tape, jG_faultKind_target, jG_faultPlace_depthLimit, jG_faultPlace_place, jG_faultPlace_faultKind, jG_faultPlace_faultPlace, jG_faultPlace_tape, jG_faultPlace_target, jG_tape_depthLimit, jG_tape_place, jG_tape_faultKind, jG_tape_faultPlace, jG_tape_tape, jG_tape_target, jG_target_depthLimit, jG_target_place, jG_target_faultKind, jG_target_faultPlace, jG_target_tape, jG_target_target]; exact hT
  have fin : ∀ q, q ≤ t.length → b ≤ q → JOk σ out (if q = b ∧ dv t a (b - a) ≤ lim (decide (gL t p = 45)) then .inr (hd (numTh (decide (gL t p = 45)) (dv t a (b - a))).1 (numTh (decide (gL t p = 45)) (dv t a (b - a))).2, b) else .inl (3, p)) (k (true, js_place σ (nI q))) := by
    intro q hq hbq
    rw [hk]
    simp only []
    rw [if_pos trivial, jG_place_place]
    exact j_num_end hT hR ho hpa hab hbl hdg hz hq hbq
  have bad : ∀ q, JOk σ out (.inl (1, q)) (k (false, jF (js_place σ (nI q)) 1 (nI q))) := by
    intro q
    rw [hk]
    simp only []
    rw [if_neg (show ¬ false = true by decide)]
    exact JOk.fault hR (by omega) rfl
  rw [j_exp hT2 hcl (by simp only [jG_depthLimit_depthLimit, jG_depthLimit_place, jG_depthLimit_faultKind, jG_depthLimit_faultPlace, jG_depthLimit_tape, jG_depthLimit_target, jG_place_depthLimit, jG_place_place, jG_place_faultKind, jG_place_faultPlace, jG_place_tape, jG_place_target, jG_faultKind_depthLimit, jG_faultKind_place, jG_faultKind_faultKind, jG_faultKind_faultPlace, jG_faultKind_tape, jG_faultKind_target, jG_faultPlace_depthLimit, jG_faultPlace_place, jG_faultPlace_faultKind, jG_faultPlace_faultPlace, jG_faultPlace_tape, jG_faultPlace_target, jG_tape_depthLimit, jG_tape_place, jG_tape_faultKind, jG_tape_faultPlace, jG_tape_tape, jG_tape_target, jG_target_depthLimit, jG_target_place, jG_target_faultKind, jG_target_faultPlace, jG_target_tape, jG_target_target])]
  unfold sNumE
  by_cases c1 : gL t c = 101 ∨ gL t c = 69
  · have hcl2 : c < t.length := c1.elim (fun z => gL_lit (v := 101) (by decide) rfl z) (fun z => gL_lit (v := 69) (by decide) rfl z)
    rw [if_pos c1, if_pos c1]
    by_cases c2 : gL t (c + 1) = 43 ∨ gL t (c + 1) = 45
    · have hcl3 : c + 1 < t.length := c2.elim (fun z => gL_lit (v := 43) (by decide) rfl z) (fun z => gL_lit (v := 45) (by decide) rfl z)
      rw [if_pos c2, if_pos c2]
      by_cases c3 : isDg (gL t (c + 2)) = true
      · rw [if_pos c3, if_pos c3, bd_of rfl, js_pp]
        have hs := sD_pos.mpr c3
        have hs2 := sD_le (t := t) (p := c + 2) (by omega)
        have := fin (sD t (c + 2)) hs2.2 (by omega)
        rw [if_neg (fun z => by omega)] at this
        exact this
      · rw [if_neg c3, if_neg c3, bd_of rfl, js_pp]
        exact bad _
    · rw [if_neg c2, if_neg c2]
      by_cases c3 : isDg (gL t (c + 1)) = true
      · rw [if_pos c3, if_pos c3, bd_of rfl, js_pp]
        have hs := sD_pos.mpr c3
        have hs2 := sD_le (t := t) (p := c + 1) (by omega)
        have := fin (sD t (c + 1)) hs2.2 (by omega)
        rw [if_neg (fun z => by omega)] at this
        exact this
      · rw [if_neg c3, if_neg c3, bd_of rfl, js_pp]
        exact bad _
  · rw [if_neg c1, if_neg c1, bd_of rfl]
    have := fin c hcl hbc
    by_cases c2 : c = b ∧ dv t a (b - a) ≤ lim (decide (gL t p = 45))
    · rw [if_pos c2] at this ⊢
      exact this
    · rw [if_neg c2] at this ⊢
      exact this
theorem z_j_fin {a b c : Nat} (hT : TpR (jf_tape σ) t) (hR : RowL 0 (jf_target σ) out) (ho : out.length ≤ 60000) (hpa : a = if gL t p = 45 then p + 1 else p) (hab : a < b) (hbl : b ≤ t.length) (hdg : ∀ i, a ≤ i → i < b → isDg (gL t i) = true) (hz : t.getD a 0 = 48 → b = a + 1) (hbc : b ≤ c) (hcl : c ≤ t.length) {k : Bool × JSt → Option (Bool × JSt)} (hk : k = fun x12 => (if x12.1 = true then (if (jf_place x12.2) = nI b then jj_readNumber_b108 0 (nI p) (nI a) (nI b) (1 : Int32) x12.2 else jj_readNumber_b108 0 (nI p) (nI a) (nI b) (0 : Int32) x12.2) else some (false, x12.2))) :
    z_JOk σ out (mapR (fun y => (hd y.1.1 y.1.2, y.2)) (sNumE t p a b c)) (bd (jj_readExponent 0 (js_place σ (nI c))) k) := by
  have hle := hT.2
  have hT2 : TpR (jf_tape (js_place σ (nI c))) t := by simp only [jG_depthLimit_depthLimit, jG_depthLimit_place, jG_depthLimit_faultKind, jG_depthLimit_faultPlace, jG_depthLimit_tape, jG_depthLimit_target, jG_place_depthLimit, jG_place_place, jG_place_faultKind, jG_place_faultPlace, jG_place_tape, jG_place_target, jG_faultKind_depthLimit, jG_faultKind_place, jG_faultKind_faultKind, jG_faultKind_faultPlace, jG_faultKind_tape, jG_faultKind_target, jG_faultPlace_depthLimit, jG_faultPlace_place, jG_faultPlace_faultKind, jG_faultPlace_faultPlace, jG_faultPlace_tape, jG_faultPlace_target, jG_tape_depthLimit, jG_tape_place, jG_tape_faultKind, jG_tape_faultPlace, jG_tape_tape, jG_tape_target, jG_target_depthLimit, jG_target_place, jG_target_faultKind, jG_target_faultPlace, jG_target_tape, jG_target_target]; exact hT
  have fin : ∀ q, q ≤ t.length → b ≤ q → z_JOk σ out (if q = b ∧ dv t a (b - a) ≤ lim (decide (gL t p = 45)) then .inr (hd (numTh (decide (gL t p = 45)) (dv t a (b - a))).1 (numTh (decide (gL t p = 45)) (dv t a (b - a))).2, b) else .inl (3, p)) (k (true, js_place σ (nI q))) := by
    intro q hq hbq
    rw [hk]
    simp only []
    rw [if_pos trivial, jG_place_place]
    exact z_j_num_end hT hR ho hpa hab hbl hdg hz hq hbq
  have bad : ∀ q, z_JOk σ out (.inl (1, q)) (k (false, jF (js_place σ (nI q)) 1 (nI q))) := by
    intro q
    rw [hk]
    simp only []
    rw [if_neg (show ¬ false = true by decide)]
    exact z_JOk.fault hR (by omega) rfl
  rw [z_j_exp hT2 hcl (by simp only [jG_depthLimit_depthLimit, jG_depthLimit_place, jG_depthLimit_faultKind, jG_depthLimit_faultPlace, jG_depthLimit_tape, jG_depthLimit_target, jG_place_depthLimit, jG_place_place, jG_place_faultKind, jG_place_faultPlace, jG_place_tape, jG_place_target, jG_faultKind_depthLimit, jG_faultKind_place, jG_faultKind_faultKind, jG_faultKind_faultPlace, jG_faultKind_tape, jG_faultKind_target, jG_faultPlace_depthLimit, jG_faultPlace_place, jG_faultPlace_faultKind, jG_faultPlace_faultPlace, jG_faultPlace_tape, jG_faultPlace_target, jG_tape_depthLimit, jG_tape_place, jG_tape_faultKind, jG_tape_faultPlace, jG_tape_tape, jG_tape_target, jG_target_depthLimit, jG_target_place, jG_target_faultKind, jG_target_faultPlace, jG_target_tape, jG_target_target])]
  unfold sNumE
  by_cases c1 : gL t c = 101 ∨ gL t c = 69
  · have hcl2 : c < t.length := c1.elim (fun z => gL_lit (v := 101) (by decide) rfl z) (fun z => gL_lit (v := 69) (by decide) rfl z)
    rw [if_pos c1, if_pos c1]
    by_cases c2 : gL t (c + 1) = 43 ∨ gL t (c + 1) = 45
    · have hcl3 : c + 1 < t.length := c2.elim (fun z => gL_lit (v := 43) (by decide) rfl z) (fun z => gL_lit (v := 45) (by decide) rfl z)
      rw [if_pos c2, if_pos c2]
      by_cases c3 : isDg (gL t (c + 2)) = true
      · rw [if_pos c3, if_pos c3, bd_of rfl, js_pp]
        have hs := sD_pos.mpr c3
        have hs2 := sD_le (t := t) (p := c + 2) (by omega)
        have := fin (sD t (c + 2)) hs2.2 (by omega)
        rw [if_neg (fun z => by omega)] at this
        exact this
      · rw [if_neg c3, if_neg c3, bd_of rfl, js_pp]
        exact bad _
    · rw [if_neg c2, if_neg c2]
      by_cases c3 : isDg (gL t (c + 1)) = true
      · rw [if_pos c3, if_pos c3, bd_of rfl, js_pp]
        have hs := sD_pos.mpr c3
        have hs2 := sD_le (t := t) (p := c + 1) (by omega)
        have := fin (sD t (c + 1)) hs2.2 (by omega)
        rw [if_neg (fun z => by omega)] at this
        exact this
      · rw [if_neg c3, if_neg c3, bd_of rfl, js_pp]
        exact bad _
  · rw [if_neg c1, if_neg c1, bd_of rfl]
    have := fin c hcl hbc
    by_cases c2 : c = b ∧ dv t a (b - a) ≤ lim (decide (gL t p = 45))
    · rw [if_pos c2] at this ⊢
      exact this
    · rw [if_neg c2] at this ⊢
      exact this
theorem j_numF {a b : Nat} (hT : TpR (jf_tape σ) t) (hR : RowL 6000 (jf_target σ) out) (ho : out.length ≤ 60000) (hpa : a = if gL t p = 45 then p + 1 else p) (hab : a < b) (hbl : b ≤ t.length) (hdg : ∀ i, a ≤ i → i < b → isDg (gL t i) = true) (hz : t.getD a 0 = 48 → b = a + 1) :
    JOk σ out (mapR (fun y => (hd y.1.1 y.1.2, y.2)) (sNumF t p a b)) (jj_readNumber_b74 6000 (nI p) (nI a) (js_place σ (nI b))) := by
  have hle := hT.2
  unfold jj_readNumber_b74
  simp only [lt]
  rw [jG_place_place]
  unfold jj_readFraction
  rw [jG_place_place, show jf_tape (js_place σ (nI b)) = jf_tape σ from rfl, bd_of (a := rr_at 4000 (nI b) (jf_tape σ)) (hT.at (by omega))]
  simp only []
  rw [show js_tape (js_place σ (nI b)) (jf_tape σ) = js_place σ (nI b) from rfl]
  unfold sNumF
  by_cases c1 : gL t b = 46
  · have hb2 : b < t.length := gL_lit (v := 46) (by decide) rfl c1
    rw [if_pos c1, if_pos c1, js_pp, nI_1, j_digits (t := t) (p := b + 1) (by simp only [jG_depthLimit_depthLimit, jG_depthLimit_place, jG_depthLimit_faultKind, jG_depthLimit_faultPlace, jG_depthLimit_tape, jG_depthLimit_target, jG_place_depthLimit, jG_place_place, jG_place_faultKind, jG_place_faultPlace, jG_place_tape, jG_place_target, jG_faultKind_depthLimit, jG_faultKind_place, jG_faultKind_faultKind, jG_faultKind_faultPlace, jG_faultKind_tape, jG_faultKind_target, jG_faultPlace_depthLimit, jG_faultPlace_place, jG_faultPlace_faultKind, jG_faultPlace_faultPlace, jG_faultPlace_tape, jG_faultPlace_target, jG_tape_depthLimit, jG_tape_place, jG_tape_faultKind, jG_tape_faultPlace, jG_tape_tape, jG_tape_target, jG_target_depthLimit, jG_target_place, jG_target_faultKind, jG_target_faultPlace, jG_target_tape, jG_target_target]; exact hT) (by omega) (by simp only [jG_depthLimit_depthLimit, jG_depthLimit_place, jG_depthLimit_faultKind, jG_depthLimit_faultPlace, jG_depthLimit_tape, jG_depthLimit_target, jG_place_depthLimit, jG_place_place, jG_place_faultKind, jG_place_faultPlace, jG_place_tape, jG_place_target, jG_faultKind_depthLimit, jG_faultKind_place, jG_faultKind_faultKind, jG_faultKind_faultPlace, jG_faultKind_tape, jG_faultKind_target, jG_faultPlace_depthLimit, jG_faultPlace_place, jG_faultPlace_faultKind, jG_faultPlace_faultPlace, jG_faultPlace_tape, jG_faultPlace_target, jG_tape_depthLimit, jG_tape_place, jG_tape_faultKind, jG_tape_faultPlace, jG_tape_tape, jG_tape_target, jG_target_depthLimit, jG_target_place, jG_target_faultKind, jG_target_faultPlace, jG_target_tape, jG_target_target])]
    by_cases c2 : isDg (gL t (b + 1)) = true
    · have hs := sD_pos.mpr c2
      have hs2 := sD_le (t := t) (p := b + 1) (by omega)
      rw [if_pos c2, if_pos c2, js_pp, bd_of (a := some (true, js_place σ (nI (sD t (b + 1))))) rfl]
      rw [bd_of (a := some (true, js_place σ (nI (sD t (b + 1))))) rfl]
      simp only []
      rw [if_pos trivial]
      exact j_fin hT hR ho hpa hab hbl hdg hz (by omega) hs2.2 rfl
    · rw [if_neg c2, if_neg c2, bd_of (a := some (false, jF (js_place σ (nI (b + 1))) 1 (nI (b + 1)))) rfl]
      rw [bd_of (a := some (false, jF (js_place σ (nI (b + 1))) 1 (nI (b + 1)))) rfl]
      simp only []
      rw [if_neg (show ¬ false = true by decide)]
      exact JOk.fault hR (by omega) rfl
  · rw [if_neg c1, if_neg c1, bd_of (a := some (true, js_place σ (nI b))) rfl]
    simp only []
    rw [if_pos trivial]
    exact j_fin hT hR ho hpa hab hbl hdg hz (Nat.le_refl _) hbl rfl
theorem z_j_numF {a b : Nat} (hT : TpR (jf_tape σ) t) (hR : RowL 0 (jf_target σ) out) (ho : out.length ≤ 60000) (hpa : a = if gL t p = 45 then p + 1 else p) (hab : a < b) (hbl : b ≤ t.length) (hdg : ∀ i, a ≤ i → i < b → isDg (gL t i) = true) (hz : t.getD a 0 = 48 → b = a + 1) :
    z_JOk σ out (mapR (fun y => (hd y.1.1 y.1.2, y.2)) (sNumF t p a b)) (jj_readNumber_b74 0 (nI p) (nI a) (js_place σ (nI b))) := by
  have hle := hT.2
  unfold jj_readNumber_b74
  simp only [lt]
  rw [jG_place_place]
  unfold jj_readFraction
  rw [jG_place_place, show jf_tape (js_place σ (nI b)) = jf_tape σ from rfl, bd_of (a := rr_at 4000 (nI b) (jf_tape σ)) (hT.at (by omega))]
  simp only []
  rw [show js_tape (js_place σ (nI b)) (jf_tape σ) = js_place σ (nI b) from rfl]
  unfold sNumF
  by_cases c1 : gL t b = 46
  · have hb2 : b < t.length := gL_lit (v := 46) (by decide) rfl c1
    rw [if_pos c1, if_pos c1, js_pp, nI_1, z_j_digits (t := t) (p := b + 1) (by simp only [jG_depthLimit_depthLimit, jG_depthLimit_place, jG_depthLimit_faultKind, jG_depthLimit_faultPlace, jG_depthLimit_tape, jG_depthLimit_target, jG_place_depthLimit, jG_place_place, jG_place_faultKind, jG_place_faultPlace, jG_place_tape, jG_place_target, jG_faultKind_depthLimit, jG_faultKind_place, jG_faultKind_faultKind, jG_faultKind_faultPlace, jG_faultKind_tape, jG_faultKind_target, jG_faultPlace_depthLimit, jG_faultPlace_place, jG_faultPlace_faultKind, jG_faultPlace_faultPlace, jG_faultPlace_tape, jG_faultPlace_target, jG_tape_depthLimit, jG_tape_place, jG_tape_faultKind, jG_tape_faultPlace, jG_tape_tape, jG_tape_target, jG_target_depthLimit, jG_target_place, jG_target_faultKind, jG_target_faultPlace, jG_target_tape, jG_target_target]; exact hT) (by omega) (by simp only [jG_depthLimit_depthLimit, jG_depthLimit_place, jG_depthLimit_faultKind, jG_depthLimit_faultPlace, jG_depthLimit_tape, jG_depthLimit_target, jG_place_depthLimit, jG_place_place, jG_place_faultKind, jG_place_faultPlace, jG_place_tape, jG_place_target, jG_faultKind_depthLimit, jG_faultKind_place, jG_faultKind_faultKind, jG_faultKind_faultPlace, jG_faultKind_tape, jG_faultKind_target, jG_faultPlace_depthLimit, jG_faultPlace_place, jG_faultPlace_faultKind, jG_faultPlace_faultPlace, jG_faultPlace_tape, jG_faultPlace_target, jG_tape_depthLimit, jG_tape_place, jG_tape_faultKind, jG_tape_faultPlace, jG_tape_tape, jG_tape_target, jG_target_depthLimit, jG_target_place, jG_target_faultKind, jG_target_faultPlace, jG_target_tape, jG_target_target])]
    by_cases c2 : isDg (gL t (b + 1)) = true
    · have hs := sD_pos.mpr c2
      have hs2 := sD_le (t := t) (p := b + 1) (by omega)
      rw [if_pos c2, if_pos c2, js_pp, bd_of (a := some (true, js_place σ (nI (sD t (b + 1))))) rfl]
      rw [bd_of (a := some (true, js_place σ (nI (sD t (b + 1))))) rfl]
      simp only []
      rw [if_pos trivial]
      exact z_j_fin hT hR ho hpa hab hbl hdg hz (by omega) hs2.2 rfl
    · rw [if_neg c2, if_neg c2, bd_of (a := some (false, jF (js_place σ (nI (b + 1))) 1 (nI (b + 1)))) rfl]
      rw [bd_of (a := some (false, jF (js_place σ (nI (b + 1))) 1 (nI (b + 1)))) rfl]
      simp only []
      rw [if_neg (show ¬ false = true by decide)]
      exact z_JOk.fault hR (by omega) rfl
  · rw [if_neg c1, if_neg c1, bd_of (a := some (true, js_place σ (nI b))) rfl]
    simp only []
    rw [if_pos trivial]
    exact z_j_fin hT hR ho hpa hab hbl hdg hz (Nat.le_refl _) hbl rfl
theorem j_number (hT : TpR (jf_tape σ) t) (hR : RowL 6000 (jf_target σ) out) (ho : out.length ≤ 60000) (hp : p ≤ t.length) (hpl : jf_place σ = nI p) :
    JOk σ out (mapR (fun y => (hd y.1.1 y.1.2, y.2)) (sNum t p)) (jj_readNumber 6000 σ) := by
  have hle := hT.2
  have ht := hT.1.2.2
  have b31 : ∀ a, a ≤ t.length → a = (if gL t p = 45 then p + 1 else p) → JOk σ out (mapR (fun y => (hd y.1.1 y.1.2, y.2)) (sNumA t p a)) (jj_readNumber_b31 6000 (nI p) (js_place σ (nI a))) := by
    intro a ha hpa
    unfold jj_readNumber_b31
    simp only [lt]
    rw [jG_place_place, show jf_tape (js_place σ (nI a)) = jf_tape σ from rfl, bd_of (hT.at (by omega))]
    simp only []
    rw [show js_tape (js_place σ (nI a)) (jf_tape σ) = js_place σ (nI a) from rfl]
    unfold sNumA
    by_cases c1 : gL t a = 48
    · have ha2 : a < t.length := gL_lit (v := 48) (by decide) rfl c1
      rw [if_pos c1, if_pos c1, js_pp, nI_1]
      exact j_numF hT hR ho hpa (by omega) (by omega) (fun i g1 g2 => by rw [show i = a by omega, c1]; decide) (fun _ => rfl)
    · rw [if_neg c1, if_neg c1, j_digits (t := t) (p := a) (by simp only [jG_depthLimit_depthLimit, jG_depthLimit_place, jG_depthLimit_faultKind, jG_depthLimit_faultPlace, jG_depthLimit_tape, jG_depthLimit_target, jG_place_depthLimit, jG_place_place, jG_place_faultKind, jG_place_faultPlace, jG_place_tape, jG_place_target, jG_faultKind_depthLimit, jG_faultKind_place, jG_faultKind_faultKind, jG_faultKind_faultPlace, jG_faultKind_tape, jG_faultKind_target, jG_faultPlace_depthLimit, jG_faultPlace_place, jG_faultPlace_faultKind, jG_faultPlace_faultPlace, jG_faultPlace_tape, jG_faultPlace_target, jG_tape_depthLimit, jG_tape_place, jG_tape_faultKind, jG_tape_faultPlace, jG_tape_tape, jG_tape_target, jG_target_depthLimit, jG_target_place, jG_target_faultKind, jG_target_faultPlace, jG_target_tape, jG_target_target]; exact hT) ha (by simp only [jG_depthLimit_depthLimit, jG_depthLimit_place, jG_depthLimit_faultKind, jG_depthLimit_faultPlace, jG_depthLimit_tape, jG_depthLimit_target, jG_place_depthLimit, jG_place_place, jG_place_faultKind, jG_place_faultPlace, jG_place_tape, jG_place_target, jG_faultKind_depthLimit, jG_faultKind_place, jG_faultKind_faultKind, jG_faultKind_faultPlace, jG_faultKind_tape, jG_faultKind_target, jG_faultPlace_depthLimit, jG_faultPlace_place, jG_faultPlace_faultKind, jG_faultPlace_faultPlace, jG_faultPlace_tape, jG_faultPlace_target, jG_tape_depthLimit, jG_tape_place, jG_tape_faultKind, jG_tape_faultPlace, jG_tape_tape, jG_tape_target, jG_target_depthLimit, jG_target_place, jG_target_faultKind, jG_target_faultPlace, jG_target_tape, jG_target_target])]
      by_cases c2 : isDg (gL t a) = true
      · have hs := sD_pos.mpr c2
        have hs2 := sD_le (t := t) (p := a) ha
        rw [if_pos c2, if_pos c2, js_pp, bd_of rfl]
        simp only []
        rw [if_pos trivial]
        have hda := isDg_at ht c2
        exact j_numF hT hR ho hpa hs hs2.2 (fun i g1 g2 => sD_dg _ _ i g1 g2) (fun z => absurd (show gL t a = 48 by rw [gL_in hda.1, z]; rfl) c1)
      · rw [if_neg c2, if_neg c2, bd_of rfl]
        simp only []
        rw [if_neg (show ¬ false = true by decide)]
        exact JOk.fault hR (by omega) rfl
  unfold jj_readNumber sNum
  simp only [lt]
  rw [hpl, bd_of (hT.at (by omega))]
  simp only []
  rw [js_tape_id]
  by_cases c : gL t p = 45
  · have hp2 : p < t.length := gL_lit (v := 45) (by decide) rfl c
    rw [if_pos c, if_pos c, nI_1]
    exact b31 (p + 1) (by omega) (by rw [if_pos c])
  · rw [if_neg c, if_neg c, show σ = js_place σ (nI p) by rw [← hpl, js_place_id]]
    exact b31 p hp (by rw [if_neg c])
theorem z_j_number (hT : TpR (jf_tape σ) t) (hR : RowL 0 (jf_target σ) out) (ho : out.length ≤ 60000) (hp : p ≤ t.length) (hpl : jf_place σ = nI p) :
    z_JOk σ out (mapR (fun y => (hd y.1.1 y.1.2, y.2)) (sNum t p)) (jj_readNumber 0 σ) := by
  have hle := hT.2
  have ht := hT.1.2.2
  have b31 : ∀ a, a ≤ t.length → a = (if gL t p = 45 then p + 1 else p) → z_JOk σ out (mapR (fun y => (hd y.1.1 y.1.2, y.2)) (sNumA t p a)) (jj_readNumber_b31 0 (nI p) (js_place σ (nI a))) := by
    intro a ha hpa
    unfold jj_readNumber_b31
    simp only [lt]
    rw [jG_place_place, show jf_tape (js_place σ (nI a)) = jf_tape σ from rfl, bd_of (hT.at (by omega))]
    simp only []
    rw [show js_tape (js_place σ (nI a)) (jf_tape σ) = js_place σ (nI a) from rfl]
    unfold sNumA
    by_cases c1 : gL t a = 48
    · have ha2 : a < t.length := gL_lit (v := 48) (by decide) rfl c1
      rw [if_pos c1, if_pos c1, js_pp, nI_1]
      exact z_j_numF hT hR ho hpa (by omega) (by omega) (fun i g1 g2 => by rw [show i = a by omega, c1]; decide) (fun _ => rfl)
    · rw [if_neg c1, if_neg c1, z_j_digits (t := t) (p := a) (by simp only [jG_depthLimit_depthLimit, jG_depthLimit_place, jG_depthLimit_faultKind, jG_depthLimit_faultPlace, jG_depthLimit_tape, jG_depthLimit_target, jG_place_depthLimit, jG_place_place, jG_place_faultKind, jG_place_faultPlace, jG_place_tape, jG_place_target, jG_faultKind_depthLimit, jG_faultKind_place, jG_faultKind_faultKind, jG_faultKind_faultPlace, jG_faultKind_tape, jG_faultKind_target, jG_faultPlace_depthLimit, jG_faultPlace_place, jG_faultPlace_faultKind, jG_faultPlace_faultPlace, jG_faultPlace_tape, jG_faultPlace_target, jG_tape_depthLimit, jG_tape_place, jG_tape_faultKind, jG_tape_faultPlace, jG_tape_tape, jG_tape_target, jG_target_depthLimit, jG_target_place, jG_target_faultKind, jG_target_faultPlace, jG_target_tape, jG_target_target]; exact hT) ha (by simp only [jG_depthLimit_depthLimit, jG_depthLimit_place, jG_depthLimit_faultKind, jG_depthLimit_faultPlace, jG_depthLimit_tape, jG_depthLimit_target, jG_place_depthLimit, jG_place_place, jG_place_faultKind, jG_place_faultPlace, jG_place_tape, jG_place_target, jG_faultKind_depthLimit, jG_faultKind_place, jG_faultKind_faultKind, jG_faultKind_faultPlace, jG_faultKind_tape, jG_faultKind_target, jG_faultPlace_depthLimit, jG_faultPlace_place, jG_faultPlace_faultKind, jG_faultPlace_faultPlace, jG_faultPlace_tape, jG_faultPlace_target, jG_tape_depthLimit, jG_tape_place, jG_tape_faultKind, jG_tape_faultPlace, jG_tape_tape, jG_tape_target, jG_target_depthLimit, jG_target_place, jG_target_faultKind, jG_target_faultPlace, jG_target_tape, jG_target_target])]
      by_cases c2 : isDg (gL t a) = true
      · have hs := sD_pos.mpr c2
        have hs2 := sD_le (t := t) (p := a) ha
        rw [if_pos c2, if_pos c2, js_pp, bd_of rfl]
        simp only []
        rw [if_pos trivial]
        have hda := isDg_at ht c2
        exact z_j_numF hT hR ho hpa hs hs2.2 (fun i g1 g2 => sD_dg _ _ i g1 g2) (fun z => absurd (show gL t a = 48 by rw [gL_in hda.1, z]; rfl) c1)
      · rw [if_neg c2, if_neg c2, bd_of rfl]
        simp only []
        rw [if_neg (show ¬ false = true by decide)]
        exact z_JOk.fault hR (by omega) rfl
  unfold jj_readNumber sNum
  simp only [lt]
  rw [hpl, bd_of (hT.at (by omega))]
  simp only []
  rw [js_tape_id]
  by_cases c : gL t p = 45
  · have hp2 : p < t.length := gL_lit (v := 45) (by decide) rfl c
    rw [if_pos c, if_pos c, nI_1]
    exact b31 (p + 1) (by omega) (by rw [if_pos c])
  · rw [if_neg c, if_neg c, show σ = js_place σ (nI p) by rw [← hpl, js_place_id]]
    exact b31 p hp (by rw [if_neg c])
end NUMJ
