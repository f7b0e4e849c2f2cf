/-! PURE BB: what CBOR tells, and its JSON text -/
def dig (k n : Nat) : List Nat := (List.range k).map (fun i => 48 + n / 10 ^ (k - 1 - i) % 10)
def ndF : Nat → Nat → Nat
  | 0, _ => 1
  | f + 1, n => if n < 10 then 1 else ndF f (n / 10) + 1
def ndg (n : Nat) : Nat := ndF 20 n
def dec (n : Nat) : List Nat := dig (ndg n) n
theorem dig_len (k n : Nat) : (dig k n).length = k := by simp [dig]
theorem ndF_spec : ∀ f n, n < 10 ^ (f + 1) → 1 ≤ ndF f n ∧ n < 10 ^ ndF f n ∧ (ndF f n = 1 ∨ 10 ^ (ndF f n - 1) ≤ n) := by
  intro f
  induction f with
  | zero => intro n h; exact ⟨Nat.le_refl _, h, Or.inl rfl⟩
  | succ f ih =>
    intro n h
    unfold ndF
    split
    · rename_i c
      exact ⟨Nat.le_refl _, by omega, Or.inl rfl⟩
    · rename_i c
      have h2 : n / 10 < 10 ^ (f + 1) := by
        rw [Nat.pow_succ] at h
        omega
      obtain ⟨g1, g2, g3⟩ := ih (n / 10) h2
      refine ⟨by omega, ?_, Or.inr ?_⟩
      · rw [Nat.pow_succ]
        omega
      · rw [Nat.add_sub_cancel]
        rcases g3 with e | g3
        · rw [e]
          omega
        · obtain ⟨j, hj⟩ : ∃ j, ndF f (n / 10) = j + 1 := ⟨ndF f (n / 10) - 1, by omega⟩
          rw [hj] at g3 ⊢
          rw [Nat.add_sub_cancel] at g3
          rw [Nat.pow_succ]
          omega
theorem ndF_le : ∀ f n k, n < 10 ^ k → 1 ≤ k → ndF f n ≤ k := by
  intro f
  induction f with
  | zero => intro n k _ h; exact h
  | succ f ih =>
    intro n k h hk
    unfold ndF
    split
    · exact hk
    · rename_i c
      obtain ⟨j, rfl⟩ : ∃ j, k = j + 1 := ⟨k - 1, by omega⟩
      rw [Nat.pow_succ] at h
      rcases Nat.eq_zero_or_pos j with e | e
      · subst e
        rw [Nat.pow_zero] at h
        omega
      · have := ih (n / 10) j (by omega) e
        omega
theorem ndg_spec {n : Nat} (h : n ≤ 2 ^ 64) : 1 ≤ ndg n ∧ n < 10 ^ ndg n ∧ (ndg n = 1 ∨ 10 ^ (ndg n - 1) ≤ n) ∧ ndg n ≤ 20 := by
  obtain ⟨h1, h2, h3⟩ := ndF_spec 20 n (Nat.lt_of_le_of_lt h (by decide))
  exact ⟨h1, h2, h3, ndF_le 20 n 20 (Nat.lt_of_le_of_lt h (by decide)) (by decide)⟩
theorem dec_len {n k : Nat} (h : n < 10 ^ k) (hk : 1 ≤ k) : (dec n).length ≤ k := by
  unfold dec
  rw [dig_len]
  exact ndF_le 20 n k h hk
def hxd (n : Nat) : Nat := if n < 10 then 48 + n else 87 + n
/-- a letter of a string in JSON -/
def eJ (c : Nat) : List Nat := if c = 34 ∨ c = 92 then [92, c] else if c = 8 then [92, 98] else if c = 9 then [92, 116] else if c = 10 then [92, 110] else if c = 12 then [92, 102] else if c = 13 then [92, 114] else if c < 32 then [92, 117, 48, 48, hxd (c / 16), hxd (c % 16)] else [c]
def esc : List Nat → List Nat
  | [] => []
  | c :: l => eJ c ++ esc l
theorem esc_app (a b : List Nat) : esc (a ++ b) = esc a ++ esc b := by
  induction a with
  | nil => rfl
  | cons x a ih => show eJ x ++ esc (a ++ b) = eJ x ++ esc a ++ esc b; rw [ih, List.append_assoc]
theorem eJ_len (c : Nat) : (eJ c).length ≤ 6 := by
  unfold eJ
  repeat' split
  all_goals simp
theorem esc_len (l : List Nat) : (esc l).length ≤ 6 * l.length := by
  induction l with
  | nil => exact Nat.zero_le _
  | cons x l ih =>
    show (eJ x ++ esc l).length ≤ 6 * (l.length + 1)
    have := eJ_len x
    rw [List.length_append]
    omega
def wdC (v : Nat) : List Nat := if v = 20 then [102, 97, 108, 115, 101] else if v = 21 then [116, 114, 117, 101] else [110, 117, 108, 108]
/-- a thing that is no array and no map, in JSON -/
def jTk (x : Tok) : List Nat := if x.1 = 0 then dec x.2.1 else if x.1 = 1 then 45 :: dec (x.2.1 + 1) else if x.1 = 3 then 34 :: (esc x.2.2 ++ [34]) else wdC x.2.1
/-- what stands against a head's first byte -/
def hFt (ty a : Nat) (key : Bool) : Nat := if 27 < a ∧ (a < 31 ∨ ty < 2 ∨ ty = 7) then 1 else if ty = 2 ∨ ty = 6 ∨ (ty = 7 ∧ (a < 20 ∨ 22 < a)) ∨ (key = true ∧ ty ≠ 3) then 2 else if a = 31 then 6 else 0
def hNb (a : Nat) : Nat := if a < 24 then 0 else if a = 24 then 1 else if a = 25 then 2 else if a = 26 then 4 else 8
def bv (t : List Nat) (p : Nat) : Nat → Nat
  | 0 => 0
  | k + 1 => bv t p k * 256 + t.getD (p + k) 0
theorem bv_lt {t : List Nat} (ht : ∀ x ∈ t, x < 256) (p : Nat) : ∀ k, bv t p k < 256 ^ k := by
  intro k
  induction k with
  | zero => show 0 < 1; decide
  | succ k ih =>
    have := getD_lt ht (p + k)
    unfold bv
    rw [Nat.pow_succ]
    omega
def sHd (t : List Nat) (key : Bool) (p : Nat) : Rd ((Nat × Nat) × Nat) :=
  if t.length ≤ p then .inl (1, t.length) else if hFt (t.getD p 0 / 32) (t.getD p 0 % 32) key ≠ 0 then .inl (hFt (t.getD p 0 / 32) (t.getD p 0 % 32) key, p) else
  if t.length - p ≤ hNb (t.getD p 0 % 32) then .inl (1, t.length) else if t.getD p 0 % 32 < 24 then .inr ((t.getD p 0 / 32, t.getD p 0 % 32), p + 1) else
  if nb (bv t (p + 1) (hNb (t.getD p 0 % 32))) = hNb (t.getD p 0 % 32) then .inr ((t.getD p 0 / 32, bv t (p + 1) (hNb (t.getD p 0 % 32))), p + 1 + hNb (t.getD p 0 % 32)) else .inl (6, p)
/-- the place of the first sign that is none, ahead of e -/
def sTxF (t : List Nat) (e : Nat) : Nat → Nat → Option Nat
  | 0, _ => none
  | m + 1, p => if e ≤ p then none else if sgn t p e = 0 then some p else sTxF t e m (p + sgn t p e)
def sTx (t : List Nat) (v q : Nat) : Rd (List Nat) := if t.length - q < v then .inl (1, t.length) else match sTxF t (q + v) (v + 1) q with
  | some p => .inl (3, p)
  | none => .inr (sl t q v)
def sTk (t : List Nat) (key : Bool) (d p : Nat) : Rd (Tok × Nat) := match sHd t key p with
  | .inl k => .inl k
  | .inr y => if (y.1.1 = 4 ∨ y.1.1 = 5) ∧ d = 0 then .inl (4, p) else if y.1.1 = 3 then (match sTx t y.1.2 y.2 with
    | .inl k => .inl k
    | .inr ls => .inr ((3, y.1.2, ls), y.2 + y.1.2)) else .inr ((y.1.1, y.1.2, []), y.2)
def sKy (t : List Nat) (isMap : Bool) (d p : Nat) : Rd ((List Tok × List Nat) × Nat) := if isMap = true then (match sTk t true d p with
  | .inl k => .inl k
  | .inr y => .inr (([y.1], jTk y.1 ++ [58]), y.2)) else .inr (([], []), p)
def sIts (t : List Nat) (item : Nat → Rd ((List Tok × List Nat) × Nat)) (d : Nat) (isMap : Bool) : Nat → Bool → Nat → Rd ((List Tok × List Nat) × Nat)
  | 0, _, p => .inr (([], []), p)
  | n + 1, fst, p => match sKy t isMap d p with
    | .inl k => .inl k
    | .inr kp => match item kp.2 with
      | .inl k => .inl k
      | .inr vp => match sIts t item d isMap n false vp.2 with
        | .inl k => .inl k
        | .inr y => .inr ((kp.1.1 ++ vp.1.1 ++ y.1.1, (if fst = true then [] else [44]) ++ kp.1.2 ++ vp.1.2 ++ y.1.2), y.2)
def opC (isMap : Bool) : Nat := if isMap = true then 123 else 91
def clC (isMap : Bool) : Nat := if isMap = true then 125 else 93
def sBx (t : List Nat) (item : Nat → Rd ((List Tok × List Nat) × Nat)) (d : Nat) (isMap : Bool) (v q : Nat) : Rd ((List Tok × List Nat) × Nat) := match sIts t item d isMap v true q with
  | .inl k => .inl k
  | .inr y => .inr (((srt isMap, v, []) :: y.1.1, opC isMap :: (y.1.2 ++ [clC isMap])), y.2)
def sIt (t : List Nat) : Nat → Nat → Rd ((List Tok × List Nat) × Nat)
  | 0, p => match sTk t false 0 p with
    | .inl k => .inl k
    | .inr y => .inr (([y.1], jTk y.1), y.2)
  | d + 1, p => match sTk t false (d + 1) p with
    | .inl k => .inl k
    | .inr y => if y.1.1 = 4 then sBx t (sIt t d) d false y.1.2.1 y.2 else if y.1.1 = 5 then sBx t (sIt t d) d true y.1.2.1 y.2 else .inr (([y.1], jTk y.1), y.2)
/-! bounds -/
theorem nb_ge (u : Nat) : (nb u = 0 → u < 24) ∧ (nb u ≤ 1 → u < 256) ∧ (nb u ≤ 2 → u < 65536) := by
  unfold nb
  split
  · omega
  split
  · omega
  split
  · omega
  split
  · omega
  · omega
theorem hNb_le (a : Nat) : hNb a ≤ 8 := by
  unfold hNb
  repeat' split
  all_goals omega
theorem sHd_bd {t : List Nat} (ht : ∀ x ∈ t, x < 256) {key : Bool} {p : Nat} {ty v q : Nat} (h : sHd t key p = .inr ((ty, v), q)) : p < t.length ∧ q = p + 1 + nb v ∧ q ≤ t.length ∧ ty < 8 ∧ v < 2 ^ 64 ∧ (ty = 7 → v = 20 ∨ v = 21 ∨ v = 22) ∧ ty ≠ 2 ∧ ty ≠ 6 ∧ (key = true → ty = 3) := by
  have hb := getD_lt ht p
  unfold sHd at h
  split at h
  · cases h
  rename_i c0
  split at h
  · cases h
  rename_i c1
  have c1' : hFt (t.getD p 0 / 32) (t.getD p 0 % 32) key = 0 := Decidable.byContradiction c1
  have k1 : ¬ (t.getD p 0 / 32 = 2 ∨ t.getD p 0 / 32 = 6 ∨ (t.getD p 0 / 32 = 7 ∧ (t.getD p 0 % 32 < 20 ∨ 22 < t.getD p 0 % 32)) ∨ (key = true ∧ t.getD p 0 / 32 ≠ 3)) := by
    intro z
    unfold hFt at c1'
    split at c1'
    · exact absurd c1' (by decide)
    · exact absurd c1' (by decide)
  have kk : key = true → t.getD p 0 / 32 = 3 := fun z => Decidable.byContradiction (fun y => k1 (Or.inr (Or.inr (Or.inr ⟨z, y⟩))))
  split at h
  · cases h
  rename_i c2
  split at h
  · rename_i c3
    obtain ⟨e1, e2⟩ := Prod.mk.inj (Sum.inr.inj h)
    obtain ⟨e3, e4⟩ := Prod.mk.inj e1
    have hn : nb v = 0 := by unfold nb; rw [if_pos (by omega)]
    refine ⟨by omega, by omega, by omega, by omega, by omega, fun z => ?_, by omega, by omega, fun z => by rw [← e3]; exact kk z⟩
    omega
  rename_i c3
  split at h
  · rename_i c4
    obtain ⟨e1, e2⟩ := Prod.mk.inj (Sum.inr.inj h)
    obtain ⟨e3, e4⟩ := Prod.mk.inj e1
    have hv := bv_lt ht (p + 1) (hNb (t.getD p 0 % 32))
    rw [e4] at hv c4
    rw [← c4] at e2 c2
    have h8 := nb_le v
    have hv2 : v < 2 ^ 64 := by
      rw [← c4] at hv
      exact Nat.lt_of_lt_of_le hv (Nat.le_trans (Nat.pow_le_pow_right (by decide) h8) (by decide))
    exact ⟨by omega, by omega, by omega, by omega, hv2, fun z => by omega, by omega, by omega, fun z => by rw [← e3]; exact kk z⟩
  · cases h
