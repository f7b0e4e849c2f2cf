/-! PURE M: an escape by number, in the class -/
section CDJ
variable {t : List Nat} {σ : JSt}
theorem nI_m1 {n : Nat} (h : n < 2 ^ 31) : ¬ nI n = (-1 : Int32) := by
  intro z
  have e := congrArg Int32.toInt z
  rw [nI_toInt h] at e
  have e2 : (-1 : Int32).toInt = -1 := by decide
  omega
def v4 (r : Nat ⊕ Nat) : Int32 := match r with
  | .inl _ => -1
  | .inr v => nI v
theorem code_step (hT : TpR (jf_tape σ) t) {p k c : Nat} (hk : k < 4) (hp : p + 6 < 2 ^ 30) (g : Nat) : jj_codeOfEscape_L36 6000 (g + 1) (nI p) (nI c) (nI (p + 2 + k)) σ = if hx t (p + 2 + k) = 16 then some (-1, σ) else jj_codeOfEscape_L36 6000 g (nI p) (nI (c * 16 + hx t (p + 2 + k))) (nI (p + 2 + (k + 1))) σ := by
  show jj_codeOfEscape_b36 6000 _ _ _ _ σ = _
  unfold jj_codeOfEscape_b36
  rw [show nI p + (6 : Int32) = nI (p + 6) from nI_add p 6, if_neg (nI_ge (by omega) (by omega)), bd_of (hT.at (by omega))]
  simp only [lt]
  rw [js_tape_id]
  rcases hx_spec hT.1.2.2 (p + 2 + k) with ⟨h1, h2⟩ | ⟨h1, h2, h3⟩
  · rw [if_pos h1, if_pos h2]
  · rw [if_neg (show ¬ hx t (p + 2 + k) = 16 by omega), h2, if_neg (nI_m1 (by omega)), show nI c * (16 : Int32) = nI (c * 16) from pk_mul c 16, nI_add, nI_1]
    rfl
theorem z_code_step (hT : TpR (jf_tape σ) t) {p k c : Nat} (hk : k < 4) (hp : p + 6 < 2 ^ 30) (g : Nat) : jj_codeOfEscape_L36 0 (g + 1) (nI p) (nI c) (nI (p + 2 + k)) σ = if hx t (p + 2 + k) = 16 then some (-1, σ) else jj_codeOfEscape_L36 0 g (nI p) (nI (c * 16 + hx t (p + 2 + k))) (nI (p + 2 + (k + 1))) σ := by
  show jj_codeOfEscape_b36 0 _ _ _ _ σ = _
  unfold jj_codeOfEscape_b36
  rw [show nI p + (6 : Int32) = nI (p + 6) from nI_add p 6, if_neg (nI_ge (by omega) (by omega)), bd_of (hT.at (by omega))]
  simp only [lt]
  rw [js_tape_id]
  rcases hx_spec hT.1.2.2 (p + 2 + k) with ⟨h1, h2⟩ | ⟨h1, h2, h3⟩
  · rw [if_pos h1, if_pos h2]
  · rw [if_neg (show ¬ hx t (p + 2 + k) = 16 by omega), h2, if_neg (nI_m1 (by omega)), show nI c * (16 : Int32) = nI (c * 16) from pk_mul c 16, nI_add, nI_1]
    rfl
theorem codeOf_eq (hT : TpR (jf_tape σ) t) {p : Nat} (hp : p < 2 ^ 20) : jj_codeOfEscape 6000 (nI p) σ = some ((if gL t p = 92 ∧ gL t (p + 1) = 117 then v4 (hx4 t (p + 2)) else -1), σ) := by
  obtain ⟨f, hf⟩ : ∃ f, FU = f + 5 := ⟨99995, rfl⟩
  unfold jj_codeOfEscape
  rw [bd_of (hT.at (by omega))]
  simp only []
  rw [js_tape_id]
  by_cases c1 : gL t p = 92
  · rw [if_pos c1, nI_1, bd_of (hT.at (by omega))]
    simp only [lt]
    rw [js_tape_id]
    by_cases c2 : gL t (p + 1) = 117
    · rw [if_pos c2, if_pos ⟨c1, c2⟩, show nI p + (2 : Int32) = nI (p + 2 + 0) from nI_add p 2, hf, show (0 : Int32) = nI 0 from rfl, code_step hT (by decide) (by omega)]
      unfold hx4
      by_cases q0 : hx t (p + 2) = 16
      · rw [if_pos q0, if_pos q0]; rfl
      rw [if_neg q0, if_neg q0, code_step hT (by decide) (by omega)]
      by_cases q1 : hx t (p + 2 + 1) = 16
      · rw [if_pos q1, if_pos q1]; rfl
      rw [if_neg q1, if_neg q1, code_step hT (by decide) (by omega)]
      by_cases q2 : hx t (p + 2 + 2) = 16
      · rw [if_pos q2, if_pos q2]; rfl
      rw [if_neg q2, if_neg q2, code_step hT (by decide) (by omega)]
      by_cases q3 : hx t (p + 2 + 3) = 16
      · rw [if_pos q3, if_pos q3]; rfl
      rw [if_neg q3, if_neg q3]
      show jj_codeOfEscape_b36 6000 _ _ _ _ σ = _
      unfold jj_codeOfEscape_b36
      rw [show nI p + (6 : Int32) = nI (p + 6) from nI_add p 6, if_pos (nI_le (by omega) (by omega))]
      simp only [Nat.zero_mul, Nat.zero_add]
      rfl
    · rw [if_neg c2, if_neg (fun z => c2 z.2)]
  · rw [if_neg c1, if_neg (fun z => c1 z.1)]
theorem z_codeOf_eq (hT : TpR (jf_tape σ) t) {p : Nat} (hp : p < 2 ^ 20) : jj_codeOfEscape 0 (nI p) σ = some ((if gL t p = 92 ∧ gL t (p + 1) = 117 then v4 (hx4 t (p + 2)) else -1), σ) := by
  obtain ⟨f, hf⟩ : ∃ f, FU = f + 5 := ⟨99995, rfl⟩
  unfold jj_codeOfEscape
  rw [bd_of (hT.at (by omega))]
  simp only []
  rw [js_tape_id]
  by_cases c1 : gL t p = 92
  · rw [if_pos c1, nI_1, bd_of (hT.at (by omega))]
    simp only [lt]
    rw [js_tape_id]
    by_cases c2 : gL t (p + 1) = 117
    · rw [if_pos c2, if_pos ⟨c1, c2⟩, show nI p + (2 : Int32) = nI (p + 2 + 0) from nI_add p 2, hf, show (0 : Int32) = nI 0 from rfl, z_code_step hT (by decide) (by omega)]
      unfold hx4
      by_cases q0 : hx t (p + 2) = 16
      · rw [if_pos q0, if_pos q0]; rfl
      rw [if_neg q0, if_neg q0, z_code_step hT (by decide) (by omega)]
      by_cases q1 : hx t (p + 2 + 1) = 16
      · rw [if_pos q1, if_pos q1]; rfl
      rw [if_neg q1, if_neg q1, z_code_step hT (by decide) (by omega)]
      by_cases q2 : hx t (p + 2 + 2) = 16
      · rw [if_pos q2, if_pos q2]; rfl
      rw [if_neg q2, if_neg q2, z_code_step hT (by decide) (by omega)]
      by_cases q3 : hx t (p + 2 + 3) = 16
      · rw [if_pos q3, if_pos q3]; rfl
      rw [if_neg q3, if_neg q3]
      show jj_codeOfEscape_b36 0 _ _ _ _ σ = _
      unfold jj_codeOfEscape_b36
      rw [show nI p + (6 : Int32) = nI (p + 6) from nI_add p 6, if_pos (nI_le (by omega) (by omega))]
      simp only [Nat.zero_mul, Nat.zero_add]
      rfl
    · rw [if_neg c2, if_neg (fun z => c2 z.2)]
  · rw [if_neg c1, if_neg (fun z => c1 z.1)]
end CDJ
theorem or_put1 {v : Nat} (h : v < 2048) : lowb (((65280 : Int32) >>> ((1 + (1 : Int32)) &&& 31)) ||| (nI v >>> (((6 : Int32) * (1 : Int32)) &&& 31))) = 192 + v / 64 := by
  rw [show ((65280 : Int32) >>> ((1 + (1 : Int32)) &&& 31)) = nI (2 ^ 5 * 510) by decide, pk_shrN (by omega) _ 6 (by decide), fa_or_sum 510 (show v / 2 ^ 6 < 2 ^ 5 by omega), lowb_nI']
  omega
theorem or_put2 {v : Nat} (h : v < 65536) : lowb (((65280 : Int32) >>> ((2 + (1 : Int32)) &&& 31)) ||| (nI v >>> (((6 : Int32) * (2 : Int32)) &&& 31))) = 224 + v / 4096 := by
  rw [show ((65280 : Int32) >>> ((2 + (1 : Int32)) &&& 31)) = nI (2 ^ 4 * 510) by decide, pk_shrN (by omega) _ 12 (by decide), fa_or_sum 510 (show v / 2 ^ 12 < 2 ^ 4 by omega), lowb_nI']
  omega
theorem or_put3 {v : Nat} (h : v < 1114112) : lowb (((65280 : Int32) >>> ((3 + (1 : Int32)) &&& 31)) ||| (nI v >>> (((6 : Int32) * (3 : Int32)) &&& 31))) = 240 + v / 262144 := by
  rw [show ((65280 : Int32) >>> ((3 + (1 : Int32)) &&& 31)) = nI (2 ^ 3 * 510) by decide, pk_shrN (by omega) _ 18 (by decide), fa_or_sum 510 (show v / 2 ^ 18 < 2 ^ 3 by omega), lowb_nI']
  omega
theorem or_mid {v k : Nat} (h : v < 2 ^ 30) (hk : k ≤ 2) : lowb ((128 : Int32) ||| ((nI v >>> (((6 : Int32) * nI k) &&& 31)) &&& (63 : Int32))) = 128 + v / 2 ^ (6 * k) % 64 := by
  rw [show (6 : Int32) * nI k = nI (6 * k) from pk_mul 6 k, pk_andN (m := 31) (by omega) 5 (by decide), pk_shrN (by omega) (nI (6 * k % 2 ^ 5)) (6 * k) (by rw [smod32 _ (by omega)]; omega), pk_andN (m := 63) (by
    have : v / 2 ^ (6 * k) ≤ v := Nat.div_le_self _ _
    omega) 6 (by decide), show (128 : Int32) = nI (2 ^ 6 * 2) from rfl, fa_or_sum 2 (Nat.mod_lt _ (by decide)), lowb_nI']
  have : v / 2 ^ (6 * k) % 2 ^ 6 < 64 := Nat.mod_lt _ (by decide)
  omega
section PSJ
theorem put_mid {v : Nat} (hv : v < 2 ^ 30) : ∀ (k f : Nat) (σ : JSt) (out : List Nat), k ≤ 3 → k < f → RowL 6000 (jf_target σ) out → out.length + k < 80000 → ∃ tg, jj_putSign_L63 6000 f (nI v) (nI k - 1) σ = some (js_target σ tg) ∧ RowL 6000 tg (out ++ ((List.range k).map (fun i => 128 + v / 2 ^ (6 * (k - 1 - i)) % 64))) := by
  intro k
  induction k with
  | zero =>
    intro f σ out hk hf hR ho
    obtain ⟨f, rfl⟩ : ∃ g, f = g + 1 := ⟨f - 1, by omega⟩
    refine ⟨jf_target σ, ?_, by simpa using hR⟩
    show jj_putSign_b63 6000 _ _ _ σ = _
    unfold jj_putSign_b63
    rw [if_pos (by decide)]
    rfl
  | succ k ih =>
    intro f σ out hk hf hR ho
    obtain ⟨f, rfl⟩ : ∃ g, f = g + 1 := ⟨f - 1, by omega⟩
    show ∃ tg, jj_putSign_b63 6000 (jj_putSign_L63 6000 f) (nI v) (nI (k + 1) - 1) σ = _ ∧ _
    unfold jj_putSign_b63
    rw [nI_pred, if_neg (nI_pos (by omega))]
    obtain ⟨r1, e1, g1⟩ := rr_put_row hR (by decide) (by omega) ((128 : Int32) ||| ((nI v >>> (((6 : Int32) * nI k) &&& 31)) &&& (63 : Int32)))
    rw [bd_of e1]
    simp only [lt]
    rw [or_mid hv (by omega)] at g1
    obtain ⟨tg, e2, g2⟩ := ih f (js_target σ r1) _ (by omega) (by omega) (by simp only [jG_depthLimit_depthLimit, jG_depthLimit_place, jG_depthLimit_faultKind, jG_depthLimit_faultPlace, jG_depthLimit_tape, jG_depthLimit_target, jG_place_depthLimit, jG_place_place, jG_place_faultKind, jG_place_faultPlace, jG_place_tape, jG_place_target, jG_faultKind_depthLimit, jG_faultKind_place, jG_faultKind_faultKind, jG_faultKind_faultPlace, jG_faultKind_tape, jG_faultKind_target, jG_faultPlace_depthLimit, jG_faultPlace_place, jG_faultPlace_faultKind, jG_faultPlace_faultPlace, jG_faultPlace_tape, jG_faultPlace_target, jG_tape_depthLimit, jG_tape_place, jG_tape_faultKind, jG_tape_faultPlace, jG_tape_tape, jG_tape_target, jG_target_depthLimit, jG_target_place, jG_target_faultKind, jG_target_faultPlace, jG_target_tape, jG_target_target]; exact g1) (by simp; omega)
    refine ⟨tg, ?_, ?_⟩
    · rw [show nI k + (-1 : Int32) = nI k - 1 by rw [Int32.sub_eq_add_neg], e2]
      rfl
    · rw [List.append_assoc] at g2
      rw [List.range_succ_eq_map, List.map_cons, List.map_map]
      have e : ((fun i => 128 + v / 2 ^ (6 * (k + 1 - 1 - i)) % 64) ∘ Nat.succ) = (fun i => 128 + v / 2 ^ (6 * (k - 1 - i)) % 64) := by
        funext i
        show 128 + v / 2 ^ (6 * (k + 1 - 1 - (i + 1))) % 64 = _
        congr 4
        omega
      rw [e]
      exact g2
theorem z_put_mid {v : Nat} (hv : v < 2 ^ 30) : ∀ (k f : Nat) (σ : JSt) (out : List Nat), k ≤ 3 → k < f → RowL 0 (jf_target σ) out → out.length + k < 80000 → ∃ tg, jj_putSign_L63 0 f (nI v) (nI k - 1) σ = some (js_target σ tg) ∧ RowL 0 tg (out ++ ((List.range k).map (fun i => 128 + v / 2 ^ (6 * (k - 1 - i)) % 64))) := by
  intro k
  induction k with
  | zero =>
    intro f σ out hk hf hR ho
    obtain ⟨f, rfl⟩ : ∃ g, f = g + 1 := ⟨f - 1, by omega⟩
    refine ⟨jf_target σ, ?_, by simpa using hR⟩
    show jj_putSign_b63 0 _ _ _ σ = _
    unfold jj_putSign_b63
    rw [if_pos (by decide)]
    rfl
  | succ k ih =>
    intro f σ out hk hf hR ho
    obtain ⟨f, rfl⟩ : ∃ g, f = g + 1 := ⟨f - 1, by omega⟩
    show ∃ tg, jj_putSign_b63 0 (jj_putSign_L63 0 f) (nI v) (nI (k + 1) - 1) σ = _ ∧ _
    unfold jj_putSign_b63
    rw [nI_pred, if_neg (nI_pos (by omega))]
    obtain ⟨r1, e1, g1⟩ := rr_put_row hR (by decide) (by omega) ((128 : Int32) ||| ((nI v >>> (((6 : Int32) * nI k) &&& 31)) &&& (63 : Int32)))
    rw [bd_of e1]
    simp only [lt]
    rw [or_mid hv (by omega)] at g1
    obtain ⟨tg, e2, g2⟩ := ih f (js_target σ r1) _ (by omega) (by omega) (by simp only [jG_depthLimit_depthLimit, jG_depthLimit_place, jG_depthLimit_faultKind, jG_depthLimit_faultPlace, jG_depthLimit_tape, jG_depthLimit_target, jG_place_depthLimit, jG_place_place, jG_place_faultKind, jG_place_faultPlace, jG_place_tape, jG_place_target, jG_faultKind_depthLimit, jG_faultKind_place, jG_faultKind_faultKind, jG_faultKind_faultPlace, jG_faultKind_tape, jG_faultKind_target, jG_faultPlace_depthLimit, jG_faultPlace_place, jG_faultPlace_faultKind, jG_faultPlace_faultPlace, jG_faultPlace_tape, jG_faultPlace_target, jG_tape_depthLimit, jG_tape_place, jG_tape_faultKind, jG_tape_faultPlace, jG_tape_tape, jG_tape_target, jG_target_depthLimit, jG_target_place, jG_target_faultKind, jG_target_faultPlace, jG_target_tape, jG_target_target]; exact g1) (by simp; omega)
    refine ⟨tg, ?_, ?_⟩
    · rw [show nI k + (-1 : Int32) = nI k - 1 by rw [Int32.sub_eq_add_neg], e2]
      rfl
    · rw [List.append_assoc] at g2
      rw [List.range_succ_eq_map, List.map_cons, List.map_map]
      have e : ((fun i => 128 + v / 2 ^ (6 * (k + 1 - 1 - i)) % 64) ∘ Nat.succ) = (fun i => 128 + v / 2 ^ (6 * (k - 1 - i)) % 64) := by
        funext i
        show 128 + v / 2 ^ (6 * (k + 1 - 1 - (i + 1))) % 64 = _
        congr 4
        omega
      rw [e]
      exact g2
theorem putSign_eq {v : Nat} (hv : v < 1114112) {σ : JSt} {out : List Nat} (hR : RowL 6000 (jf_target σ) out) (ho : out.length ≤ 70000) : ∃ tg, jj_putSign 6000 (nI v) σ = some (js_target σ tg) ∧ RowL 6000 tg (out ++ utf v) := by
  have b38 : ∀ k, 1 ≤ k → k ≤ 3 → ∀ x, lowb (((65280 : Int32) >>> ((nI k + (1 : Int32)) &&& 31)) ||| (nI v >>> (((6 : Int32) * nI k) &&& 31))) = x → ∃ tg, jj_putSign_b38 6000 (nI v) (nI k) σ = some (js_target σ tg) ∧ RowL 6000 tg (out ++ (x :: (List.range k).map (fun i => 128 + v / 2 ^ (6 * (k - 1 - i)) % 64))) := by
    intro k hk1 hk3 x hx
    unfold jj_putSign_b38
    obtain ⟨r1, e1, g1⟩ := rr_put_row hR (by decide) (by omega) (((65280 : Int32) >>> ((nI k + (1 : Int32)) &&& 31)) ||| (nI v >>> (((6 : Int32) * nI k) &&& 31)))
    rw [hx] at g1
    rw [bd_of e1]
    simp only [lt]
    obtain ⟨tg, e2, g2⟩ := put_mid (v := v) (by omega) k FU (js_target σ r1) _ hk3 (by show _ < 100000; omega) (by simp only [jG_depthLimit_depthLimit, jG_depthLimit_place, jG_depthLimit_faultKind, jG_depthLimit_faultPlace, jG_depthLimit_tape, jG_depthLimit_target, jG_place_depthLimit, jG_place_place, jG_place_faultKind, jG_place_faultPlace, jG_place_tape, jG_place_target, jG_faultKind_depthLimit, jG_faultKind_place, jG_faultKind_faultKind, jG_faultKind_faultPlace, jG_faultKind_tape, jG_faultKind_target, jG_faultPlace_depthLimit, jG_faultPlace_place, jG_faultPlace_faultKind, jG_faultPlace_faultPlace, jG_faultPlace_tape, jG_faultPlace_target, jG_tape_depthLimit, jG_tape_place, jG_tape_faultKind, jG_tape_faultPlace, jG_tape_tape, jG_tape_target, jG_target_depthLimit, jG_target_place, jG_target_faultKind, jG_target_faultPlace, jG_target_tape, jG_target_target]; exact g1) (by simp; omega)
    refine ⟨tg, by rw [e2]; rfl, ?_⟩
    rw [List.append_assoc] at g2
    exact g2
  unfold jj_putSign utf
  by_cases c1 : v < 128
  · rw [if_neg (show ¬ (128 : Int32) ≤ nI v from nI_ge c1 (by decide)), if_pos c1]
    obtain ⟨r1, e1, g1⟩ := rr_put_row hR (by decide) (by omega) (nI v)
    rw [lowb_byte (by omega)] at g1
    rw [bd_of e1]
    exact ⟨r1, rfl, g1⟩
  rw [if_pos (show (128 : Int32) ≤ nI v from nI_le (a := 128) (by omega) (by omega)), if_neg c1]
  by_cases c2 : v < 2048
  · rw [if_neg (show ¬ (2048 : Int32) ≤ nI v from nI_ge c2 (by decide)), if_pos c2]
    obtain ⟨tg, e1, g1⟩ := b38 1 (by decide) (by decide) _ (or_put1 c2)
    refine ⟨tg, e1, ?_⟩
    simpa [List.range_succ] using g1
  rw [if_pos (show (2048 : Int32) ≤ nI v from nI_le (a := 2048) (by omega) (by omega)), if_neg c2]
  by_cases c3 : v < 65536
  · rw [if_neg (show ¬ (65536 : Int32) ≤ nI v from nI_ge c3 (by decide)), if_pos c3]
    obtain ⟨tg, e1, g1⟩ := b38 2 (by decide) (by decide) _ (or_put2 c3)
    refine ⟨tg, e1, ?_⟩
    simpa [List.range_succ] using g1
  rw [if_pos (show (65536 : Int32) ≤ nI v from nI_le (a := 65536) (by omega) (by omega)), if_neg c3]
  obtain ⟨tg, e1, g1⟩ := b38 3 (by decide) (by decide) _ (or_put3 hv)
  refine ⟨tg, e1, ?_⟩
  simpa [List.range_succ] using g1
theorem z_putSign_eq {v : Nat} (hv : v < 1114112) {σ : JSt} {out : List Nat} (hR : RowL 0 (jf_target σ) out) (ho : out.length ≤ 70000) : ∃ tg, jj_putSign 0 (nI v) σ = some (js_target σ tg) ∧ RowL 0 tg (out ++ utf v) := by
  have b38 : ∀ k, 1 ≤ k → k ≤ 3 → ∀ x, lowb (((65280 : Int32) >>> ((nI k + (1 : Int32)) &&& 31)) ||| (nI v >>> (((6 : Int32) * nI k) &&& 31))) = x → ∃ tg, jj_putSign_b38 0 (nI v) (nI k) σ = some (js_target σ tg) ∧ RowL 0 tg (out ++ (x :: (List.range k).map (fun i => 128 + v / 2 ^ (6 * (k - 1 - i)) % 64))) := by
    intro k hk1 hk3 x hx
    unfold jj_putSign_b38
    obtain ⟨r1, e1, g1⟩ := rr_put_row hR (by decide) (by omega) (((65280 : Int32) >>> ((nI k + (1 : Int32)) &&& 31)) ||| (nI v >>> (((6 : Int32) * nI k) &&& 31)))
    rw [hx] at g1
    rw [bd_of e1]
    simp only [lt]
    obtain ⟨tg, e2, g2⟩ := z_put_mid (v := v) (by omega) k FU (js_target σ r1) _ hk3 (by show _ < 100000; omega) (by simp only [jG_depthLimit_depthLimit, jG_depthLimit_place, jG_depthLimit_faultKind, jG_depthLimit_faultPlace, jG_depthLimit_tape, jG_depthLimit_target, jG_place_depthLimit, jG_place_place, jG_place_faultKind, jG_place_faultPlace, jG_place_tape, jG_place_target, jG_faultKind_depthLimit, jG_faultKind_place, jG_faultKind_faultKind, jG_faultKind_faultPlace, jG_faultKind_tape, jG_faultKind_target, jG_faultPlace_depthLimit, jG_faultPlace_place, jG_faultPlace_faultKind, jG_faultPlace_faultPlace, jG_faultPlace_tape, jG_faultPlace_target, jG_tape_depthLimit, jG_tape_place, jG_tape_faultKind, jG_tape_faultPlace, jG_tape_tape, jG_tape_target, jG_target_depthLimit, jG_target_place, jG_target_faultKind, jG_target_faultPlace, jG_target_tape, jG_target_target]; exact g1) (by simp; omega)
    refine ⟨tg, by rw [e2]; rfl, ?_⟩
    rw [List.append_assoc] at g2
    exact g2
  unfold jj_putSign utf
  by_cases c1 : v < 128
  · rw [if_neg (show ¬ (128 : Int32) ≤ nI v from nI_ge c1 (by decide)), if_pos c1]
    obtain ⟨r1, e1, g1⟩ := rr_put_row hR (by decide) (by omega) (nI v)
    rw [lowb_byte (by omega)] at g1
    rw [bd_of e1]
    exact ⟨r1, rfl, g1⟩
  rw [if_pos (show (128 : Int32) ≤ nI v from nI_le (a := 128) (by omega) (by omega)), if_neg c1]
  by_cases c2 : v < 2048
  · rw [if_neg (show ¬ (2048 : Int32) ≤ nI v from nI_ge c2 (by decide)), if_pos c2]
    obtain ⟨tg, e1, g1⟩ := b38 1 (by decide) (by decide) _ (or_put1 c2)
    refine ⟨tg, e1, ?_⟩
    simpa [List.range_succ] using g1
  rw [if_pos (show (2048 : Int32) ≤ nI v from nI_le (a := 2048) (by omega) (by omega)), if_neg c2]
  by_cases c3 : v < 65536
  · rw [if_neg (show ¬ (65536 : Int32) ≤ nI v from nI_ge c3 (by decide)), if_pos c3]
    obtain ⟨tg, e1, g1⟩ := b38 2 (by decide) (by decide) _ (or_put2 c3)
    refine ⟨tg, e1, ?_⟩
    simpa [List.range_succ] using g1
  rw [if_pos (show (65536 : Int32) ≤ nI v from nI_le (a := 65536) (by omega) (by omega)), if_neg c3]
  obtain ⟨tg, e1, g1⟩ := b38 3 (by decide) (by decide) _ (or_put3 hv)
  refine ⟨tg, e1, ?_⟩
  simpa [List.range_succ] using g1
end PSJ
