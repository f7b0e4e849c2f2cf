/-! PURE GG: an item of CBOR, read by the class -/
def KOk (σ : KSt) (out : List Nat) (r : Rd (List Nat × Nat)) (x : Option (Bool × KSt)) : Prop := match r with
  | .inl kq => KBad σ kq x
  | .inr y => ∃ σ', x = some (true, σ') ∧ KQ σ σ' ∧ kf_place σ' = nI y.2 ∧ RowL 6000 (kf_target σ') (out ++ y.1)
def z_KOk (σ : KSt) (out : List Nat) (r : Rd (List Nat × Nat)) (x : Option (Bool × KSt)) : Prop := match r with
  | .inl kq => z_KBad σ kq x
  | .inr y => ∃ σ', x = some (true, σ') ∧ KQ σ σ' ∧ kf_place σ' = nI y.2 ∧ RowL 0 (kf_target σ') (out ++ y.1)
theorem KOk.bad {σ σ' : KSt} {out : List Nat} {kq : Nat × Nat} (hf : KFr σ σ') (hk : kf_faultKind σ' = nI kq.1 ∧ kf_faultPlace σ' = nI kq.2) (ht : kf_target σ' = kf_target σ) (hR : RowL 6000 (kf_target σ) out) (ho : out.length ≤ 100000) : KBad σ kq (some (false, σ')) := ⟨σ', rfl, hf, hk.1, hk.2, out, by rw [ht]; exact hR, ho⟩
theorem z_KOk.bad {σ σ' : KSt} {out : List Nat} {kq : Nat × Nat} (hf : KFr σ σ') (hk : kf_faultKind σ' = nI kq.1 ∧ kf_faultPlace σ' = nI kq.2) (ht : kf_target σ' = kf_target σ) (hR : RowL 0 (kf_target σ) out) (ho : out.length ≤ 100000) : z_KBad σ kq (some (false, σ')) := ⟨σ', rfl, hf, hk.1, hk.2, out, by rw [ht]; exact hR, ho⟩
theorem KOk.tg {σ σ1 : KSt} {out w : List Nat} {q : Nat} {tg : RSt} (Q : KQ σ σ1) (hp : kf_place σ1 = nI q) (hR : RowL 6000 tg (out ++ w)) : KOk σ out (.inr (w, q)) (some (true, ks_target σ1 tg)) := by
  refine ⟨_, rfl, Q.trans ?_, ?_, ?_⟩
  · unfold KQ KFr
    simp only [kG_depthLimit_depthLimit, kG_depthLimit_place, kG_depthLimit_faultKind, kG_depthLimit_faultPlace, kG_depthLimit_type, kG_depthLimit_number, kG_depthLimit_tape, kG_depthLimit_target, kG_place_depthLimit, kG_place_place, kG_place_faultKind, kG_place_faultPlace, kG_place_type, kG_place_number, kG_place_tape, kG_place_target, kG_faultKind_depthLimit, kG_faultKind_place, kG_faultKind_faultKind, kG_faultKind_faultPlace, kG_faultKind_type, kG_faultKind_number, kG_faultKind_tape, kG_faultKind_target, kG_faultPlace_depthLimit, kG_faultPlace_place, kG_faultPlace_faultKind, kG_faultPlace_faultPlace, kG_faultPlace_type, kG_faultPlace_number, kG_faultPlace_tape, kG_faultPlace_target, kG_type_depthLimit, kG_type_place, kG_type_faultKind, kG_type_faultPlace, kG_type_type, kG_type_number, kG_type_tape, kG_type_target, kG_number_depthLimit, kG_number_place, kG_number_faultKind, kG_number_faultPlace, kG_number_type, kG_number_number, kG_number_tape, kG_number_target, kG_tape_depthLimit, kG_tape_place, kG_tape_faultKind, kG_tape_faultPlace, kG_tape_type, kG_tape_number, kG_tape_tape, kG_tape_target, kG_target_depthLimit, kG_target_place, kG_target_faultKind, kG_target_faultPlace, kG_target_type, kG_target_number, kG_target_tape, kG_target_target, and_self]
  · simp only [kG_depthLimit_depthLimit, kG_depthLimit_place, kG_depthLimit_faultKind, kG_depthLimit_faultPlace, kG_depthLimit_type, kG_depthLimit_number, kG_depthLimit_tape, kG_depthLimit_target, kG_place_depthLimit, kG_place_place, kG_place_faultKind, kG_place_faultPlace, kG_place_type, kG_place_number, kG_place_tape, kG_place_target, kG_faultKind_depthLimit, kG_faultKind_place, kG_faultKind_faultKind, kG_faultKind_faultPlace, kG_faultKind_type, kG_faultKind_number, kG_faultKind_tape, kG_faultKind_target, kG_faultPlace_depthLimit, kG_faultPlace_place, kG_faultPlace_faultKind, kG_faultPlace_faultPlace, kG_faultPlace_type, kG_faultPlace_number, kG_faultPlace_tape, kG_faultPlace_target, kG_type_depthLimit, kG_type_place, kG_type_faultKind, kG_type_faultPlace, kG_type_type, kG_type_number, kG_type_tape, kG_type_target, kG_number_depthLimit, kG_number_place, kG_number_faultKind, kG_number_faultPlace, kG_number_type, kG_number_number, kG_number_tape, kG_number_target, kG_tape_depthLimit, kG_tape_place, kG_tape_faultKind, kG_tape_faultPlace, kG_tape_type, kG_tape_number, kG_tape_tape, kG_tape_target, kG_target_depthLimit, kG_target_place, kG_target_faultKind, kG_target_faultPlace, kG_target_type, kG_target_number, kG_target_tape, kG_target_target]; exact hp
  · simp only [kG_depthLimit_depthLimit, kG_depthLimit_place, kG_depthLimit_faultKind, kG_depthLimit_faultPlace, kG_depthLimit_type, kG_depthLimit_number, kG_depthLimit_tape, kG_depthLimit_target, kG_place_depthLimit, kG_place_place, kG_place_faultKind, kG_place_faultPlace, kG_place_type, kG_place_number, kG_place_tape, kG_place_target, kG_faultKind_depthLimit, kG_faultKind_place, kG_faultKind_faultKind, kG_faultKind_faultPlace, kG_faultKind_type, kG_faultKind_number, kG_faultKind_tape, kG_faultKind_target, kG_faultPlace_depthLimit, kG_faultPlace_place, kG_faultPlace_faultKind, kG_faultPlace_faultPlace, kG_faultPlace_type, kG_faultPlace_number, kG_faultPlace_tape, kG_faultPlace_target, kG_type_depthLimit, kG_type_place, kG_type_faultKind, kG_type_faultPlace, kG_type_type, kG_type_number, kG_type_tape, kG_type_target, kG_number_depthLimit, kG_number_place, kG_number_faultKind, kG_number_faultPlace, kG_number_type, kG_number_number, kG_number_tape, kG_number_target, kG_tape_depthLimit, kG_tape_place, kG_tape_faultKind, kG_tape_faultPlace, kG_tape_type, kG_tape_number, kG_tape_tape, kG_tape_target, kG_target_depthLimit, kG_target_place, kG_target_faultKind, kG_target_faultPlace, kG_target_type, kG_target_number, kG_target_tape, kG_target_target]; exact hR
theorem z_KOk.tg {σ σ1 : KSt} {out w : List Nat} {q : Nat} {tg : RSt} (Q : KQ σ σ1) (hp : kf_place σ1 = nI q) (hR : RowL 0 tg (out ++ w)) : z_KOk σ out (.inr (w, q)) (some (true, ks_target σ1 tg)) := by
  refine ⟨_, rfl, Q.trans ?_, ?_, ?_⟩
  · unfold KQ KFr
    simp only [kG_depthLimit_depthLimit, kG_depthLimit_place, kG_depthLimit_faultKind, kG_depthLimit_faultPlace, kG_depthLimit_type, kG_depthLimit_number, kG_depthLimit_tape, kG_depthLimit_target, kG_place_depthLimit, kG_place_place, kG_place_faultKind, kG_place_faultPlace, kG_place_type, kG_place_number, kG_place_tape, kG_place_target, kG_faultKind_depthLimit, kG_faultKind_place, kG_faultKind_faultKind, kG_faultKind_faultPlace, kG_faultKind_type, kG_faultKind_number, kG_faultKind_tape, kG_faultKind_target, kG_faultPlace_depthLimit, kG_faultPlace_place, kG_faultPlace_faultKind, kG_faultPlace_faultPlace, kG_faultPlace_type, kG_faultPlace_number, kG_faultPlace_tape, kG_faultPlace_target, kG_type_depthLimit, kG_type_place, kG_type_faultKind, kG_type_faultPlace, kG_type_type, kG_type_number, kG_type_tape, kG_type_target, kG_number_depthLimit, kG_number_place, kG_number_faultKind, kG_number_faultPlace, kG_number_type, kG_number_number, kG_number_tape, kG_number_target, kG_tape_depthLimit, kG_tape_place, kG_tape_faultKind, kG_tape_faultPlace, kG_tape_type, kG_tape_number, kG_tape_tape, kG_tape_target, kG_target_depthLimit, kG_target_place, kG_target_faultKind, kG_target_faultPlace, kG_target_type, kG_target_number, kG_target_tape, kG_target_target, and_self]
  · simp only [kG_depthLimit_depthLimit, kG_depthLimit_place, kG_depthLimit_faultKind, kG_depthLimit_faultPlace, kG_depthLimit_type, kG_depthLimit_number, kG_depthLimit_tape, kG_depthLimit_target, kG_place_depthLimit, kG_place_place, kG_place_faultKind, kG_place_faultPlace, kG_place_type, kG_place_number, kG_place_tape, kG_place_target, kG_faultKind_depthLimit, kG_faultKind_place, kG_faultKind_faultKind, kG_faultKind_faultPlace, kG_faultKind_type, kG_faultKind_number, kG_faultKind_tape, kG_faultKind_target, kG_faultPlace_depthLimit, kG_faultPlace_place, kG_faultPlace_faultKind, kG_faultPlace_faultPlace, kG_faultPlace_type, kG_faultPlace_number, kG_faultPlace_tape, kG_faultPlace_target, kG_type_depthLimit, kG_type_place, kG_type_faultKind, kG_type_faultPlace, kG_type_type, kG_type_number, kG_type_tape, kG_type_target, kG_number_depthLimit, kG_number_place, kG_number_faultKind, kG_number_faultPlace, kG_number_type, kG_number_number, kG_number_tape, kG_number_target, kG_tape_depthLimit, kG_tape_place, kG_tape_faultKind, kG_tape_faultPlace, kG_tape_type, kG_tape_number, kG_tape_tape, kG_tape_target, kG_target_depthLimit, kG_target_place, kG_target_faultKind, kG_target_faultPlace, kG_target_type, kG_target_number, kG_target_tape, kG_target_target]; exact hp
  · simp only [kG_depthLimit_depthLimit, kG_depthLimit_place, kG_depthLimit_faultKind, kG_depthLimit_faultPlace, kG_depthLimit_type, kG_depthLimit_number, kG_depthLimit_tape, kG_depthLimit_target, kG_place_depthLimit, kG_place_place, kG_place_faultKind, kG_place_faultPlace, kG_place_type, kG_place_number, kG_place_tape, kG_place_target, kG_faultKind_depthLimit, kG_faultKind_place, kG_faultKind_faultKind, kG_faultKind_faultPlace, kG_faultKind_type, kG_faultKind_number, kG_faultKind_tape, kG_faultKind_target, kG_faultPlace_depthLimit, kG_faultPlace_place, kG_faultPlace_faultKind, kG_faultPlace_faultPlace, kG_faultPlace_type, kG_faultPlace_number, kG_faultPlace_tape, kG_faultPlace_target, kG_type_depthLimit, kG_type_place, kG_type_faultKind, kG_type_faultPlace, kG_type_type, kG_type_number, kG_type_tape, kG_type_target, kG_number_depthLimit, kG_number_place, kG_number_faultKind, kG_number_faultPlace, kG_number_type, kG_number_number, kG_number_tape, kG_number_target, kG_tape_depthLimit, kG_tape_place, kG_tape_faultKind, kG_tape_faultPlace, kG_tape_type, kG_tape_number, kG_tape_tape, kG_tape_target, kG_target_depthLimit, kG_target_place, kG_target_faultKind, kG_target_faultPlace, kG_target_type, kG_target_number, kG_target_tape, kG_target_target]; exact hR
section ITK
variable {t : List Nat}
theorem k_key {σ : KSt} {out : List Nat} {p d : Nat} (hT : TpR (kf_tape σ) t) (hpl : kf_place σ = nI p) (hp : p ≤ t.length) (hR : RowL 6000 (kf_target σ) out) (ho : out.length + 24 * (t.length - p) ≤ 97500) : KOk σ out (mapR (fun y => (y.1.2, y.2)) (sKy t true d p)) (kk_readKey 6000 σ) := by
  have hle := hT.2
  have ht := hT.1.2.2
  unfold kk_readKey
  have hh := k_head (key := true) hT hpl hp
  cases hd : sHd t true p with
  | inl kq =>
    rw [hd] at hh
    obtain ⟨σ', ex, hf, hk, htg⟩ := hh
    rw [sKy_l (sTk_l hd), bd_of (show kk_readHead 6000 (1 : Int32) σ = _ from ex)]
    simp only []
    rw [if_neg (show ¬ false = true by decide)]
    exact KOk.bad hf hk htg hR (by omega)
  | inr y =>
    obtain ⟨⟨ty, v⟩, q⟩ := y
    obtain ⟨b1, b2, b3, b4, b5, b6, b7, b8, b9⟩ := sHd_bd ht hd
    have ty3 := b9 rfl
    subst ty3
    rw [hd] at hh
    obtain ⟨σ1, ex, Q1, tg1, pl1, ty1, nu1⟩ := hh
    have T1 : TpR (kf_tape σ1) t := by rw [Q1.1.1]; exact hT
    have R1 : RowL 6000 (kf_target σ1) out := by rw [tg1]; exact hR
    rw [bd_of (show kk_readHead 6000 (1 : Int32) σ = _ from ex)]
    simp only []
    rw [if_pos trivial]
    have hx := k_text T1 pl1 b3 nu1 b5 R1 (by omega)
    cases htx : sTx t v q with
    | inl kq =>
      rw [htx] at hx
      obtain ⟨σ2, e2, f2, g2⟩ := hx
      rw [sKy_l (sTk_x hd htx), bd_of e2]
      simp only []
      rw [if_neg (show ¬ false = true by decide)]
      exact ⟨σ2, rfl, Q1.1.trans f2, g2⟩
    | inr ls =>
      rw [htx] at hx
      obtain ⟨σ2, e2, Q2, p2, r2⟩ := hx
      obtain ⟨g1, g2⟩ := sTx_bd b3 htx
      have hl : ls.length = v := by rw [g2]; exact sl_len g1
      have hel := esc_len ls
      rw [sKy_t (sTk_t hd htx), bd_of e2]
      simp only []
      rw [if_pos trivial]
      obtain ⟨r3, e3, q3⟩ := rr_putN r2 (by simp only [List.length_append, List.length_cons, List.length_nil]; omega) (n := 58) (v := 58) (by decide) rfl
      rw [bd_of e3]
      refine KOk.tg (Q1.trans Q2) p2 ?_
      rw [List.append_assoc] at q3
      exact q3
theorem z_k_key {σ : KSt} {out : List Nat} {p d : Nat} (hT : TpR (kf_tape σ) t) (hpl : kf_place σ = nI p) (hp : p ≤ t.length) (hR : RowL 0 (kf_target σ) out) (ho : out.length + 24 * (t.length - p) ≤ 97500) : z_KOk σ out (mapR (fun y => (y.1.2, y.2)) (sKy t true d p)) (kk_readKey 0 σ) := by
  have hle := hT.2
  have ht := hT.1.2.2
  unfold kk_readKey
  have hh := z_k_head (key := true) hT hpl hp
  cases hd : sHd t true p with
  | inl kq =>
    rw [hd] at hh
    obtain ⟨σ', ex, hf, hk, htg⟩ := hh
    rw [sKy_l (sTk_l hd), bd_of (show kk_readHead 0 (1 : Int32) σ = _ from ex)]
    simp only []
    rw [if_neg (show ¬ false = true by decide)]
    exact z_KOk.bad hf hk htg hR (by omega)
  | inr y =>
    obtain ⟨⟨ty, v⟩, q⟩ := y
    obtain ⟨b1, b2, b3, b4, b5, b6, b7, b8, b9⟩ := sHd_bd ht hd
    have ty3 := b9 rfl
    subst ty3
    rw [hd] at hh
    obtain ⟨σ1, ex, Q1, tg1, pl1, ty1, nu1⟩ := hh
    have T1 : TpR (kf_tape σ1) t := by rw [Q1.1.1]; exact hT
    have R1 : RowL 0 (kf_target σ1) out := by rw [tg1]; exact hR
    rw [bd_of (show kk_readHead 0 (1 : Int32) σ = _ from ex)]
    simp only []
    rw [if_pos trivial]
    have hx := z_k_text T1 pl1 b3 nu1 b5 R1 (by omega)
    cases htx : sTx t v q with
    | inl kq =>
      rw [htx] at hx
      obtain ⟨σ2, e2, f2, g2⟩ := hx
      rw [sKy_l (sTk_x hd htx), bd_of e2]
      simp only []
      rw [if_neg (show ¬ false = true by decide)]
      exact ⟨σ2, rfl, Q1.1.trans f2, g2⟩
    | inr ls =>
      rw [htx] at hx
      obtain ⟨σ2, e2, Q2, p2, r2⟩ := hx
      obtain ⟨g1, g2⟩ := sTx_bd b3 htx
      have hl : ls.length = v := by rw [g2]; exact sl_len g1
      have hel := esc_len ls
      rw [sKy_t (sTk_t hd htx), bd_of e2]
      simp only []
      rw [if_pos trivial]
      obtain ⟨r3, e3, q3⟩ := z_rr_putN r2 (by simp only [List.length_append, List.length_cons, List.length_nil]; omega) (n := 58) (v := 58) (by decide) rfl
      rw [bd_of e3]
      refine z_KOk.tg (Q1.trans Q2) p2 ?_
      rw [List.append_assoc] at q3
      exact q3
def KV (t : List Nat) (L : Nat) (item : Nat → Rd ((List Tok × List Nat) × Nat)) (rv : KSt → Option (Bool × KSt)) : Prop := ∀ (σ : KSt) (p : Nat) (out : List Nat), TpR (kf_tape σ) t → kf_depthLimit σ = nI L → kf_place σ = nI p → p ≤ t.length → RowL 6000 (kf_target σ) out → out.length + 24 * (t.length - p) ≤ 97000 → KOk σ out (mapR (fun y => (y.1.2, y.2)) (item p)) (rv σ)
def z_KV (t : List Nat) (L : Nat) (item : Nat → Rd ((List Tok × List Nat) × Nat)) (rv : KSt → Option (Bool × KSt)) : Prop := ∀ (σ : KSt) (p : Nat) (out : List Nat), TpR (kf_tape σ) t → kf_depthLimit σ = nI L → kf_place σ = nI p → p ≤ t.length → RowL 0 (kf_target σ) out → out.length + 24 * (t.length - p) ≤ 97000 → z_KOk σ out (mapR (fun y => (y.1.2, y.2)) (item p)) (rv σ)
theorem k_parts_loop {L n d : Nat} {item : Nat → Rd ((List Tok × List Nat) × Nat)} {rv : Int32 → KSt → Option (Bool × KSt)} {dep : Int32} {isMap : Bool} (hn : n ≤ 4001) (hv : KV t L item (rv dep)) (hvb : IB t item) : ∀ (m i f : Nat) (σ : KSt) (p : Nat) (acc : List Nat), i + m = n → m < f → p ≤ t.length → TpR (kf_tape σ) t → kf_depthLimit σ = nI L → kf_place σ = nI p → RowL 6000 (kf_target σ) acc → acc.length + 1 + 24 * (t.length - p) ≤ 97000 → KOk σ acc (mapR (fun y => (y.1.2 ++ [clC isMap], y.2)) (sIts t item d isMap m (decide (i = 0)) p)) (kk_readParts_L70 6000 rv f dep (bI isMap) (nI n) (nI i) σ) := by
  intro m
  induction m with
  | zero =>
    intro i f σ p acc him hf hp hT hL hpl hR ho
    obtain ⟨f, rfl⟩ : ∃ g, f = g + 1 := ⟨f - 1, by omega⟩
    have hb : kk_readParts_L70 6000 rv (f + 1) dep (bI isMap) (nI n) (nI i) σ = kk_readParts_b132 6000 rv (nI (clC isMap)) σ := by
      show kk_readParts_b70 6000 rv (kk_readParts_L70 6000 rv f) _ _ _ _ σ = _
      unfold kk_readParts_b70
      rw [if_pos (nI_le (by omega) (by omega))]
      cases isMap with
      | true => rw [if_neg (by decide)]; rfl
      | false => rw [if_pos (by decide)]; rfl
    rw [hb]
    unfold kk_readParts_b132
    obtain ⟨r1, g1, q1⟩ := rr_putN hR (by omega) (n := clC isMap) (by cases isMap <;> decide) rfl
    rw [bd_of g1]
    exact KOk.tg (KQ.rfl' σ) hpl q1
  | succ m ih =>
    intro i f σ p acc him hf hp hT hL hpl hR ho
    obtain ⟨f, rfl⟩ : ∃ g, f = g + 1 := ⟨f - 1, by omega⟩
    have hle := hT.2
    have ht := hT.1.2.2
    obtain ⟨cm, ecm⟩ : ∃ cm : List Nat, cm = if decide (i = 0) = true then [] else [44] := ⟨_, rfl⟩
    have hcm : cm.length ≤ 1 := by
      rw [ecm]
      split <;> decide
    -- behind the comma
    obtain ⟨σ0, h70, Q0, P0, R0⟩ : ∃ σ0, kk_readParts_L70 6000 rv (f + 1) dep (bI isMap) (nI n) (nI i) σ = kk_readParts_b90 6000 rv (kk_readParts_L70 6000 rv f) dep (bI isMap) (nI n) (nI i) σ0 ∧ KQ σ σ0 ∧ kf_place σ0 = nI p ∧ RowL 6000 (kf_target σ0) (acc ++ cm) := by
      show ∃ σ0, kk_readParts_b70 6000 rv (kk_readParts_L70 6000 rv f) dep (bI isMap) (nI n) (nI i) σ = _ ∧ _
      unfold kk_readParts_b70
      rw [if_neg (nI_ge (by omega) (by omega)), ecm]
      by_cases c : i = 0
      · rw [if_pos (show nI i ≤ (0 : Int32) by rw [c]; decide), if_pos (decide_eq_true c), List.append_nil]
        exact ⟨σ, rfl, KQ.rfl' σ, hpl, hR⟩
      · rw [if_neg (nI_np (by omega) (by omega)), if_neg (by rw [decide_eq_false c]; decide)]
        obtain ⟨r1, g1, q1⟩ := rr_putN hR (by omega) (n := 44) (v := 44) (by decide) rfl
        rw [bd_of g1]
        refine ⟨_, rfl, ?_, ?_, ?_⟩
        · unfold KQ KFr
          simp only [kG_depthLimit_depthLimit, kG_depthLimit_place, kG_depthLimit_faultKind, kG_depthLimit_faultPlace, kG_depthLimit_type, kG_depthLimit_number, kG_depthLimit_tape, kG_depthLimit_target, kG_place_depthLimit, kG_place_place, kG_place_faultKind, kG_place_faultPlace, kG_place_type, kG_place_number, kG_place_tape, kG_place_target, kG_faultKind_depthLimit, kG_faultKind_place, kG_faultKind_faultKind, kG_faultKind_faultPlace, kG_faultKind_type, kG_faultKind_number, kG_faultKind_tape, kG_faultKind_target, kG_faultPlace_depthLimit, kG_faultPlace_place, kG_faultPlace_faultKind, kG_faultPlace_faultPlace, kG_faultPlace_type, kG_faultPlace_number, kG_faultPlace_tape, kG_faultPlace_target, kG_type_depthLimit, kG_type_place, kG_type_faultKind, kG_type_faultPlace, kG_type_type, kG_type_number, kG_type_tape, kG_type_target, kG_number_depthLimit, kG_number_place, kG_number_faultKind, kG_number_faultPlace, kG_number_type, kG_number_number, kG_number_tape, kG_number_target, kG_tape_depthLimit, kG_tape_place, kG_tape_faultKind, kG_tape_faultPlace, kG_tape_type, kG_tape_number, kG_tape_tape, kG_tape_target, kG_target_depthLimit, kG_target_place, kG_target_faultKind, kG_target_faultPlace, kG_target_type, kG_target_number, kG_target_tape, kG_target_target, and_self]
        · simp only [kG_depthLimit_depthLimit, kG_depthLimit_place, kG_depthLimit_faultKind, kG_depthLimit_faultPlace, kG_depthLimit_type, kG_depthLimit_number, kG_depthLimit_tape, kG_depthLimit_target, kG_place_depthLimit, kG_place_place, kG_place_faultKind, kG_place_faultPlace, kG_place_type, kG_place_number, kG_place_tape, kG_place_target, kG_faultKind_depthLimit, kG_faultKind_place, kG_faultKind_faultKind, kG_faultKind_faultPlace, kG_faultKind_type, kG_faultKind_number, kG_faultKind_tape, kG_faultKind_target, kG_faultPlace_depthLimit, kG_faultPlace_place, kG_faultPlace_faultKind, kG_faultPlace_faultPlace, kG_faultPlace_type, kG_faultPlace_number, kG_faultPlace_tape, kG_faultPlace_target, kG_type_depthLimit, kG_type_place, kG_type_faultKind, kG_type_faultPlace, kG_type_type, kG_type_number, kG_type_tape, kG_type_target, kG_number_depthLimit, kG_number_place, kG_number_faultKind, kG_number_faultPlace, kG_number_type, kG_number_number, kG_number_tape, kG_number_target, kG_tape_depthLimit, kG_tape_place, kG_tape_faultKind, kG_tape_faultPlace, kG_tape_type, kG_tape_number, kG_tape_tape, kG_tape_target, kG_target_depthLimit, kG_target_place, kG_target_faultKind, kG_target_faultPlace, kG_target_type, kG_target_number, kG_target_tape, kG_target_target]; exact hpl
        · simp only [kG_depthLimit_depthLimit, kG_depthLimit_place, kG_depthLimit_faultKind, kG_depthLimit_faultPlace, kG_depthLimit_type, kG_depthLimit_number, kG_depthLimit_tape, kG_depthLimit_target, kG_place_depthLimit, kG_place_place, kG_place_faultKind, kG_place_faultPlace, kG_place_type, kG_place_number, kG_place_tape, kG_place_target, kG_faultKind_depthLimit, kG_faultKind_place, kG_faultKind_faultKind, kG_faultKind_faultPlace, kG_faultKind_type, kG_faultKind_number, kG_faultKind_tape, kG_faultKind_target, kG_faultPlace_depthLimit, kG_faultPlace_place, kG_faultPlace_faultKind, kG_faultPlace_faultPlace, kG_faultPlace_type, kG_faultPlace_number, kG_faultPlace_tape, kG_faultPlace_target, kG_type_depthLimit, kG_type_place, kG_type_faultKind, kG_type_faultPlace, kG_type_type, kG_type_number, kG_type_tape, kG_type_target, kG_number_depthLimit, kG_number_place, kG_number_faultKind, kG_number_faultPlace, kG_number_type, kG_number_number, kG_number_tape, kG_number_target, kG_tape_depthLimit, kG_tape_place, kG_tape_faultKind, kG_tape_faultPlace, kG_tape_type, kG_tape_number, kG_tape_tape, kG_tape_target, kG_target_depthLimit, kG_target_place, kG_target_faultKind, kG_target_faultPlace, kG_target_type, kG_target_number, kG_target_tape, kG_target_target]; exact q1
    have T0 : TpR (kf_tape σ0) t := by rw [Q0.1.1]; exact hT
    have hal : (acc ++ cm).length = acc.length + cm.length := List.length_append
    -- the key
    have hkey : match sKy t isMap d p with
        | .inl kq => KBad σ0 kq (kk_readParts_b90 6000 rv (kk_readParts_L70 6000 rv f) dep (bI isMap) (nI n) (nI i) σ0)
        | .inr y => ∃ σ1, kk_readParts_b90 6000 rv (kk_readParts_L70 6000 rv f) dep (bI isMap) (nI n) (nI i) σ0 = kk_readParts_b101 6000 rv (kk_readParts_L70 6000 rv f) dep (bI isMap) (nI n) (nI i) σ1 ∧ KQ σ0 σ1 ∧ kf_place σ1 = nI y.2 ∧ RowL 6000 (kf_target σ1) (acc ++ cm ++ y.1.2) := by
      unfold kk_readParts_b90
      cases isMap with
      | false =>
        rw [if_pos (by decide)]
        exact ⟨σ0, rfl, KQ.rfl' σ0, P0, by show RowL 6000 _ (acc ++ cm ++ []); rw [List.append_nil]; exact R0⟩
      | true =>
        rw [if_neg (by decide)]
        have hk := k_key (d := d) T0 P0 hp R0 (by omega)
        cases hkk : sKy t true d p with
        | inl kq =>
          rw [hkk] at hk
          obtain ⟨σ1, e1, g1⟩ := hk
          simp only []
          rw [bd_of e1]
          exact ⟨σ1, rfl, g1⟩
        | inr y =>
          rw [hkk] at hk
          obtain ⟨σ1, e1, g1⟩ := hk
          simp only []
          rw [bd_of e1]
          exact ⟨σ1, rfl, g1⟩
    rw [h70]
    cases hkk : sKy t isMap d p with
    | inl kq =>
      rw [hkk] at hkey
      rw [sIts_k hkk]
      exact KBad.fr Q0.1 hkey
    | inr y =>
      obtain ⟨⟨ks, kj⟩, p1⟩ := y
      obtain ⟨k1, k2, k3, k4⟩ := sKy_bd ht hp hkk
      have kl := k2.2.1
      rw [hkk] at hkey
      obtain ⟨σ1, e1, Q1, P1, R1'⟩ := hkey
      have R1 : RowL 6000 (kf_target σ1) (acc ++ cm ++ kj) := R1'
      have T1 : TpR (kf_tape σ1) t := by rw [Q1.1.1]; exact T0
      have L1 : kf_depthLimit σ1 = nI L := by rw [Q1.1.2, Q0.1.2]; exact hL
      rw [e1]
      unfold kk_readParts_b101
      have hit := hv σ1 p1 _ T1 L1 P1 kl R1 (by rw [List.length_append]; omega)
      cases hii : item p1 with
      | inl kq =>
        rw [hii] at hit
        obtain ⟨σ2, e2, f2, g2⟩ := hit
        rw [sIts_v hkk hii, bd_of e2]
        exact ⟨σ2, rfl, (Q0.1.trans Q1.1).trans f2, g2⟩
      | inr vp =>
        obtain ⟨⟨vs, vj⟩, p2⟩ := vp
        obtain ⟨v1, v2, v3⟩ := hvb p1 kl vs vj p2 hii
        have vl := v2.2.1
        rw [hii] at hit
        obtain ⟨σ2, e2, Q2, P2, R2⟩ := hit
        have R2' : RowL 6000 (kf_target σ2) (acc ++ cm ++ kj ++ vj) := R2
        rw [bd_of e2]
        simp only [lt]
        rw [if_pos trivial, nI_1]
        have QQ := (Q0.trans Q1).trans Q2
        have r := ih (i + 1) f σ2 p2 (acc ++ cm ++ kj ++ vj) (by omega) (by omega) vl (by rw [QQ.1.1]; exact hT) (by rw [QQ.1.2]; exact hL) P2 R2' (by simp only [List.length_append]; omega)
        rw [decide_eq_false (show ¬ i + 1 = 0 by omega)] at r
        cases hr : sIts t item d isMap m false p2 with
        | inl kq =>
          rw [hr] at r
          rw [sIts_r hkk hii hr]
          exact KBad.fr QQ.1 r
        | inr z =>
          obtain ⟨⟨zs, zj⟩, q⟩ := z
          rw [hr] at r
          obtain ⟨σ3, e3, Q3, P3, R3⟩ := r
          rw [sIts_o hkk hii hr, ← ecm]
          refine ⟨σ3, e3, QQ.trans Q3, P3, ?_⟩
          have R3' : RowL 6000 (kf_target σ3) (acc ++ cm ++ kj ++ vj ++ (zj ++ [clC isMap])) := R3
          show RowL 6000 (kf_target σ3) (acc ++ (cm ++ kj ++ vj ++ zj ++ [clC isMap]))
          simp only [List.append_assoc] at R3' ⊢
          exact R3'
theorem z_k_parts_loop {L n d : Nat} {item : Nat → Rd ((List Tok × List Nat) × Nat)} {rv : Int32 → KSt → Option (Bool × KSt)} {dep : Int32} {isMap : Bool} (hn : n ≤ 4001) (hv : z_KV t L item (rv dep)) (hvb : IB t item) : ∀ (m i f : Nat) (σ : KSt) (p : Nat) (acc : List Nat), i + m = n → m < f → p ≤ t.length → TpR (kf_tape σ) t → kf_depthLimit σ = nI L → kf_place σ = nI p → RowL 0 (kf_target σ) acc → acc.length + 1 + 24 * (t.length - p) ≤ 97000 → z_KOk σ acc (mapR (fun y => (y.1.2 ++ [clC isMap], y.2)) (sIts t item d isMap m (decide (i = 0)) p)) (kk_readParts_L70 0 rv f dep (bI isMap) (nI n) (nI i) σ) := by
  intro m
  induction m with
  | zero =>
    intro i f σ p acc him hf hp hT hL hpl hR ho
    obtain ⟨f, rfl⟩ : ∃ g, f = g + 1 := ⟨f - 1, by omega⟩
    have hb : kk_readParts_L70 0 rv (f + 1) dep (bI isMap) (nI n) (nI i) σ = kk_readParts_b132 0 rv (nI (clC isMap)) σ := by
      show kk_readParts_b70 0 rv (kk_readParts_L70 0 rv f) _ _ _ _ σ = _
      unfold kk_readParts_b70
      rw [if_pos (nI_le (by omega) (by omega))]
      cases isMap with
      | true => rw [if_neg (by decide)]; rfl
      | false => rw [if_pos (by decide)]; rfl
    rw [hb]
    unfold kk_readParts_b132
    obtain ⟨r1, g1, q1⟩ := z_rr_putN hR (by omega) (n := clC isMap) (by cases isMap <;> decide) rfl
    rw [bd_of g1]
    exact z_KOk.tg (KQ.rfl' σ) hpl q1
  | succ m ih =>
    intro i f σ p acc him hf hp hT hL hpl hR ho
    obtain ⟨f, rfl⟩ : ∃ g, f = g + 1 := ⟨f - 1, by omega⟩
    have hle := hT.2
    have ht := hT.1.2.2
    obtain ⟨cm, ecm⟩ : ∃ cm : List Nat, cm = if decide (i = 0) = true then [] else [44] := ⟨_, rfl⟩
    have hcm : cm.length ≤ 1 := by
      rw [ecm]
      split <;> decide
    -- behind the comma
    obtain ⟨σ0, h70, Q0, P0, R0⟩ : ∃ σ0, kk_readParts_L70 0 rv (f + 1) dep (bI isMap) (nI n) (nI i) σ = kk_readParts_b90 0 rv (kk_readParts_L70 0 rv f) dep (bI isMap) (nI n) (nI i) σ0 ∧ KQ σ σ0 ∧ kf_place σ0 = nI p ∧ RowL 0 (kf_target σ0) (acc ++ cm) := by
      show ∃ σ0, kk_readParts_b70 0 rv (kk_readParts_L70 0 rv f) dep (bI isMap) (nI n) (nI i) σ = _ ∧ _
      unfold kk_readParts_b70
      rw [if_neg (nI_ge (by omega) (by omega)), ecm]
      by_cases c : i = 0
      · rw [if_pos (show nI i ≤ (0 : Int32) by rw [c]; decide), if_pos (decide_eq_true c), List.append_nil]
        exact ⟨σ, rfl, KQ.rfl' σ, hpl, hR⟩
      · rw [if_neg (nI_np (by omega) (by omega)), if_neg (by rw [decide_eq_false c]; decide)]
        obtain ⟨r1, g1, q1⟩ := z_rr_putN hR (by omega) (n := 44) (v := 44) (by decide) rfl
        rw [bd_of g1]
        refine ⟨_, rfl, ?_, ?_, ?_⟩
        · unfold KQ KFr
          simp only [kG_depthLimit_depthLimit, kG_depthLimit_place, kG_depthLimit_faultKind, kG_depthLimit_faultPlace, kG_depthLimit_type, kG_depthLimit_number, kG_depthLimit_tape, kG_depthLimit_target, kG_place_depthLimit, kG_place_place, kG_place_faultKind, kG_place_faultPlace, kG_place_type, kG_place_number, kG_place_tape, kG_place_target, kG_faultKind_depthLimit, kG_faultKind_place, kG_faultKind_faultKind, kG_faultKind_faultPlace, kG_faultKind_type, kG_faultKind_number, kG_faultKind_tape, kG_faultKind_target, kG_faultPlace_depthLimit, kG_faultPlace_place, kG_faultPlace_faultKind, kG_faultPlace_faultPlace, kG_faultPlace_type, kG_faultPlace_number, kG_faultPlace_tape, kG_faultPlace_target, kG_type_depthLimit, kG_type_place, kG_type_faultKind, kG_type_faultPlace, kG_type_type, kG_type_number, kG_type_tape, kG_type_target, kG_number_depthLimit, kG_number_place, kG_number_faultKind, kG_number_faultPlace, kG_number_type, kG_number_number, kG_number_tape, kG_number_target, kG_tape_depthLimit, kG_tape_place, kG_tape_faultKind, kG_tape_faultPlace, kG_tape_type, kG_tape_number, kG_tape_tape, kG_tape_target, kG_target_depthLimit, kG_target_place, kG_target_faultKind, kG_target_faultPlace, kG_target_type, kG_target_number, kG_target_tape, kG_target_target, and_self]
        · simp only [kG_depthLimit_depthLimit, kG_depthLimit_place, kG_depthLimit_faultKind, kG_depthLimit_faultPlace, kG_depthLimit_type, kG_depthLimit_number, kG_depthLimit_tape, kG_depthLimit_target, kG_place_depthLimit, kG_place_place, kG_place_faultKind, kG_place_faultPlace, kG_place_type, kG_place_number, kG_place_tape, kG_place_target, kG_faultKind_depthLimit, kG_faultKind_place, kG_faultKind_faultKind, kG_faultKind_faultPlace, kG_faultKind_type, kG_faultKind_number, kG_faultKind_tape, kG_faultKind_target, kG_faultPlace_depthLimit, kG_faultPlace_place, kG_faultPlace_faultKind, kG_faultPlace_faultPlace, kG_faultPlace_type, kG_faultPlace_number, kG_faultPlace_tape, kG_faultPlace_target, kG_type_depthLimit, kG_type_place, kG_type_faultKind, kG_type_faultPlace, kG_type_type, kG_type_number, kG_type_tape, kG_type_target, kG_number_depthLimit, kG_number_place, kG_number_faultKind, kG_number_faultPlace, kG_number_type, kG_number_number, kG_number_tape, kG_number_target, kG_tape_depthLimit, kG_tape_place, kG_tape_faultKind, kG_tape_faultPlace, kG_tape_type, kG_tape_number, kG_tape_tape, kG_tape_target, kG_target_depthLimit, kG_target_place, kG_target_faultKind, kG_target_faultPlace, kG_target_type, kG_target_number, kG_target_tape, kG_target_target]; exact hpl
        · simp only [kG_depthLimit_depthLimit, kG_depthLimit_place, kG_depthLimit_faultKind, kG_depthLimit_faultPlace, kG_depthLimit_type, kG_depthLimit_number, kG_depthLimit_tape, kG_depthLimit_target, kG_place_depthLimit, kG_place_place, kG_place_faultKind, kG_place_faultPlace, kG_place_type, kG_place_number, kG_place_tape, kG_place_target, kG_faultKind_depthLimit, kG_faultKind_place, kG_faultKind_faultKind, kG_faultKind_faultPlace, kG_faultKind_type, kG_faultKind_number, kG_faultKind_tape, kG_faultKind_target, kG_faultPlace_depthLimit, kG_faultPlace_place, kG_faultPlace_faultKind, kG_faultPlace_faultPlace, kG_faultPlace_type, kG_faultPlace_number, kG_faultPlace_tape, kG_faultPlace_target, kG_type_depthLimit, kG_type_place, kG_type_faultKind, kG_type_faultPlace, kG_type_type, kG_type_number, kG_type_tape, kG_type_target, kG_number_depthLimit, kG_number_place, kG_number_faultKind, kG_number_faultPlace, kG_number_type, kG_number_number, kG_number_tape, kG_number_target, kG_tape_depthLimit, kG_tape_place, kG_tape_faultKind, kG_tape_faultPlace, kG_tape_type, kG_tape_number, kG_tape_tape, kG_tape_target, kG_target_depthLimit, kG_target_place, kG_target_faultKind, kG_target_faultPlace, kG_target_type, kG_target_number, kG_target_tape, kG_target_target]; exact q1
    have T0 : TpR (kf_tape σ0) t := by rw [Q0.1.1]; exact hT
    have hal : (acc ++ cm).length = acc.length + cm.length := List.length_append
    -- the key
    have hkey : match sKy t isMap d p with
        | .inl kq => z_KBad σ0 kq (kk_readParts_b90 0 rv (kk_readParts_L70 0 rv f) dep (bI isMap) (nI n) (nI i) σ0)
        | .inr y => ∃ σ1, kk_readParts_b90 0 rv (kk_readParts_L70 0 rv f) dep (bI isMap) (nI n) (nI i) σ0 = kk_readParts_b101 0 rv (kk_readParts_L70 0 rv f) dep (bI isMap) (nI n) (nI i) σ1 ∧ KQ σ0 σ1 ∧ kf_place σ1 = nI y.2 ∧ RowL 0 (kf_target σ1) (acc ++ cm ++ y.1.2) := by
      unfold kk_readParts_b90
      cases isMap with
      | false =>
        rw [if_pos (by decide)]
        exact ⟨σ0, rfl, KQ.rfl' σ0, P0, by show RowL 0 _ (acc ++ cm ++ []); rw [List.append_nil]; exact R0⟩
      | true =>
        rw [if_neg (by decide)]
        have hk := z_k_key (d := d) T0 P0 hp R0 (by omega)
        cases hkk : sKy t true d p with
        | inl kq =>
          rw [hkk] at hk
          obtain ⟨σ1, e1, g1⟩ := hk
          simp only []
          rw [bd_of e1]
          exact ⟨σ1, rfl, g1⟩
        | inr y =>
          rw [hkk] at hk
          obtain ⟨σ1, e1, g1⟩ := hk
          simp only []
          rw [bd_of e1]
          exact ⟨σ1, rfl, g1⟩
    rw [h70]
    cases hkk : sKy t isMap d p with
    | inl kq =>
      rw [hkk] at hkey
      rw [sIts_k hkk]
      exact z_KBad.fr Q0.1 hkey
    | inr y =>
      obtain ⟨⟨ks, kj⟩, p1⟩ := y
      obtain ⟨k1, k2, k3, k4⟩ := sKy_bd ht hp hkk
      have kl := k2.2.1
      rw [hkk] at hkey
      obtain ⟨σ1, e1, Q1, P1, R1'⟩ := hkey
      have R1 : RowL 0 (kf_target σ1) (acc ++ cm ++ kj) := R1'
      have T1 : TpR (kf_tape σ1) t := by rw [Q1.1.1]; exact T0
      have L1 : kf_depthLimit σ1 = nI L := by rw [Q1.1.2, Q0.1.2]; exact hL
      rw [e1]
      unfold kk_readParts_b101
      have hit := hv σ1 p1 _ T1 L1 P1 kl R1 (by rw [List.length_append]; omega)
      cases hii : item p1 with
      | inl kq =>
        rw [hii] at hit
        obtain ⟨σ2, e2, f2, g2⟩ := hit
        rw [sIts_v hkk hii, bd_of e2]
        exact ⟨σ2, rfl, (Q0.1.trans Q1.1).trans f2, g2⟩
      | inr vp =>
        obtain ⟨⟨vs, vj⟩, p2⟩ := vp
        obtain ⟨v1, v2, v3⟩ := hvb p1 kl vs vj p2 hii
        have vl := v2.2.1
        rw [hii] at hit
        obtain ⟨σ2, e2, Q2, P2, R2⟩ := hit
        have R2' : RowL 0 (kf_target σ2) (acc ++ cm ++ kj ++ vj) := R2
        rw [bd_of e2]
        simp only [lt]
        rw [if_pos trivial, nI_1]
        have QQ := (Q0.trans Q1).trans Q2
        have r := ih (i + 1) f σ2 p2 (acc ++ cm ++ kj ++ vj) (by omega) (by omega) vl (by rw [QQ.1.1]; exact hT) (by rw [QQ.1.2]; exact hL) P2 R2' (by simp only [List.length_append]; omega)
        rw [decide_eq_false (show ¬ i + 1 = 0 by omega)] at r
        cases hr : sIts t item d isMap m false p2 with
        | inl kq =>
          rw [hr] at r
          rw [sIts_r hkk hii hr]
          exact z_KBad.fr QQ.1 r
        | inr z =>
          obtain ⟨⟨zs, zj⟩, q⟩ := z
          rw [hr] at r
          obtain ⟨σ3, e3, Q3, P3, R3⟩ := r
          rw [sIts_o hkk hii hr, ← ecm]
          refine ⟨σ3, e3, QQ.trans Q3, P3, ?_⟩
          have R3' : RowL 0 (kf_target σ3) (acc ++ cm ++ kj ++ vj ++ (zj ++ [clC isMap])) := R3
          show RowL 0 (kf_target σ3) (acc ++ (cm ++ kj ++ vj ++ zj ++ [clC isMap]))
          simp only [List.append_assoc] at R3' ⊢
          exact R3'
theorem k_box {L d v q : Nat} {item : Nat → Rd ((List Tok × List Nat) × Nat)} {rv : Int32 → KSt → Option (Bool × KSt)} {dep : Int32} {isMap : Bool} (hv : KV t L item (rv dep)) (hvb : IB t item) (hv64 : v < 2 ^ 64) {σ : KSt} {out : List Nat} (hT : TpR (kf_tape σ) t) (hL : kf_depthLimit σ = nI L) (hpl : kf_place σ = nI q) (hq : q ≤ t.length) (hty : kf_type σ = nI (srt isMap)) (hnu : kf_number σ = lN v) (hR : RowL 6000 (kf_target σ) out) (ho : out.length + 20 + 24 * (t.length - q) ≤ 97000) : KOk σ out (mapR (fun y => (y.1.2, y.2)) (sBx t item d isMap v q)) (kk_readParts 6000 rv dep σ) := by
  have hle := hT.2
  have ht := hT.1.2.2
  have h13 : kk_readParts 6000 rv dep σ = kk_readParts_b13 6000 rv dep (bI isMap) σ := by
    unfold kk_readParts
    rw [hty]
    cases isMap with
    | true => rw [if_pos (by decide)]; rfl
    | false => rw [if_neg (by decide)]; rfl
  have h48 : ∀ n, kk_readParts_b48 6000 rv dep (bI isMap) (nI n) σ = bd (rr_put 6000 (nI (opC isMap)) (kf_target σ)) (fun (x6 : RSt) => kk_readParts_L70 6000 rv FU dep (bI isMap) (nI n) (0 : Int32) (ks_target σ x6)) := by
    intro n
    unfold kk_readParts_b48 kk_readParts_b64
    cases isMap with
    | true => rw [if_neg (by decide)]; rfl
    | false => rw [if_pos (by decide)]; rfl
  obtain ⟨n, hn, hpn, hsp⟩ : ∃ n, n ≤ 4001 ∧ kk_readParts_b13 6000 rv dep (bI isMap) σ = kk_readParts_b48 6000 rv dep (bI isMap) (nI n) σ ∧ ((n = v) ∨ (t.length < n ∧ t.length < v)) := by
    unfold kk_readParts_b13
    rw [bd_of hT.sz]
    simp only []
    rw [hnu, isWithin_eq hv64 (by omega)]
    by_cases c : v ≤ t.length
    · rw [decide_eq_true c, if_pos rfl, lN_i, ks_tape_id]
      exact ⟨v, by omega, rfl, Or.inl rfl⟩
    · rw [decide_eq_false c, if_neg (by decide), bd_of hT.sz]
      simp only []
      rw [ks_tape_id, ks_tape_id, nI_1]
      exact ⟨t.length + 1, by omega, rfl, Or.inr ⟨by omega, by omega⟩⟩
  rw [h13, hpn, h48]
  obtain ⟨r1, g1, q1⟩ := rr_putN hR (by omega) (n := opC isMap) (by cases isMap <;> decide) rfl
  rw [bd_of g1]
  have Q1 : KQ σ (ks_target σ r1) := by
    unfold KQ KFr
    simp only [kG_depthLimit_depthLimit, kG_depthLimit_place, kG_depthLimit_faultKind, kG_depthLimit_faultPlace, kG_depthLimit_type, kG_depthLimit_number, kG_depthLimit_tape, kG_depthLimit_target, kG_place_depthLimit, kG_place_place, kG_place_faultKind, kG_place_faultPlace, kG_place_type, kG_place_number, kG_place_tape, kG_place_target, kG_faultKind_depthLimit, kG_faultKind_place, kG_faultKind_faultKind, kG_faultKind_faultPlace, kG_faultKind_type, kG_faultKind_number, kG_faultKind_tape, kG_faultKind_target, kG_faultPlace_depthLimit, kG_faultPlace_place, kG_faultPlace_faultKind, kG_faultPlace_faultPlace, kG_faultPlace_type, kG_faultPlace_number, kG_faultPlace_tape, kG_faultPlace_target, kG_type_depthLimit, kG_type_place, kG_type_faultKind, kG_type_faultPlace, kG_type_type, kG_type_number, kG_type_tape, kG_type_target, kG_number_depthLimit, kG_number_place, kG_number_faultKind, kG_number_faultPlace, kG_number_type, kG_number_number, kG_number_tape, kG_number_target, kG_tape_depthLimit, kG_tape_place, kG_tape_faultKind, kG_tape_faultPlace, kG_tape_type, kG_tape_number, kG_tape_tape, kG_tape_target, kG_target_depthLimit, kG_target_place, kG_target_faultKind, kG_target_faultPlace, kG_target_type, kG_target_number, kG_target_tape, kG_target_target, and_self]
  have r := k_parts_loop (t := t) (d := d) (isMap := isMap) hn hv hvb n 0 FU (ks_target σ r1) q (out ++ [opC isMap]) (by omega) (by show _ < 100000; omega) hq (by simp only [kG_depthLimit_depthLimit, kG_depthLimit_place, kG_depthLimit_faultKind, kG_depthLimit_faultPlace, kG_depthLimit_type, kG_depthLimit_number, kG_depthLimit_tape, kG_depthLimit_target, kG_place_depthLimit, kG_place_place, kG_place_faultKind, kG_place_faultPlace, kG_place_type, kG_place_number, kG_place_tape, kG_place_target, kG_faultKind_depthLimit, kG_faultKind_place, kG_faultKind_faultKind, kG_faultKind_faultPlace, kG_faultKind_type, kG_faultKind_number, kG_faultKind_tape, kG_faultKind_target, kG_faultPlace_depthLimit, kG_faultPlace_place, kG_faultPlace_faultKind, kG_faultPlace_faultPlace, kG_faultPlace_type, kG_faultPlace_number, kG_faultPlace_tape, kG_faultPlace_target, kG_type_depthLimit, kG_type_place, kG_type_faultKind, kG_type_faultPlace, kG_type_type, kG_type_number, kG_type_tape, kG_type_target, kG_number_depthLimit, kG_number_place, kG_number_faultKind, kG_number_faultPlace, kG_number_type, kG_number_number, kG_number_tape, kG_number_target, kG_tape_depthLimit, kG_tape_place, kG_tape_faultKind, kG_tape_faultPlace, kG_tape_type, kG_tape_number, kG_tape_tape, kG_tape_target, kG_target_depthLimit, kG_target_place, kG_target_faultKind, kG_target_faultPlace, kG_target_type, kG_target_number, kG_target_tape, kG_target_target]; exact hT) (by simp only [kG_depthLimit_depthLimit, kG_depthLimit_place, kG_depthLimit_faultKind, kG_depthLimit_faultPlace, kG_depthLimit_type, kG_depthLimit_number, kG_depthLimit_tape, kG_depthLimit_target, kG_place_depthLimit, kG_place_place, kG_place_faultKind, kG_place_faultPlace, kG_place_type, kG_place_number, kG_place_tape, kG_place_target, kG_faultKind_depthLimit, kG_faultKind_place, kG_faultKind_faultKind, kG_faultKind_faultPlace, kG_faultKind_type, kG_faultKind_number, kG_faultKind_tape, kG_faultKind_target, kG_faultPlace_depthLimit, kG_faultPlace_place, kG_faultPlace_faultKind, kG_faultPlace_faultPlace, kG_faultPlace_type, kG_faultPlace_number, kG_faultPlace_tape, kG_faultPlace_target, kG_type_depthLimit, kG_type_place, kG_type_faultKind, kG_type_faultPlace, kG_type_type, kG_type_number, kG_type_tape, kG_type_target, kG_number_depthLimit, kG_number_place, kG_number_faultKind, kG_number_faultPlace, kG_number_type, kG_number_number, kG_number_tape, kG_number_target, kG_tape_depthLimit, kG_tape_place, kG_tape_faultKind, kG_tape_faultPlace, kG_tape_type, kG_tape_number, kG_tape_tape, kG_tape_target, kG_target_depthLimit, kG_target_place, kG_target_faultKind, kG_target_faultPlace, kG_target_type, kG_target_number, kG_target_tape, kG_target_target]; exact hL) (by simp only [kG_depthLimit_depthLimit, kG_depthLimit_place, kG_depthLimit_faultKind, kG_depthLimit_faultPlace, kG_depthLimit_type, kG_depthLimit_number, kG_depthLimit_tape, kG_depthLimit_target, kG_place_depthLimit, kG_place_place, kG_place_faultKind, kG_place_faultPlace, kG_place_type, kG_place_number, kG_place_tape, kG_place_target, kG_faultKind_depthLimit, kG_faultKind_place, kG_faultKind_faultKind, kG_faultKind_faultPlace, kG_faultKind_type, kG_faultKind_number, kG_faultKind_tape, kG_faultKind_target, kG_faultPlace_depthLimit, kG_faultPlace_place, kG_faultPlace_faultKind, kG_faultPlace_faultPlace, kG_faultPlace_type, kG_faultPlace_number, kG_faultPlace_tape, kG_faultPlace_target, kG_type_depthLimit, kG_type_place, kG_type_faultKind, kG_type_faultPlace, kG_type_type, kG_type_number, kG_type_tape, kG_type_target, kG_number_depthLimit, kG_number_place, kG_number_faultKind, kG_number_faultPlace, kG_number_type, kG_number_number, kG_number_tape, kG_number_target, kG_tape_depthLimit, kG_tape_place, kG_tape_faultKind, kG_tape_faultPlace, kG_tape_type, kG_tape_number, kG_tape_tape, kG_tape_target, kG_target_depthLimit, kG_target_place, kG_target_faultKind, kG_target_faultPlace, kG_target_type, kG_target_number, kG_target_tape, kG_target_target]; exact hpl) (by simp only [kG_depthLimit_depthLimit, kG_depthLimit_place, kG_depthLimit_faultKind, kG_depthLimit_faultPlace, kG_depthLimit_type, kG_depthLimit_number, kG_depthLimit_tape, kG_depthLimit_target, kG_place_depthLimit, kG_place_place, kG_place_faultKind, kG_place_faultPlace, kG_place_type, kG_place_number, kG_place_tape, kG_place_target, kG_faultKind_depthLimit, kG_faultKind_place, kG_faultKind_faultKind, kG_faultKind_faultPlace, kG_faultKind_type, kG_faultKind_number, kG_faultKind_tape, kG_faultKind_target, kG_faultPlace_depthLimit, kG_faultPlace_place, kG_faultPlace_faultKind, kG_faultPlace_faultPlace, kG_faultPlace_type, kG_faultPlace_number, kG_faultPlace_tape, kG_faultPlace_target, kG_type_depthLimit, kG_type_place, kG_type_faultKind, kG_type_faultPlace, kG_type_type, kG_type_number, kG_type_tape, kG_type_target, kG_number_depthLimit, kG_number_place, kG_number_faultKind, kG_number_faultPlace, kG_number_type, kG_number_number, kG_number_tape, kG_number_target, kG_tape_depthLimit, kG_tape_place, kG_tape_faultKind, kG_tape_faultPlace, kG_tape_type, kG_tape_number, kG_tape_tape, kG_tape_target, kG_target_depthLimit, kG_target_place, kG_target_faultKind, kG_target_faultPlace, kG_target_type, kG_target_number, kG_target_tape, kG_target_target]; exact q1) (by rw [len_snoc]; omega)
  rw [decide_eq_true (show (0 : Nat) = 0 from rfl)] at r
  rcases hsp with e | ⟨h1, h2⟩
  · subst e
    unfold sBx
    cases hr : sIts t item d isMap n true q with
    | inl kq =>
      rw [hr] at r
      exact KBad.fr Q1.1 r
    | inr y =>
      obtain ⟨⟨ys, yj⟩, q2⟩ := y
      rw [hr] at r
      obtain ⟨σ3, e3, Q3, P3, R3⟩ := r
      refine ⟨σ3, e3, Q1.trans Q3, P3, ?_⟩
      have R3' : RowL 6000 (kf_target σ3) (out ++ [opC isMap] ++ (yj ++ [clC isMap])) := R3
      rw [List.append_assoc] at R3'
      exact R3'
  · obtain ⟨k, e1, e2⟩ := sBx_big ht hvb (d := d) (v1 := v) (v2 := n) (isMap := isMap) hq (by omega) (by omega)
    rw [e2] at r
    rw [e1]
    exact KBad.fr Q1.1 r
theorem z_k_box {L d v q : Nat} {item : Nat → Rd ((List Tok × List Nat) × Nat)} {rv : Int32 → KSt → Option (Bool × KSt)} {dep : Int32} {isMap : Bool} (hv : z_KV t L item (rv dep)) (hvb : IB t item) (hv64 : v < 2 ^ 64) {σ : KSt} {out : List Nat} (hT : TpR (kf_tape σ) t) (hL : kf_depthLimit σ = nI L) (hpl : kf_place σ = nI q) (hq : q ≤ t.length) (hty : kf_type σ = nI (srt isMap)) (hnu : kf_number σ = lN v) (hR : RowL 0 (kf_target σ) out) (ho : out.length + 20 + 24 * (t.length - q) ≤ 97000) : z_KOk σ out (mapR (fun y => (y.1.2, y.2)) (sBx t item d isMap v q)) (kk_readParts 0 rv dep σ) := by
  have hle := hT.2
  have ht := hT.1.2.2
  have h13 : kk_readParts 0 rv dep σ = kk_readParts_b13 0 rv dep (bI isMap) σ := by
    unfold kk_readParts
    rw [hty]
    cases isMap with
    | true => rw [if_pos (by decide)]; rfl
    | false => rw [if_neg (by decide)]; rfl
  have h48 : ∀ n, kk_readParts_b48 0 rv dep (bI isMap) (nI n) σ = bd (rr_put 0 (nI (opC isMap)) (kf_target σ)) (fun (x6 : RSt) => kk_readParts_L70 0 rv FU dep (bI isMap) (nI n) (0 : Int32) (ks_target σ x6)) := by
    intro n
    unfold kk_readParts_b48 kk_readParts_b64
    cases isMap with
    | true => rw [if_neg (by decide)]; rfl
    | false => rw [if_pos (by decide)]; rfl
  obtain ⟨n, hn, hpn, hsp⟩ : ∃ n, n ≤ 4001 ∧ kk_readParts_b13 0 rv dep (bI isMap) σ = kk_readParts_b48 0 rv dep (bI isMap) (nI n) σ ∧ ((n = v) ∨ (t.length < n ∧ t.length < v)) := by
    unfold kk_readParts_b13
    rw [bd_of hT.sz]
    simp only []
    rw [hnu, isWithin_eq hv64 (by omega)]
    by_cases c : v ≤ t.length
    · rw [decide_eq_true c, if_pos rfl, lN_i, ks_tape_id]
      exact ⟨v, by omega, rfl, Or.inl rfl⟩
    · rw [decide_eq_false c, if_neg (by decide), bd_of hT.sz]
      simp only []
      rw [ks_tape_id, ks_tape_id, nI_1]
      exact ⟨t.length + 1, by omega, rfl, Or.inr ⟨by omega, by omega⟩⟩
  rw [h13, hpn, h48]
  obtain ⟨r1, g1, q1⟩ := z_rr_putN hR (by omega) (n := opC isMap) (by cases isMap <;> decide) rfl
  rw [bd_of g1]
  have Q1 : KQ σ (ks_target σ r1) := by
    unfold KQ KFr
    simp only [kG_depthLimit_depthLimit, kG_depthLimit_place, kG_depthLimit_faultKind, kG_depthLimit_faultPlace, kG_depthLimit_type, kG_depthLimit_number, kG_depthLimit_tape, kG_depthLimit_target, kG_place_depthLimit, kG_place_place, kG_place_faultKind, kG_place_faultPlace, kG_place_type, kG_place_number, kG_place_tape, kG_place_target, kG_faultKind_depthLimit, kG_faultKind_place, kG_faultKind_faultKind, kG_faultKind_faultPlace, kG_faultKind_type, kG_faultKind_number, kG_faultKind_tape, kG_faultKind_target, kG_faultPlace_depthLimit, kG_faultPlace_place, kG_faultPlace_faultKind, kG_faultPlace_faultPlace, kG_faultPlace_type, kG_faultPlace_number, kG_faultPlace_tape, kG_faultPlace_target, kG_type_depthLimit, kG_type_place, kG_type_faultKind, kG_type_faultPlace, kG_type_type, kG_type_number, kG_type_tape, kG_type_target, kG_number_depthLimit, kG_number_place, kG_number_faultKind, kG_number_faultPlace, kG_number_type, kG_number_number, kG_number_tape, kG_number_target, kG_tape_depthLimit, kG_tape_place, kG_tape_faultKind, kG_tape_faultPlace, kG_tape_type, kG_tape_number, kG_tape_tape, kG_tape_target, kG_target_depthLimit, kG_target_place, kG_target_faultKind, kG_target_faultPlace, kG_target_type, kG_target_number, kG_target_tape, kG_target_target, and_self]
  have r := z_k_parts_loop (t := t) (d := d) (isMap := isMap) hn hv hvb n 0 FU (ks_target σ r1) q (out ++ [opC isMap]) (by omega) (by show _ < 100000; omega) hq (by simp only [kG_depthLimit_depthLimit, kG_depthLimit_place, kG_depthLimit_faultKind, kG_depthLimit_faultPlace, kG_depthLimit_type, kG_depthLimit_number, kG_depthLimit_tape, kG_depthLimit_target, kG_place_depthLimit, kG_place_place, kG_place_faultKind, kG_place_faultPlace, kG_place_type, kG_place_number, kG_place_tape, kG_place_target, kG_faultKind_depthLimit, kG_faultKind_place, kG_faultKind_faultKind, kG_faultKind_faultPlace, kG_faultKind_type, kG_faultKind_number, kG_faultKind_tape, kG_faultKind_target, kG_faultPlace_depthLimit, kG_faultPlace_place, kG_faultPlace_faultKind, kG_faultPlace_faultPlace, kG_faultPlace_type, kG_faultPlace_number, kG_faultPlace_tape, kG_faultPlace_target, kG_type_depthLimit, kG_type_place, kG_type_faultKind, kG_type_faultPlace, kG_type_type, kG_type_number, kG_type_tape, kG_type_target, kG_number_depthLimit, kG_number_place, kG_number_faultKind, kG_number_faultPlace, kG_number_type, kG_number_number, kG_number_tape, kG_number_target, kG_tape_depthLimit, kG_tape_place, kG_tape_faultKind, kG_tape_faultPlace, kG_tape_type, kG_tape_number, kG_tape_tape, kG_tape_target, kG_target_depthLimit, kG_target_place, kG_target_faultKind, kG_target_faultPlace, kG_target_type, kG_target_number, kG_target_tape, kG_target_target]; exact hT) (by simp only [kG_depthLimit_depthLimit, kG_depthLimit_place, kG_depthLimit_faultKind, kG_depthLimit_faultPlace, kG_depthLimit_type, kG_depthLimit_number, kG_depthLimit_tape, kG_depthLimit_target, kG_place_depthLimit, kG_place_place, kG_place_faultKind, kG_place_faultPlace, kG_place_type, kG_place_number, kG_place_tape, kG_place_target, kG_faultKind_depthLimit, kG_faultKind_place, kG_faultKind_faultKind, kG_faultKind_faultPlace, kG_faultKind_type, kG_faultKind_number, kG_faultKind_tape, kG_faultKind_target, kG_faultPlace_depthLimit, kG_faultPlace_place, kG_faultPlace_faultKind, kG_faultPlace_faultPlace, kG_faultPlace_type, kG_faultPlace_number, kG_faultPlace_tape, kG_faultPlace_target, kG_type_depthLimit, kG_type_place, kG_type_faultKind, kG_type_faultPlace, kG_type_type, kG_type_number, kG_type_tape, kG_type_target, kG_number_depthLimit, kG_number_place, kG_number_faultKind, kG_number_faultPlace, kG_number_type, kG_number_number, kG_number_tape, kG_number_target, kG_tape_depthLimit, kG_tape_place, kG_tape_faultKind, kG_tape_faultPlace, kG_tape_type, kG_tape_number, kG_tape_tape, kG_tape_target, kG_target_depthLimit, kG_target_place, kG_target_faultKind, kG_target_faultPlace, kG_target_type, kG_target_number, kG_target_tape, kG_target_target]; exact hL) (by simp only [kG_depthLimit_depthLimit, kG_depthLimit_place, kG_depthLimit_faultKind, kG_depthLimit_faultPlace, kG_depthLimit_type, kG_depthLimit_number, kG_depthLimit_tape, kG_depthLimit_target, kG_place_depthLimit, kG_place_place, kG_place_faultKind, kG_place_faultPlace, kG_place_type, kG_place_number, kG_place_tape, kG_place_target, kG_faultKind_depthLimit, kG_faultKind_place, kG_faultKind_faultKind, kG_faultKind_faultPlace, kG_faultKind_type, kG_faultKind_number, kG_faultKind_tape, kG_faultKind_target, kG_faultPlace_depthLimit, kG_faultPlace_place, kG_faultPlace_faultKind, kG_faultPlace_faultPlace, kG_faultPlace_type, kG_faultPlace_number, kG_faultPlace_tape, kG_faultPlace_target, kG_type_depthLimit, kG_type_place, kG_type_faultKind, kG_type_faultPlace, kG_type_type, kG_type_number, kG_type_tape, kG_type_target, kG_number_depthLimit, kG_number_place, kG_number_faultKind, kG_number_faultPlace, kG_number_type, kG_number_number, kG_number_tape, kG_number_target, kG_tape_depthLimit, kG_tape_place, kG_tape_faultKind, kG_tape_faultPlace, kG_tape_type, kG_tape_number, kG_tape_tape, kG_tape_target, kG_target_depthLimit, kG_target_place, kG_target_faultKind, kG_target_faultPlace, kG_target_type, kG_target_number, kG_target_tape, kG_target_target]; exact hpl) (by simp only [kG_depthLimit_depthLimit, kG_depthLimit_place, kG_depthLimit_faultKind, kG_depthLimit_faultPlace, kG_depthLimit_type, kG_depthLimit_number, kG_depthLimit_tape, kG_depthLimit_target, kG_place_depthLimit, kG_place_place, kG_place_faultKind, kG_place_faultPlace, kG_place_type, kG_place_number, kG_place_tape, kG_place_target, kG_faultKind_depthLimit, kG_faultKind_place, kG_faultKind_faultKind, kG_faultKind_faultPlace, kG_faultKind_type, kG_faultKind_number, kG_faultKind_tape, kG_faultKind_target, kG_faultPlace_depthLimit, kG_faultPlace_place, kG_faultPlace_faultKind, kG_faultPlace_faultPlace, kG_faultPlace_type, kG_faultPlace_number, kG_faultPlace_tape, kG_faultPlace_target, kG_type_depthLimit, kG_type_place, kG_type_faultKind, kG_type_faultPlace, kG_type_type, kG_type_number, kG_type_tape, kG_type_target, kG_number_depthLimit, kG_number_place, kG_number_faultKind, kG_number_faultPlace, kG_number_type, kG_number_number, kG_number_tape, kG_number_target, kG_tape_depthLimit, kG_tape_place, kG_tape_faultKind, kG_tape_faultPlace, kG_tape_type, kG_tape_number, kG_tape_tape, kG_tape_target, kG_target_depthLimit, kG_target_place, kG_target_faultKind, kG_target_faultPlace, kG_target_type, kG_target_number, kG_target_tape, kG_target_target]; exact q1) (by rw [len_snoc]; omega)
  rw [decide_eq_true (show (0 : Nat) = 0 from rfl)] at r
  rcases hsp with e | ⟨h1, h2⟩
  · subst e
    unfold sBx
    cases hr : sIts t item d isMap n true q with
    | inl kq =>
      rw [hr] at r
      exact z_KBad.fr Q1.1 r
    | inr y =>
      obtain ⟨⟨ys, yj⟩, q2⟩ := y
      rw [hr] at r
      obtain ⟨σ3, e3, Q3, P3, R3⟩ := r
      refine ⟨σ3, e3, Q1.trans Q3, P3, ?_⟩
      have R3' : RowL 0 (kf_target σ3) (out ++ [opC isMap] ++ (yj ++ [clC isMap])) := R3
      rw [List.append_assoc] at R3'
      exact R3'
  · obtain ⟨k, e1, e2⟩ := sBx_big ht hvb (d := d) (v1 := v) (v2 := n) (isMap := isMap) hq (by omega) (by omega)
    rw [e2] at r
    rw [e1]
    exact z_KBad.fr Q1.1 r
theorem k_itemS {L : Nat} (hL40 : L ≤ 40) (ht : ∀ x ∈ t, x < 256) (hle : t.length ≤ 4000) (d n dep : Nat) (hn : d < n) (hdep : dep + d = L) (ih : ∀ d', d = d' + 1 → ∀ (n dep : Nat), d' < n → dep + d' = L → KV t L (sIt t d') (kk_readItem 6000 n (nI dep))) : KV t L (sIt t d) (kk_readItem 6000 n (nI dep)) := by
  intro σ p out hT hL hpl hp hR ho
  obtain ⟨n, rfl⟩ : ∃ g, n = g + 1 := ⟨n - 1, by omega⟩
  show KOk σ out _ (kk_itemOf 6000 (kk_readItem 6000 n) (nI dep) σ)
  unfold kk_itemOf
  have hh := k_head (key := false) hT hpl hp
  simp only [lt]
  cases hd : sHd t false p with
  | inl kq =>
    rw [hd] at hh
    obtain ⟨σ', ex, hf, hk, htg⟩ := hh
    rw [sIt_l (sTk_l hd), bd_of (show kk_readHead 6000 (0 : Int32) σ = _ from ex)]
    simp only []
    rw [if_neg (show ¬ false = true by decide)]
    exact KOk.bad hf hk htg hR (by omega)
  | inr y =>
    obtain ⟨⟨ty, v⟩, q⟩ := y
    obtain ⟨b1, b2, b3, b4, b5, b6, b7, b8, b9⟩ := sHd_bd ht hd
    rw [hd] at hh
    obtain ⟨σ1, ex, Q1, tg1, pl1, ty1, nu1⟩ := hh
    have T1 : TpR (kf_tape σ1) t := by rw [Q1.1.1]; exact hT
    have L1 : kf_depthLimit σ1 = nI L := by rw [Q1.1.2]; exact hL
    have R1 : RowL 6000 (kf_target σ1) out := by rw [tg1]; exact hR
    have pl1' : kf_place σ1 = nI q := pl1
    have nu1' : kf_number σ1 = lN v := nu1
    have ty1' : kf_type σ1 = nI ty := ty1
    rw [bd_of (show kk_readHead 6000 (0 : Int32) σ = _ from ex)]
    simp only [bd_eta]
    rw [if_pos trivial, ty1']
    have tne : ∀ k : Nat, k < 8 → ty ≠ k → ¬ nI ty = nI k := fun k hk hne z => hne ((nI_eq (by omega) (by omega)).mp z)
    have box : ∀ isMap : Bool, ty = srt isMap → KOk σ out (mapR (fun y => (y.1.2, y.2)) (sIt t d p)) (kk_itemOf_b81 6000 (kk_readItem 6000 n) (nI dep) (kf_place σ) σ1) := by
      intro isMap e
      have h45 : ty = 4 ∨ ty = 5 := by cases isMap <;> simp only [e] <;> decide
      unfold kk_itemOf_b81
      rw [L1]
      cases d with
      | zero =>
        rw [if_pos (nI_le (by omega) (by omega)), hpl, bd_eta, sIt_l (sTk_d hd h45)]
        exact KBad.fr Q1.1 (KBad.of R1 (by omega) rfl)
      | succ d' =>
        rw [if_neg (nI_ge (by omega) (by omega)), bd_eta, nI_1]
        have hs := sTk_s (d := d' + 1) hd (by omega) (fun z => by omega)
        rw [e] at hs
        rw [sIt_b hs]
        have r := k_box (d := d') (ih d' rfl n (dep + 1) (by omega) (by omega)) (sIt_bd ht d') b5 T1 L1 pl1' b3 (by rw [ty1', e]) nu1' R1 (by omega)
        cases hr : sBx t (sIt t d') d' isMap v q with
        | inl kq =>
          rw [hr] at r
          exact KBad.fr Q1.1 r
        | inr z =>
          rw [hr] at r
          obtain ⟨σ3, e3, Q3, P3, R3⟩ := r
          exact ⟨σ3, e3, Q1.trans Q3, P3, R3⟩
    by_cases c0 : ty = 0
    · subst c0
      obtain ⟨tg, g1, q1⟩ := k_decimal b5 R1 (by omega)
      rw [if_pos (show nI 0 = (0 : Int32) from rfl), nu1', bd_of g1, sIt_s (sTk_s hd (by decide) (fun z => by omega)) (by show (0 : Nat) ≠ 4; decide) (by show (0 : Nat) ≠ 5; decide)]
      exact KOk.tg Q1 pl1' q1
    rw [if_neg (show ¬ nI ty = (0 : Int32) from tne 0 (by decide) c0)]
    by_cases c1 : ty = 1
    · subst c1
      obtain ⟨tg, g1, q1⟩ := k_negative b5 R1 (by omega)
      rw [if_pos (show nI 1 = (1 : Int32) from rfl), nu1', bd_of g1, sIt_s (sTk_s hd (by decide) (fun z => by omega)) (by show (1 : Nat) ≠ 4; decide) (by show (1 : Nat) ≠ 5; decide)]
      exact KOk.tg Q1 pl1' q1
    rw [if_neg (show ¬ nI ty = (1 : Int32) from tne 1 (by decide) c1), if_neg (show ¬ nI ty = (2 : Int32) from tne 2 (by decide) b7)]
    by_cases c3 : ty = 3
    · subst c3
      rw [if_pos (show nI 3 = (3 : Int32) from rfl)]
      have hx := k_text T1 pl1' b3 nu1' b5 R1 (by omega)
      cases htx : sTx t v q with
      | inl kq =>
        rw [htx] at hx
        rw [sIt_l (sTk_x hd htx)]
        exact KBad.fr Q1.1 hx
      | inr ls =>
        rw [htx] at hx
        obtain ⟨σ2, e2, Q2, p2, r2⟩ := hx
        rw [sIt_s (sTk_t hd htx) (by show (3 : Nat) ≠ 4; decide) (by show (3 : Nat) ≠ 5; decide)]
        exact ⟨σ2, e2, Q1.trans Q2, p2, r2⟩
    rw [if_neg (show ¬ nI ty = (3 : Int32) from tne 3 (by decide) c3)]
    by_cases c4 : ty = 4
    · rw [if_pos (show nI ty = (4 : Int32) by rw [c4]; rfl)]
      exact box false c4
    rw [if_neg (show ¬ nI ty = (4 : Int32) from tne 4 (by decide) c4)]
    by_cases c5 : ty = 5
    · rw [if_pos (show nI ty = (5 : Int32) by rw [c5]; rfl)]
      exact box true c5
    rw [if_neg (show ¬ nI ty = (5 : Int32) from tne 5 (by decide) c5)]
    have c7 : ty = 7 := by omega
    subst c7
    rw [sIt_s (sTk_s hd (by decide) (fun z => by omega)) (by show (7 : Nat) ≠ 4; decide) (by show (7 : Nat) ≠ 5; decide)]
    unfold kk_itemOf_b106
    rw [nu1']
    rcases b6 rfl with e | e | e
    · subst e
      obtain ⟨tg, g1, q1⟩ := putWord_row WD_0 R1 (by omega)
      rw [if_pos (show lN 20 = (20 : Int64) from rfl), bd_of g1]
      exact KOk.tg Q1 pl1' q1
    · subst e
      obtain ⟨tg, g1, q1⟩ := putWord_row WD_1 R1 (by omega)
      rw [if_neg (show ¬ lN 21 = (20 : Int64) by decide), if_pos (show lN 21 = (21 : Int64) from rfl), bd_of g1]
      exact KOk.tg Q1 pl1' q1
    · subst e
      obtain ⟨tg, g1, q1⟩ := putWord_row WD_2 R1 (by omega)
      rw [if_neg (show ¬ lN 22 = (20 : Int64) by decide), if_neg (show ¬ lN 22 = (21 : Int64) by decide), bd_of g1]
      exact KOk.tg Q1 pl1' q1
theorem z_k_itemS {L : Nat} (hL40 : L ≤ 40) (ht : ∀ x ∈ t, x < 256) (hle : t.length ≤ 4000) (d n dep : Nat) (hn : d < n) (hdep : dep + d = L) (ih : ∀ d', d = d' + 1 → ∀ (n dep : Nat), d' < n → dep + d' = L → z_KV t L (sIt t d') (kk_readItem 0 n (nI dep))) : z_KV t L (sIt t d) (kk_readItem 0 n (nI dep)) := by
  intro σ p out hT hL hpl hp hR ho
  obtain ⟨n, rfl⟩ : ∃ g, n = g + 1 := ⟨n - 1, by omega⟩
  show z_KOk σ out _ (kk_itemOf 0 (kk_readItem 0 n) (nI dep) σ)
  unfold kk_itemOf
  have hh := z_k_head (key := false) hT hpl hp
  simp only [lt]
  cases hd : sHd t false p with
  | inl kq =>
    rw [hd] at hh
    obtain ⟨σ', ex, hf, hk, htg⟩ := hh
    rw [sIt_l (sTk_l hd), bd_of (show kk_readHead 0 (0 : Int32) σ = _ from ex)]
    simp only []
    rw [if_neg (show ¬ false = true by decide)]
    exact z_KOk.bad hf hk htg hR (by omega)
  | inr y =>
    obtain ⟨⟨ty, v⟩, q⟩ := y
    obtain ⟨b1, b2, b3, b4, b5, b6, b7, b8, b9⟩ := sHd_bd ht hd
    rw [hd] at hh
    obtain ⟨σ1, ex, Q1, tg1, pl1, ty1, nu1⟩ := hh
    have T1 : TpR (kf_tape σ1) t := by rw [Q1.1.1]; exact hT
    have L1 : kf_depthLimit σ1 = nI L := by rw [Q1.1.2]; exact hL
    have R1 : RowL 0 (kf_target σ1) out := by rw [tg1]; exact hR
    have pl1' : kf_place σ1 = nI q := pl1
    have nu1' : kf_number σ1 = lN v := nu1
    have ty1' : kf_type σ1 = nI ty := ty1
    rw [bd_of (show kk_readHead 0 (0 : Int32) σ = _ from ex)]
    simp only [bd_eta]
    rw [if_pos trivial, ty1']
    have tne : ∀ k : Nat, k < 8 → ty ≠ k → ¬ nI ty = nI k := fun k hk hne z => hne ((nI_eq (by omega) (by omega)).mp z)
    have box : ∀ isMap : Bool, ty = srt isMap → z_KOk σ out (mapR (fun y => (y.1.2, y.2)) (sIt t d p)) (kk_itemOf_b81 0 (kk_readItem 0 n) (nI dep) (kf_place σ) σ1) := by
      intro isMap e
      have h45 : ty = 4 ∨ ty = 5 := by cases isMap <;> simp only [e] <;> decide
      unfold kk_itemOf_b81
      rw [L1]
      cases d with
      | zero =>
        rw [if_pos (nI_le (by omega) (by omega)), hpl, bd_eta, sIt_l (sTk_d hd h45)]
        exact z_KBad.fr Q1.1 (z_KBad.of R1 (by omega) rfl)
      | succ d' =>
        rw [if_neg (nI_ge (by omega) (by omega)), bd_eta, nI_1]
        have hs := sTk_s (d := d' + 1) hd (by omega) (fun z => by omega)
        rw [e] at hs
        rw [sIt_b hs]
        have r := z_k_box (d := d') (ih d' rfl n (dep + 1) (by omega) (by omega)) (sIt_bd ht d') b5 T1 L1 pl1' b3 (by rw [ty1', e]) nu1' R1 (by omega)
        cases hr : sBx t (sIt t d') d' isMap v q with
        | inl kq =>
          rw [hr] at r
          exact z_KBad.fr Q1.1 r
        | inr z =>
          rw [hr] at r
          obtain ⟨σ3, e3, Q3, P3, R3⟩ := r
          exact ⟨σ3, e3, Q1.trans Q3, P3, R3⟩
    by_cases c0 : ty = 0
    · subst c0
      obtain ⟨tg, g1, q1⟩ := z_k_decimal b5 R1 (by omega)
      rw [if_pos (show nI 0 = (0 : Int32) from rfl), nu1', bd_of g1, sIt_s (sTk_s hd (by decide) (fun z => by omega)) (by show (0 : Nat) ≠ 4; decide) (by show (0 : Nat) ≠ 5; decide)]
      exact z_KOk.tg Q1 pl1' q1
    rw [if_neg (show ¬ nI ty = (0 : Int32) from tne 0 (by decide) c0)]
    by_cases c1 : ty = 1
    · subst c1
      obtain ⟨tg, g1, q1⟩ := z_k_negative b5 R1 (by omega)
      rw [if_pos (show nI 1 = (1 : Int32) from rfl), nu1', bd_of g1, sIt_s (sTk_s hd (by decide) (fun z => by omega)) (by show (1 : Nat) ≠ 4; decide) (by show (1 : Nat) ≠ 5; decide)]
      exact z_KOk.tg Q1 pl1' q1
    rw [if_neg (show ¬ nI ty = (1 : Int32) from tne 1 (by decide) c1), if_neg (show ¬ nI ty = (2 : Int32) from tne 2 (by decide) b7)]
    by_cases c3 : ty = 3
    · subst c3
      rw [if_pos (show nI 3 = (3 : Int32) from rfl)]
      have hx := z_k_text T1 pl1' b3 nu1' b5 R1 (by omega)
      cases htx : sTx t v q with
      | inl kq =>
        rw [htx] at hx
        rw [sIt_l (sTk_x hd htx)]
        exact z_KBad.fr Q1.1 hx
      | inr ls =>
        rw [htx] at hx
        obtain ⟨σ2, e2, Q2, p2, r2⟩ := hx
        rw [sIt_s (sTk_t hd htx) (by show (3 : Nat) ≠ 4; decide) (by show (3 : Nat) ≠ 5; decide)]
        exact ⟨σ2, e2, Q1.trans Q2, p2, r2⟩
    rw [if_neg (show ¬ nI ty = (3 : Int32) from tne 3 (by decide) c3)]
    by_cases c4 : ty = 4
    · rw [if_pos (show nI ty = (4 : Int32) by rw [c4]; rfl)]
      exact box false c4
    rw [if_neg (show ¬ nI ty = (4 : Int32) from tne 4 (by decide) c4)]
    by_cases c5 : ty = 5
    · rw [if_pos (show nI ty = (5 : Int32) by rw [c5]; rfl)]
      exact box true c5
    rw [if_neg (show ¬ nI ty = (5 : Int32) from tne 5 (by decide) c5)]
    have c7 : ty = 7 := by omega
    subst c7
    rw [sIt_s (sTk_s hd (by decide) (fun z => by omega)) (by show (7 : Nat) ≠ 4; decide) (by show (7 : Nat) ≠ 5; decide)]
    unfold kk_itemOf_b106
    rw [nu1']
    rcases b6 rfl with e | e | e
    · subst e
      obtain ⟨tg, g1, q1⟩ := z_putWord_row WD_0 R1 (by omega)
      rw [if_pos (show lN 20 = (20 : Int64) from rfl), bd_of g1]
      exact z_KOk.tg Q1 pl1' q1
    · subst e
      obtain ⟨tg, g1, q1⟩ := z_putWord_row WD_1 R1 (by omega)
      rw [if_neg (show ¬ lN 21 = (20 : Int64) by decide), if_pos (show lN 21 = (21 : Int64) from rfl), bd_of g1]
      exact z_KOk.tg Q1 pl1' q1
    · subst e
      obtain ⟨tg, g1, q1⟩ := z_putWord_row WD_2 R1 (by omega)
      rw [if_neg (show ¬ lN 22 = (20 : Int64) by decide), if_neg (show ¬ lN 22 = (21 : Int64) by decide), bd_of g1]
      exact z_KOk.tg Q1 pl1' q1
theorem k_item {L : Nat} (hL40 : L ≤ 40) (ht : ∀ x ∈ t, x < 256) (hle : t.length ≤ 4000) : ∀ (d n dep : Nat), d < n → dep + d = L → KV t L (sIt t d) (kk_readItem 6000 n (nI dep)) := by
  intro d
  induction d with
  | zero => exact fun n dep hn hdep => k_itemS hL40 ht hle 0 n dep hn hdep (fun d hd => by omega)
  | succ d ih => exact fun n dep hn hdep => k_itemS hL40 ht hle (d + 1) n dep hn hdep (fun d' hd' => by
      have e : d' = d := by omega
      subst e
      exact ih)
theorem z_k_item {L : Nat} (hL40 : L ≤ 40) (ht : ∀ x ∈ t, x < 256) (hle : t.length ≤ 4000) : ∀ (d n dep : Nat), d < n → dep + d = L → z_KV t L (sIt t d) (kk_readItem 0 n (nI dep)) := by
  intro d
  induction d with
  | zero => exact fun n dep hn hdep => z_k_itemS hL40 ht hle 0 n dep hn hdep (fun d hd => by omega)
  | succ d ih => exact fun n dep hn hdep => z_k_itemS hL40 ht hle (d + 1) n dep hn hdep (fun d' hd' => by
      have e : d' = d := by omega
      subst e
      exact ih)
end ITK
