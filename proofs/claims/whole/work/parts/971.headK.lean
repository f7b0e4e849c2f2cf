/-! PURE CC: a head, read by the class -/
def KFr (σ σ' : KSt) : Prop := kf_tape σ' = kf_tape σ ∧ kf_depthLimit σ' = kf_depthLimit σ
def KQ (σ σ' : KSt) : Prop := KFr σ σ' ∧ kf_faultKind σ' = kf_faultKind σ ∧ kf_faultPlace σ' = kf_faultPlace σ
theorem KFr.rfl' (σ : KSt) : KFr σ σ := ⟨rfl, rfl⟩
theorem KQ.rfl' (σ : KSt) : KQ σ σ := ⟨KFr.rfl' σ, rfl, rfl⟩
theorem KFr.trans {a b c : KSt} (h : KFr a b) (g : KFr b c) : KFr a c := ⟨g.1.trans h.1, g.2.trans h.2⟩
theorem KQ.trans {a b c : KSt} (h : KQ a b) (g : KQ b c) : KQ a c := ⟨h.1.trans g.1, g.2.1.trans h.2.1, g.2.2.trans h.2.2⟩
/-- a fault of the class -/
def KBad (σ : KSt) (kq : Nat × Nat) (x : Option (Bool × KSt)) : Prop := ∃ σ', x = some (false, σ') ∧ KFr σ σ' ∧ kf_faultKind σ' = nI kq.1 ∧ kf_faultPlace σ' = nI kq.2 ∧ ∃ o, RowL 6000 (kf_target σ') o ∧ o.length ≤ 100000
/-- a fault of the class -/
def z_KBad (σ : KSt) (kq : Nat × Nat) (x : Option (Bool × KSt)) : Prop := ∃ σ', x = some (false, σ') ∧ KFr σ σ' ∧ kf_faultKind σ' = nI kq.1 ∧ kf_faultPlace σ' = nI kq.2 ∧ ∃ o, RowL 0 (kf_target σ') o ∧ o.length ≤ 100000
theorem KBad.fr {σ σ1 : KSt} {kq : Nat × Nat} {x : Option (Bool × KSt)} (g : KFr σ σ1) (h : KBad σ1 kq x) : KBad σ kq x := by
  obtain ⟨σ', e, f, z⟩ := h
  exact ⟨σ', e, g.trans f, z⟩
theorem z_KBad.fr {σ σ1 : KSt} {kq : Nat × Nat} {x : Option (Bool × KSt)} (g : KFr σ σ1) (h : z_KBad σ1 kq x) : z_KBad σ kq x := by
  obtain ⟨σ', e, f, z⟩ := h
  exact ⟨σ', e, g.trans f, z⟩
theorem KBad.of {σ : KSt} {out : List Nat} {k q : Nat} {x : Option (Bool × KSt)} (hR : RowL 6000 (kf_target σ) out) (ho : out.length ≤ 100000) (h : x = some (false, ks_faultPlace (ks_faultKind σ (nI k)) (nI q))) : KBad σ (k, q) x := by
  refine ⟨_, h, ⟨?_, ?_⟩, ?_, ?_, out, ?_, ho⟩
  all_goals (simp only [kG_depthLimit_depthLimit, kG_depthLimit_place, kG_depthLimit_faultKind, kG_depthLimit_faultPlace, kG_depthLimit_type, kG_depthLimit_number, kG_depthLimit_tape, kG_depthLimit_target, kG_place_depthLimit, kG_place_place, kG_place_faultKind, kG_place_faultPlace, kG_place_type, kG_place_number, kG_place_tape, kG_place_target, kG_faultKind_depthLimit, kG_faultKind_place, kG_faultKind_faultKind, kG_faultKind_faultPlace, kG_faultKind_type, kG_faultKind_number, kG_faultKind_tape, kG_faultKind_target, kG_faultPlace_depthLimit, kG_faultPlace_place, kG_faultPlace_faultKind, kG_faultPlace_faultPlace, kG_faultPlace_type, kG_faultPlace_number, kG_faultPlace_tape, kG_faultPlace_target, kG_type_depthLimit, kG_type_place, kG_type_faultKind, kG_type_faultPlace, kG_type_type, kG_type_number, kG_type_tape, kG_type_target, kG_number_depthLimit, kG_number_place, kG_number_faultKind, kG_number_faultPlace, kG_number_type, kG_number_number, kG_number_tape, kG_number_target, kG_tape_depthLimit, kG_tape_place, kG_tape_faultKind, kG_tape_faultPlace, kG_tape_type, kG_tape_number, kG_tape_tape, kG_tape_target, kG_target_depthLimit, kG_target_place, kG_target_faultKind, kG_target_faultPlace, kG_target_type, kG_target_number, kG_target_tape, kG_target_target]; try exact hR)
theorem z_KBad.of {σ : KSt} {out : List Nat} {k q : Nat} {x : Option (Bool × KSt)} (hR : RowL 0 (kf_target σ) out) (ho : out.length ≤ 100000) (h : x = some (false, ks_faultPlace (ks_faultKind σ (nI k)) (nI q))) : z_KBad σ (k, q) x := by
  refine ⟨_, h, ⟨?_, ?_⟩, ?_, ?_, out, ?_, ho⟩
  all_goals (simp only [kG_depthLimit_depthLimit, kG_depthLimit_place, kG_depthLimit_faultKind, kG_depthLimit_faultPlace, kG_depthLimit_type, kG_depthLimit_number, kG_depthLimit_tape, kG_depthLimit_target, kG_place_depthLimit, kG_place_place, kG_place_faultKind, kG_place_faultPlace, kG_place_type, kG_place_number, kG_place_tape, kG_place_target, kG_faultKind_depthLimit, kG_faultKind_place, kG_faultKind_faultKind, kG_faultKind_faultPlace, kG_faultKind_type, kG_faultKind_number, kG_faultKind_tape, kG_faultKind_target, kG_faultPlace_depthLimit, kG_faultPlace_place, kG_faultPlace_faultKind, kG_faultPlace_faultPlace, kG_faultPlace_type, kG_faultPlace_number, kG_faultPlace_tape, kG_faultPlace_target, kG_type_depthLimit, kG_type_place, kG_type_faultKind, kG_type_faultPlace, kG_type_type, kG_type_number, kG_type_tape, kG_type_target, kG_number_depthLimit, kG_number_place, kG_number_faultKind, kG_number_faultPlace, kG_number_type, kG_number_number, kG_number_tape, kG_number_target, kG_tape_depthLimit, kG_tape_place, kG_tape_faultKind, kG_tape_faultPlace, kG_tape_type, kG_tape_number, kG_tape_tape, kG_tape_target, kG_target_depthLimit, kG_target_place, kG_target_faultKind, kG_target_faultPlace, kG_target_type, kG_target_number, kG_target_tape, kG_target_target]; try exact hR)
theorem ks_tape_id (σ : KSt) : ks_tape σ (kf_tape σ) = σ := rfl
theorem ite_some2 {α β : Type} {c : Prop} [Decidable c] (x y : α) (s : β) : (if c then some (x, s) else some (y, s)) = some ((if c then x else y), s) := by split <;> rfl
def FF (ty a1 a2 : Int32) : Int32 :=
  let b102 := if a1 = (31 : Int32) then (6 : Int32) else (0 : Int32)
  let b79 := if ty = (7 : Int32) then (if a1 < (20 : Int32) then (2 : Int32) else (if a1 ≤ (22 : Int32) then b102 else (2 : Int32))) else b102
  let b48 := if ty = (2 : Int32) then (2 : Int32) else (if ty = (6 : Int32) then (2 : Int32) else (if a2 = 0 then b79 else (if ty = (3 : Int32) then b79 else (2 : Int32))))
  let b29 := fun (s0 : Int32) => if a1 ≤ (27 : Int32) then b48 else (if a1 < (31 : Int32) then (1 : Int32) else (if s0 = 0 then b48 else (1 : Int32)))
  if ty = 0 then b29 (1 : Int32) else (if ty = (1 : Int32) then b29 (1 : Int32) else (if ty = (7 : Int32) then b29 (1 : Int32) else b29 (0 : Int32)))
theorem fof_eq (a1 a2 : Int32) (σ : KSt) : kk_faultOfFirst 6000 a1 a2 σ = some (FF (kf_type σ) a1 a2, σ) := by
  unfold kk_faultOfFirst kk_faultOfFirst_b29 kk_faultOfFirst_b48 kk_faultOfFirst_b79 kk_faultOfFirst_b102
  simp only [ite_some2]
  rfl
theorem z_fof_eq (a1 a2 : Int32) (σ : KSt) : kk_faultOfFirst 0 a1 a2 σ = some (FF (kf_type σ) a1 a2, σ) := by
  unfold kk_faultOfFirst kk_faultOfFirst_b29 kk_faultOfFirst_b48 kk_faultOfFirst_b79 kk_faultOfFirst_b102
  simp only [ite_some2]
  rfl
theorem FF_hFt : ∀ ty, ty < 8 → ∀ a, a < 32 → FF (nI ty) (nI a) (bI true) = nI (hFt ty a true) ∧ FF (nI ty) (nI a) (bI false) = nI (hFt ty a false) := by decide +kernel
theorem bb_hNb : ∀ a, a < 28 → eX4_bytesBehind (nI a) = nI (hNb a) := by decide +kernel
theorem hFt_0 {ty a : Nat} {key : Bool} (h : hFt ty a key = 0) (ha : a < 32) : a < 28 := by
  unfold hFt at h
  split at h
  · exact absurd h (by decide)
  split at h
  · exact absurd h (by decide)
  split at h
  · exact absurd h (by decide)
  · rename_i c1 c2 c3
    rcases Nat.lt_or_ge a 28 with z | z
    · exact z
    · exfalso
      exact c1 ⟨by omega, Or.inl (by omega)⟩
theorem shl8 {v b : Nat} (hb : b < 256) (h : v * 256 + b < 2 ^ 64) : (lN v <<< (Int32.toInt64 (8 : Int32) &&& 63)) ||| Int32.toInt64 (nI b) = lN (v * 256 + b) := by
  have h1 : v * 256 < 2 ^ 64 := Nat.lt_of_le_of_lt (Nat.le_add_right _ _) h
  have h2 : b < 2 ^ 64 := Nat.lt_trans hb (by decide)
  have h3 : b < 2 ^ 31 := Nat.lt_trans hb (by decide)
  have e1 : lN v <<< (Int32.toInt64 (8 : Int32) &&& 63) = lN (v * 256) := wb_shl v (k := 8) (by decide)
  have e2 : Int32.toInt64 (nI b) = lN b := nI_l h3
  have e3 : 2 ^ 8 * v + b = 2 ^ 8 * v ||| b := Nat.two_pow_add_eq_or_of_lt hb v
  have e4 : v * 256 = 2 ^ 8 * v := Nat.mul_comm _ _
  rw [e1, e2, wb_or h1 h2, e4, e3]
section HK
variable {t : List Nat} {σ : KSt} {p : Nat}
theorem num_loop (hT : TpR (kf_tape σ) t) (hpl : kf_place σ = nI p) {n : Nat} (hn : n ≤ 8) (hpn : p + n < t.length) : ∀ (m k f : Nat), k + m = n → m < f → kk_numberBehind_L5 6000 f (nI n) (lN (bv t (p + 1) k)) (nI (k + 1)) σ = some (lN (bv t (p + 1) n), σ) := by
  have hle := hT.2
  have ht := hT.1.2.2
  intro m
  induction m with
  | zero =>
    intro k f hk hf
    obtain ⟨f, rfl⟩ : ∃ g, f = g + 1 := ⟨f - 1, by omega⟩
    show kk_numberBehind_b5 6000 _ _ _ _ σ = _
    unfold kk_numberBehind_b5
    rw [if_pos (nI_lt (by omega) (by omega)), show k = n by omega]
  | succ m ih =>
    intro k f hk hf
    obtain ⟨f, rfl⟩ : ∃ g, f = g + 1 := ⟨f - 1, by omega⟩
    have hb := getD_lt ht (p + 1 + k)
    have hv := bv_lt ht (p + 1) (k + 1)
    have h64 : 256 ^ (k + 1) ≤ 2 ^ 64 := Nat.le_trans (Nat.pow_le_pow_right (by decide) (show k + 1 ≤ 8 by omega)) (by decide)
    have e : bv t (p + 1) (k + 1) = bv t (p + 1) k * 256 + t.getD (p + 1 + k) 0 := rfl
    show kk_numberBehind_b5 6000 (kk_numberBehind_L5 6000 f) _ _ _ σ = _
    unfold kk_numberBehind_b5
    rw [if_neg (nI_nlt (by omega) (by omega)), hpl, nI_add, bd_of (hT.at (by omega)), gL_in (by omega)]
    simp only [lt]
    rw [ks_tape_id, show p + (k + 1) = p + 1 + k by omega, shl8 hb (by rw [← e]; omega), ← e, nI_1]
    exact ih (k + 1) f (by omega) (by omega)
theorem z_num_loop (hT : TpR (kf_tape σ) t) (hpl : kf_place σ = nI p) {n : Nat} (hn : n ≤ 8) (hpn : p + n < t.length) : ∀ (m k f : Nat), k + m = n → m < f → kk_numberBehind_L5 0 f (nI n) (lN (bv t (p + 1) k)) (nI (k + 1)) σ = some (lN (bv t (p + 1) n), σ) := by
  have hle := hT.2
  have ht := hT.1.2.2
  intro m
  induction m with
  | zero =>
    intro k f hk hf
    obtain ⟨f, rfl⟩ : ∃ g, f = g + 1 := ⟨f - 1, by omega⟩
    show kk_numberBehind_b5 0 _ _ _ _ σ = _
    unfold kk_numberBehind_b5
    rw [if_pos (nI_lt (by omega) (by omega)), show k = n by omega]
  | succ m ih =>
    intro k f hk hf
    obtain ⟨f, rfl⟩ : ∃ g, f = g + 1 := ⟨f - 1, by omega⟩
    have hb := getD_lt ht (p + 1 + k)
    have hv := bv_lt ht (p + 1) (k + 1)
    have h64 : 256 ^ (k + 1) ≤ 2 ^ 64 := Nat.le_trans (Nat.pow_le_pow_right (by decide) (show k + 1 ≤ 8 by omega)) (by decide)
    have e : bv t (p + 1) (k + 1) = bv t (p + 1) k * 256 + t.getD (p + 1 + k) 0 := rfl
    show kk_numberBehind_b5 0 (kk_numberBehind_L5 0 f) _ _ _ σ = _
    unfold kk_numberBehind_b5
    rw [if_neg (nI_nlt (by omega) (by omega)), hpl, nI_add, bd_of (hT.at (by omega)), gL_in (by omega)]
    simp only [lt]
    rw [ks_tape_id, show p + (k + 1) = p + 1 + k by omega, shl8 hb (by rw [← e]; omega), ← e, nI_1]
    exact ih (k + 1) f (by omega) (by omega)
theorem k_head {key : Bool} (hT : TpR (kf_tape σ) t) (hpl : kf_place σ = nI p) (hp : p ≤ t.length) : match sHd t key p with
    | .inl kq => ∃ σ', kk_readHead 6000 (bI key) σ = some (false, σ') ∧ KFr σ σ' ∧ (kf_faultKind σ' = nI kq.1 ∧ kf_faultPlace σ' = nI kq.2) ∧ kf_target σ' = kf_target σ
    | .inr y => ∃ σ', kk_readHead 6000 (bI key) σ = some (true, σ') ∧ KQ σ σ' ∧ kf_target σ' = kf_target σ ∧ kf_place σ' = nI y.2 ∧ kf_type σ' = nI y.1.1 ∧ kf_number σ' = lN y.1.2 := by
  have hle := hT.2
  have ht := hT.1.2.2
  have hb := getD_lt ht p
  unfold kk_readHead sHd
  rw [hpl, bd_of (hT.at (by omega))]
  simp only []
  by_cases c0 : t.length ≤ p
  · rw [gL_out c0, if_pos c0, if_pos rfl, bd_of hT.sz]
    simp only []
    rw [ks_tape_id]
    refine ⟨_, rfl, ⟨?_, ?_⟩, ⟨?_, ?_⟩, ?_⟩
    all_goals simp only [kG_depthLimit_depthLimit, kG_depthLimit_place, kG_depthLimit_faultKind, kG_depthLimit_faultPlace, kG_depthLimit_type, kG_depthLimit_number, kG_depthLimit_tape, kG_depthLimit_target, kG_place_depthLimit, kG_place_place, kG_place_faultKind, kG_place_faultPlace, kG_place_type, kG_place_number, kG_place_tape, kG_place_target, kG_faultKind_depthLimit, kG_faultKind_place, kG_faultKind_faultKind, kG_faultKind_faultPlace, kG_faultKind_type, kG_faultKind_number, kG_faultKind_tape, kG_faultKind_target, kG_faultPlace_depthLimit, kG_faultPlace_place, kG_faultPlace_faultKind, kG_faultPlace_faultPlace, kG_faultPlace_type, kG_faultPlace_number, kG_faultPlace_tape, kG_faultPlace_target, kG_type_depthLimit, kG_type_place, kG_type_faultKind, kG_type_faultPlace, kG_type_type, kG_type_number, kG_type_tape, kG_type_target, kG_number_depthLimit, kG_number_place, kG_number_faultKind, kG_number_faultPlace, kG_number_type, kG_number_number, kG_number_tape, kG_number_target, kG_tape_depthLimit, kG_tape_place, kG_tape_faultKind, kG_tape_faultPlace, kG_tape_type, kG_tape_number, kG_tape_tape, kG_tape_target, kG_target_depthLimit, kG_target_place, kG_target_faultKind, kG_target_faultPlace, kG_target_type, kG_target_number, kG_target_tape, kG_target_target]
    rfl
  rw [gL_in (by omega), if_neg c0, if_neg (nI_m1 (by omega))]
  obtain ⟨ty, ety⟩ : ∃ ty, ty = t.getD p 0 / 32 := ⟨_, rfl⟩
  obtain ⟨a, ea⟩ : ∃ a, a = t.getD p 0 % 32 := ⟨_, rfl⟩
  rw [← ety, ← ea]
  simp only [lt]
  rw [show nI (t.getD p 0) &&& (31 : Int32) = nI a by rw [pk_andN (m := 31) (by omega) 5 (by decide), ea], show nI (t.getD p 0) >>> ((5 : Int32) &&& 31) = nI ty by rw [pk_shrN (by omega) _ 5 (by decide), ety], ks_tape_id, fof_eq, bd_of rfl]
  simp only []
  obtain ⟨σ1, e1⟩ : ∃ σ1, σ1 = ks_type σ (nI ty) := ⟨_, rfl⟩
  have Q1 : KQ σ σ1 := by rw [e1]; unfold KQ KFr; simp only [kG_depthLimit_depthLimit, kG_depthLimit_place, kG_depthLimit_faultKind, kG_depthLimit_faultPlace, kG_depthLimit_type, kG_depthLimit_number, kG_depthLimit_tape, kG_depthLimit_target, kG_place_depthLimit, kG_place_place, kG_place_faultKind, kG_place_faultPlace, kG_place_type, kG_place_number, kG_place_tape, kG_place_target, kG_faultKind_depthLimit, kG_faultKind_place, kG_faultKind_faultKind, kG_faultKind_faultPlace, kG_faultKind_type, kG_faultKind_number, kG_faultKind_tape, kG_faultKind_target, kG_faultPlace_depthLimit, kG_faultPlace_place, kG_faultPlace_faultKind, kG_faultPlace_faultPlace, kG_faultPlace_type, kG_faultPlace_number, kG_faultPlace_tape, kG_faultPlace_target, kG_type_depthLimit, kG_type_place, kG_type_faultKind, kG_type_faultPlace, kG_type_type, kG_type_number, kG_type_tape, kG_type_target, kG_number_depthLimit, kG_number_place, kG_number_faultKind, kG_number_faultPlace, kG_number_type, kG_number_number, kG_number_tape, kG_number_target, kG_tape_depthLimit, kG_tape_place, kG_tape_faultKind, kG_tape_faultPlace, kG_tape_type, kG_tape_number, kG_tape_tape, kG_tape_target, kG_target_depthLimit, kG_target_place, kG_target_faultKind, kG_target_faultPlace, kG_target_type, kG_target_number, kG_target_tape, kG_target_target, and_self]
  have G1 : kf_target σ1 = kf_target σ := by rw [e1]; simp only [kG_depthLimit_depthLimit, kG_depthLimit_place, kG_depthLimit_faultKind, kG_depthLimit_faultPlace, kG_depthLimit_type, kG_depthLimit_number, kG_depthLimit_tape, kG_depthLimit_target, kG_place_depthLimit, kG_place_place, kG_place_faultKind, kG_place_faultPlace, kG_place_type, kG_place_number, kG_place_tape, kG_place_target, kG_faultKind_depthLimit, kG_faultKind_place, kG_faultKind_faultKind, kG_faultKind_faultPlace, kG_faultKind_type, kG_faultKind_number, kG_faultKind_tape, kG_faultKind_target, kG_faultPlace_depthLimit, kG_faultPlace_place, kG_faultPlace_faultKind, kG_faultPlace_faultPlace, kG_faultPlace_type, kG_faultPlace_number, kG_faultPlace_tape, kG_faultPlace_target, kG_type_depthLimit, kG_type_place, kG_type_faultKind, kG_type_faultPlace, kG_type_type, kG_type_number, kG_type_tape, kG_type_target, kG_number_depthLimit, kG_number_place, kG_number_faultKind, kG_number_faultPlace, kG_number_type, kG_number_number, kG_number_tape, kG_number_target, kG_tape_depthLimit, kG_tape_place, kG_tape_faultKind, kG_tape_faultPlace, kG_tape_type, kG_tape_number, kG_tape_tape, kG_tape_target, kG_target_depthLimit, kG_target_place, kG_target_faultKind, kG_target_faultPlace, kG_target_type, kG_target_number, kG_target_tape, kG_target_target]
  have P1 : kf_place σ1 = nI p := by rw [e1]; simp only [kG_depthLimit_depthLimit, kG_depthLimit_place, kG_depthLimit_faultKind, kG_depthLimit_faultPlace, kG_depthLimit_type, kG_depthLimit_number, kG_depthLimit_tape, kG_depthLimit_target, kG_place_depthLimit, kG_place_place, kG_place_faultKind, kG_place_faultPlace, kG_place_type, kG_place_number, kG_place_tape, kG_place_target, kG_faultKind_depthLimit, kG_faultKind_place, kG_faultKind_faultKind, kG_faultKind_faultPlace, kG_faultKind_type, kG_faultKind_number, kG_faultKind_tape, kG_faultKind_target, kG_faultPlace_depthLimit, kG_faultPlace_place, kG_faultPlace_faultKind, kG_faultPlace_faultPlace, kG_faultPlace_type, kG_faultPlace_number, kG_faultPlace_tape, kG_faultPlace_target, kG_type_depthLimit, kG_type_place, kG_type_faultKind, kG_type_faultPlace, kG_type_type, kG_type_number, kG_type_tape, kG_type_target, kG_number_depthLimit, kG_number_place, kG_number_faultKind, kG_number_faultPlace, kG_number_type, kG_number_number, kG_number_tape, kG_number_target, kG_tape_depthLimit, kG_tape_place, kG_tape_faultKind, kG_tape_faultPlace, kG_tape_type, kG_tape_number, kG_tape_tape, kG_tape_target, kG_target_depthLimit, kG_target_place, kG_target_faultKind, kG_target_faultPlace, kG_target_type, kG_target_number, kG_target_tape, kG_target_target]; exact hpl
  have Y1 : kf_type σ1 = nI ty := by rw [e1]; simp only [kG_depthLimit_depthLimit, kG_depthLimit_place, kG_depthLimit_faultKind, kG_depthLimit_faultPlace, kG_depthLimit_type, kG_depthLimit_number, kG_depthLimit_tape, kG_depthLimit_target, kG_place_depthLimit, kG_place_place, kG_place_faultKind, kG_place_faultPlace, kG_place_type, kG_place_number, kG_place_tape, kG_place_target, kG_faultKind_depthLimit, kG_faultKind_place, kG_faultKind_faultKind, kG_faultKind_faultPlace, kG_faultKind_type, kG_faultKind_number, kG_faultKind_tape, kG_faultKind_target, kG_faultPlace_depthLimit, kG_faultPlace_place, kG_faultPlace_faultKind, kG_faultPlace_faultPlace, kG_faultPlace_type, kG_faultPlace_number, kG_faultPlace_tape, kG_faultPlace_target, kG_type_depthLimit, kG_type_place, kG_type_faultKind, kG_type_faultPlace, kG_type_type, kG_type_number, kG_type_tape, kG_type_target, kG_number_depthLimit, kG_number_place, kG_number_faultKind, kG_number_faultPlace, kG_number_type, kG_number_number, kG_number_tape, kG_number_target, kG_tape_depthLimit, kG_tape_place, kG_tape_faultKind, kG_tape_faultPlace, kG_tape_type, kG_tape_number, kG_tape_tape, kG_tape_target, kG_target_depthLimit, kG_target_place, kG_target_faultKind, kG_target_faultPlace, kG_target_type, kG_target_number, kG_target_tape, kG_target_target]
  have T1 : TpR (kf_tape σ1) t := by rw [Q1.1.1]; exact hT
  rw [← e1, Y1]
  have hFF : FF (nI ty) (nI a) (bI key) = nI (hFt ty a key) := by
    cases key with
    | true => exact (FF_hFt ty (by omega) a (by omega)).1
    | false => exact (FF_hFt ty (by omega) a (by omega)).2
  have hft : hFt ty a key ≤ 6 := by
    unfold hFt
    repeat' split
    all_goals omega
  have bad : ∀ (k q : Int32) (x : Option (Bool × KSt)), x = some (false, ks_faultPlace (ks_faultKind σ1 k) q) → ∃ σ', x = some (false, σ') ∧ KFr σ σ' ∧ (kf_faultKind σ' = k ∧ kf_faultPlace σ' = q) ∧ kf_target σ' = kf_target σ := by
    intro k q x hx
    refine ⟨_, hx, Q1.1.trans ⟨?_, ?_⟩, ⟨?_, ?_⟩, ?_⟩
    all_goals simp only [kG_depthLimit_depthLimit, kG_depthLimit_place, kG_depthLimit_faultKind, kG_depthLimit_faultPlace, kG_depthLimit_type, kG_depthLimit_number, kG_depthLimit_tape, kG_depthLimit_target, kG_place_depthLimit, kG_place_place, kG_place_faultKind, kG_place_faultPlace, kG_place_type, kG_place_number, kG_place_tape, kG_place_target, kG_faultKind_depthLimit, kG_faultKind_place, kG_faultKind_faultKind, kG_faultKind_faultPlace, kG_faultKind_type, kG_faultKind_number, kG_faultKind_tape, kG_faultKind_target, kG_faultPlace_depthLimit, kG_faultPlace_place, kG_faultPlace_faultKind, kG_faultPlace_faultPlace, kG_faultPlace_type, kG_faultPlace_number, kG_faultPlace_tape, kG_faultPlace_target, kG_type_depthLimit, kG_type_place, kG_type_faultKind, kG_type_faultPlace, kG_type_type, kG_type_number, kG_type_tape, kG_type_target, kG_number_depthLimit, kG_number_place, kG_number_faultKind, kG_number_faultPlace, kG_number_type, kG_number_number, kG_number_tape, kG_number_target, kG_tape_depthLimit, kG_tape_place, kG_tape_faultKind, kG_tape_faultPlace, kG_tape_type, kG_tape_number, kG_tape_tape, kG_tape_target, kG_target_depthLimit, kG_target_place, kG_target_faultKind, kG_target_faultPlace, kG_target_type, kG_target_number, kG_target_tape, kG_target_target]
    exact G1
  rw [hFF]
  by_cases c1 : hFt ty a key = 0
  · have ha := hFt_0 c1 (by omega)
    rw [if_neg (fun z => z c1), c1, if_pos (show nI 0 = (0 : Int32) from rfl), bb_hNb a ha, bd_of T1.sz]
    have h8 := hNb_le a
    simp only []
    rw [P1, ks_tape_id, pk_sub (by omega)]
    by_cases c2 : t.length - p ≤ hNb a
    · rw [if_pos c2, if_neg (nI_nlt c2 (by omega)), bd_of T1.sz]
      simp only []
      rw [ks_tape_id]
      exact bad 1 (nI t.length) _ rfl
    rw [if_neg c2, if_pos (nI_lt (by omega) (by omega))]
    have done : ∀ (v n : Nat), n ≤ 8 → ∃ σ', kk_readHead_b149 6000 (nI n) (ks_number σ1 (lN v)) = some (true, σ') ∧ KQ σ σ' ∧ kf_target σ' = kf_target σ ∧ kf_place σ' = nI (p + 1 + n) ∧ kf_type σ' = nI ty ∧ kf_number σ' = lN v := by
      intro v n hn
      unfold kk_readHead_b149
      refine ⟨_, rfl, Q1.trans ?_, ?_, ?_, ?_, ?_⟩
      · unfold KQ KFr
        simp only [kG_depthLimit_depthLimit, kG_depthLimit_place, kG_depthLimit_faultKind, kG_depthLimit_faultPlace, kG_depthLimit_type, kG_depthLimit_number, kG_depthLimit_tape, kG_depthLimit_target, kG_place_depthLimit, kG_place_place, kG_place_faultKind, kG_place_faultPlace, kG_place_type, kG_place_number, kG_place_tape, kG_place_target, kG_faultKind_depthLimit, kG_faultKind_place, kG_faultKind_faultKind, kG_faultKind_faultPlace, kG_faultKind_type, kG_faultKind_number, kG_faultKind_tape, kG_faultKind_target, kG_faultPlace_depthLimit, kG_faultPlace_place, kG_faultPlace_faultKind, kG_faultPlace_faultPlace, kG_faultPlace_type, kG_faultPlace_number, kG_faultPlace_tape, kG_faultPlace_target, kG_type_depthLimit, kG_type_place, kG_type_faultKind, kG_type_faultPlace, kG_type_type, kG_type_number, kG_type_tape, kG_type_target, kG_number_depthLimit, kG_number_place, kG_number_faultKind, kG_number_faultPlace, kG_number_type, kG_number_number, kG_number_tape, kG_number_target, kG_tape_depthLimit, kG_tape_place, kG_tape_faultKind, kG_tape_faultPlace, kG_tape_type, kG_tape_number, kG_tape_tape, kG_tape_target, kG_target_depthLimit, kG_target_place, kG_target_faultKind, kG_target_faultPlace, kG_target_type, kG_target_number, kG_target_tape, kG_target_target, and_self]
      · simp only [kG_depthLimit_depthLimit, kG_depthLimit_place, kG_depthLimit_faultKind, kG_depthLimit_faultPlace, kG_depthLimit_type, kG_depthLimit_number, kG_depthLimit_tape, kG_depthLimit_target, kG_place_depthLimit, kG_place_place, kG_place_faultKind, kG_place_faultPlace, kG_place_type, kG_place_number, kG_place_tape, kG_place_target, kG_faultKind_depthLimit, kG_faultKind_place, kG_faultKind_faultKind, kG_faultKind_faultPlace, kG_faultKind_type, kG_faultKind_number, kG_faultKind_tape, kG_faultKind_target, kG_faultPlace_depthLimit, kG_faultPlace_place, kG_faultPlace_faultKind, kG_faultPlace_faultPlace, kG_faultPlace_type, kG_faultPlace_number, kG_faultPlace_tape, kG_faultPlace_target, kG_type_depthLimit, kG_type_place, kG_type_faultKind, kG_type_faultPlace, kG_type_type, kG_type_number, kG_type_tape, kG_type_target, kG_number_depthLimit, kG_number_place, kG_number_faultKind, kG_number_faultPlace, kG_number_type, kG_number_number, kG_number_tape, kG_number_target, kG_tape_depthLimit, kG_tape_place, kG_tape_faultKind, kG_tape_faultPlace, kG_tape_type, kG_tape_number, kG_tape_tape, kG_tape_target, kG_target_depthLimit, kG_target_place, kG_target_faultKind, kG_target_faultPlace, kG_target_type, kG_target_number, kG_target_tape, kG_target_target]; exact G1
      · simp only [kG_depthLimit_depthLimit, kG_depthLimit_place, kG_depthLimit_faultKind, kG_depthLimit_faultPlace, kG_depthLimit_type, kG_depthLimit_number, kG_depthLimit_tape, kG_depthLimit_target, kG_place_depthLimit, kG_place_place, kG_place_faultKind, kG_place_faultPlace, kG_place_type, kG_place_number, kG_place_tape, kG_place_target, kG_faultKind_depthLimit, kG_faultKind_place, kG_faultKind_faultKind, kG_faultKind_faultPlace, kG_faultKind_type, kG_faultKind_number, kG_faultKind_tape, kG_faultKind_target, kG_faultPlace_depthLimit, kG_faultPlace_place, kG_faultPlace_faultKind, kG_faultPlace_faultPlace, kG_faultPlace_type, kG_faultPlace_number, kG_faultPlace_tape, kG_faultPlace_target, kG_type_depthLimit, kG_type_place, kG_type_faultKind, kG_type_faultPlace, kG_type_type, kG_type_number, kG_type_tape, kG_type_target, kG_number_depthLimit, kG_number_place, kG_number_faultKind, kG_number_faultPlace, kG_number_type, kG_number_number, kG_number_tape, kG_number_target, kG_tape_depthLimit, kG_tape_place, kG_tape_faultKind, kG_tape_faultPlace, kG_tape_type, kG_tape_number, kG_tape_tape, kG_tape_target, kG_target_depthLimit, kG_target_place, kG_target_faultKind, kG_target_faultPlace, kG_target_type, kG_target_number, kG_target_tape, kG_target_target]
        rw [P1, show (1 : Int32) + nI n = nI (1 + n) from nI_add 1 n, nI_add, Nat.add_assoc]
      · simp only [kG_depthLimit_depthLimit, kG_depthLimit_place, kG_depthLimit_faultKind, kG_depthLimit_faultPlace, kG_depthLimit_type, kG_depthLimit_number, kG_depthLimit_tape, kG_depthLimit_target, kG_place_depthLimit, kG_place_place, kG_place_faultKind, kG_place_faultPlace, kG_place_type, kG_place_number, kG_place_tape, kG_place_target, kG_faultKind_depthLimit, kG_faultKind_place, kG_faultKind_faultKind, kG_faultKind_faultPlace, kG_faultKind_type, kG_faultKind_number, kG_faultKind_tape, kG_faultKind_target, kG_faultPlace_depthLimit, kG_faultPlace_place, kG_faultPlace_faultKind, kG_faultPlace_faultPlace, kG_faultPlace_type, kG_faultPlace_number, kG_faultPlace_tape, kG_faultPlace_target, kG_type_depthLimit, kG_type_place, kG_type_faultKind, kG_type_faultPlace, kG_type_type, kG_type_number, kG_type_tape, kG_type_target, kG_number_depthLimit, kG_number_place, kG_number_faultKind, kG_number_faultPlace, kG_number_type, kG_number_number, kG_number_tape, kG_number_target, kG_tape_depthLimit, kG_tape_place, kG_tape_faultKind, kG_tape_faultPlace, kG_tape_type, kG_tape_number, kG_tape_tape, kG_tape_target, kG_target_depthLimit, kG_target_place, kG_target_faultKind, kG_target_faultPlace, kG_target_type, kG_target_number, kG_target_tape, kG_target_target]; exact Y1
      · simp only [kG_depthLimit_depthLimit, kG_depthLimit_place, kG_depthLimit_faultKind, kG_depthLimit_faultPlace, kG_depthLimit_type, kG_depthLimit_number, kG_depthLimit_tape, kG_depthLimit_target, kG_place_depthLimit, kG_place_place, kG_place_faultKind, kG_place_faultPlace, kG_place_type, kG_place_number, kG_place_tape, kG_place_target, kG_faultKind_depthLimit, kG_faultKind_place, kG_faultKind_faultKind, kG_faultKind_faultPlace, kG_faultKind_type, kG_faultKind_number, kG_faultKind_tape, kG_faultKind_target, kG_faultPlace_depthLimit, kG_faultPlace_place, kG_faultPlace_faultKind, kG_faultPlace_faultPlace, kG_faultPlace_type, kG_faultPlace_number, kG_faultPlace_tape, kG_faultPlace_target, kG_type_depthLimit, kG_type_place, kG_type_faultKind, kG_type_faultPlace, kG_type_type, kG_type_number, kG_type_tape, kG_type_target, kG_number_depthLimit, kG_number_place, kG_number_faultKind, kG_number_faultPlace, kG_number_type, kG_number_number, kG_number_tape, kG_number_target, kG_tape_depthLimit, kG_tape_place, kG_tape_faultKind, kG_tape_faultPlace, kG_tape_type, kG_tape_number, kG_tape_tape, kG_tape_target, kG_target_depthLimit, kG_target_place, kG_target_faultKind, kG_target_faultPlace, kG_target_type, kG_target_number, kG_target_tape, kG_target_target]
    unfold kk_readHead_b119
    by_cases c3 : a < 24
    · have e0 : hNb a = 0 := by unfold hNb; rw [if_pos c3]
      rw [if_pos c3, e0, if_pos (show nI 0 = (0 : Int32) from rfl), if_pos (show nI 0 ≤ (0 : Int32) by decide), nI_l (by omega)]
      exact done a 0 (by decide)
    · have hpos : 1 ≤ hNb a := by
        unfold hNb
        rw [if_neg c3]
        repeat' split
        all_goals omega
      rw [if_neg c3, if_neg (nI_ne0 (by omega) (by omega)), bd_of (show kk_numberBehind 6000 (nI (hNb a)) σ1 = some (lN (bv t (p + 1) (hNb a)), σ1) from num_loop T1 P1 h8 (by omega) (hNb a) 0 FU (by omega) (by show _ < 100000; omega))]
      simp only []
      have hv := bv_lt ht (p + 1) (hNb a)
      obtain ⟨v, ev⟩ : ∃ v, v = bv t (p + 1) (hNb a) := ⟨_, rfl⟩
      rw [← ev] at hv ⊢
      have hv64 : v < 2 ^ 64 := Nat.lt_of_lt_of_le hv (Nat.le_trans (Nat.pow_le_pow_right (by decide) h8) (by decide))
      rw [if_neg (nI_np hpos (by omega)), shortestInfo_eq hv64]
      have hiff : inf v = a ↔ nb v = hNb a := by
        have q : a = 24 ∨ a = 25 ∨ a = 26 ∨ a = 27 := by omega
        unfold inf nb
        rcases q with rfl | rfl | rfl | rfl
        · have hh : v < 256 := hv
          show _ ↔ _ = 1
          repeat' split
          all_goals omega
        · have hh : v < 65536 := hv
          show _ ↔ _ = 2
          repeat' split
          all_goals omega
        · have hh : v < 4294967296 := hv
          show _ ↔ _ = 4
          repeat' split
          all_goals omega
        · show _ ↔ _ = 8
          repeat' split
          all_goals omega
      have hiv := inf_lt v
      by_cases c4 : nb v = hNb a
      · rw [if_pos c4, if_pos (show nI (inf v) = nI a by rw [hiff.mpr c4])]
        exact done v (hNb a) h8
      · rw [if_neg c4, if_neg (fun z => c4 (hiff.mp ((nI_eq (by omega) (by omega)).mp z)))]
        have := bad 6 (nI p) (some (false, ks_faultPlace (ks_faultKind (ks_number σ1 (lN v)) 6) (nI p)))
        rw [show kf_place σ1 = nI p from P1]
        refine ⟨_, rfl, Q1.1.trans ⟨?_, ?_⟩, ⟨?_, ?_⟩, ?_⟩
        all_goals simp only [kG_depthLimit_depthLimit, kG_depthLimit_place, kG_depthLimit_faultKind, kG_depthLimit_faultPlace, kG_depthLimit_type, kG_depthLimit_number, kG_depthLimit_tape, kG_depthLimit_target, kG_place_depthLimit, kG_place_place, kG_place_faultKind, kG_place_faultPlace, kG_place_type, kG_place_number, kG_place_tape, kG_place_target, kG_faultKind_depthLimit, kG_faultKind_place, kG_faultKind_faultKind, kG_faultKind_faultPlace, kG_faultKind_type, kG_faultKind_number, kG_faultKind_tape, kG_faultKind_target, kG_faultPlace_depthLimit, kG_faultPlace_place, kG_faultPlace_faultKind, kG_faultPlace_faultPlace, kG_faultPlace_type, kG_faultPlace_number, kG_faultPlace_tape, kG_faultPlace_target, kG_type_depthLimit, kG_type_place, kG_type_faultKind, kG_type_faultPlace, kG_type_type, kG_type_number, kG_type_tape, kG_type_target, kG_number_depthLimit, kG_number_place, kG_number_faultKind, kG_number_faultPlace, kG_number_type, kG_number_number, kG_number_tape, kG_number_target, kG_tape_depthLimit, kG_tape_place, kG_tape_faultKind, kG_tape_faultPlace, kG_tape_type, kG_tape_number, kG_tape_tape, kG_tape_target, kG_target_depthLimit, kG_target_place, kG_target_faultKind, kG_target_faultPlace, kG_target_type, kG_target_number, kG_target_tape, kG_target_target]
        · rfl
        · exact G1
  · rw [if_pos c1, if_neg (nI_ne0 (by omega) (by omega)), P1]
    exact bad (nI (hFt ty a key)) (nI p) _ rfl
theorem z_k_head {key : Bool} (hT : TpR (kf_tape σ) t) (hpl : kf_place σ = nI p) (hp : p ≤ t.length) : match sHd t key p with
    | .inl kq => ∃ σ', kk_readHead 0 (bI key) σ = some (false, σ') ∧ KFr σ σ' ∧ (kf_faultKind σ' = nI kq.1 ∧ kf_faultPlace σ' = nI kq.2) ∧ kf_target σ' = kf_target σ
    | .inr y => ∃ σ', kk_readHead 0 (bI key) σ = some (true, σ') ∧ KQ σ σ' ∧ kf_target σ' = kf_target σ ∧ kf_place σ' = nI y.2 ∧ kf_type σ' = nI y.1.1 ∧ kf_number σ' = lN y.1.2 := by
  have hle := hT.2
  have ht := hT.1.2.2
  have hb := getD_lt ht p
  unfold kk_readHead sHd
  rw [hpl, bd_of (hT.at (by omega))]
  simp only []
  by_cases c0 : t.length ≤ p
  · rw [gL_out c0, if_pos c0, if_pos rfl, bd_of hT.sz]
    simp only []
    rw [ks_tape_id]
    refine ⟨_, rfl, ⟨?_, ?_⟩, ⟨?_, ?_⟩, ?_⟩
    all_goals simp only [kG_depthLimit_depthLimit, kG_depthLimit_place, kG_depthLimit_faultKind, kG_depthLimit_faultPlace, kG_depthLimit_type, kG_depthLimit_number, kG_depthLimit_tape, kG_depthLimit_target, kG_place_depthLimit, kG_place_place, kG_place_faultKind, kG_place_faultPlace, kG_place_type, kG_place_number, kG_place_tape, kG_place_target, kG_faultKind_depthLimit, kG_faultKind_place, kG_faultKind_faultKind, kG_faultKind_faultPlace, kG_faultKind_type, kG_faultKind_number, kG_faultKind_tape, kG_faultKind_target, kG_faultPlace_depthLimit, kG_faultPlace_place, kG_faultPlace_faultKind, kG_faultPlace_faultPlace, kG_faultPlace_type, kG_faultPlace_number, kG_faultPlace_tape, kG_faultPlace_target, kG_type_depthLimit, kG_type_place, kG_type_faultKind, kG_type_faultPlace, kG_type_type, kG_type_number, kG_type_tape, kG_type_target, kG_number_depthLimit, kG_number_place, kG_number_faultKind, kG_number_faultPlace, kG_number_type, kG_number_number, kG_number_tape, kG_number_target, kG_tape_depthLimit, kG_tape_place, kG_tape_faultKind, kG_tape_faultPlace, kG_tape_type, kG_tape_number, kG_tape_tape, kG_tape_target, kG_target_depthLimit, kG_target_place, kG_target_faultKind, kG_target_faultPlace, kG_target_type, kG_target_number, kG_target_tape, kG_target_target]
    rfl
  rw [gL_in (by omega), if_neg c0, if_neg (nI_m1 (by omega))]
  obtain ⟨ty, ety⟩ : ∃ ty, ty = t.getD p 0 / 32 := ⟨_, rfl⟩
  obtain ⟨a, ea⟩ : ∃ a, a = t.getD p 0 % 32 := ⟨_, rfl⟩
  rw [← ety, ← ea]
  simp only [lt]
  rw [show nI (t.getD p 0) &&& (31 : Int32) = nI a by rw [pk_andN (m := 31) (by omega) 5 (by decide), ea], show nI (t.getD p 0) >>> ((5 : Int32) &&& 31) = nI ty by rw [pk_shrN (by omega) _ 5 (by decide), ety], ks_tape_id, z_fof_eq, bd_of rfl]
  simp only []
  obtain ⟨σ1, e1⟩ : ∃ σ1, σ1 = ks_type σ (nI ty) := ⟨_, rfl⟩
  have Q1 : KQ σ σ1 := by rw [e1]; unfold KQ KFr; simp only [kG_depthLimit_depthLimit, kG_depthLimit_place, kG_depthLimit_faultKind, kG_depthLimit_faultPlace, kG_depthLimit_type, kG_depthLimit_number, kG_depthLimit_tape, kG_depthLimit_target, kG_place_depthLimit, kG_place_place, kG_place_faultKind, kG_place_faultPlace, kG_place_type, kG_place_number, kG_place_tape, kG_place_target, kG_faultKind_depthLimit, kG_faultKind_place, kG_faultKind_faultKind, kG_faultKind_faultPlace, kG_faultKind_type, kG_faultKind_number, kG_faultKind_tape, kG_faultKind_target, kG_faultPlace_depthLimit, kG_faultPlace_place, kG_faultPlace_faultKind, kG_faultPlace_faultPlace, kG_faultPlace_type, kG_faultPlace_number, kG_faultPlace_tape, kG_faultPlace_target, kG_type_depthLimit, kG_type_place, kG_type_faultKind, kG_type_faultPlace, kG_type_type, kG_type_number, kG_type_tape, kG_type_target, kG_number_depthLimit, kG_number_place, kG_number_faultKind, kG_number_faultPlace, kG_number_type, kG_number_number, kG_number_tape, kG_number_target, kG_tape_depthLimit, kG_tape_place, kG_tape_faultKind, kG_tape_faultPlace, kG_tape_type, kG_tape_number, kG_tape_tape, kG_tape_target, kG_target_depthLimit, kG_target_place, kG_target_faultKind, kG_target_faultPlace, kG_target_type, kG_target_number, kG_target_tape, kG_target_target, and_self]
  have G1 : kf_target σ1 = kf_target σ := by rw [e1]; simp only [kG_depthLimit_depthLimit, kG_depthLimit_place, kG_depthLimit_faultKind, kG_depthLimit_faultPlace, kG_depthLimit_type, kG_depthLimit_number, kG_depthLimit_tape, kG_depthLimit_target, kG_place_depthLimit, kG_place_place, kG_place_faultKind, kG_place_faultPlace, kG_place_type, kG_place_number, kG_place_tape, kG_place_target, kG_faultKind_depthLimit, kG_faultKind_place, kG_faultKind_faultKind, kG_faultKind_faultPlace, kG_faultKind_type, kG_faultKind_number, kG_faultKind_tape, kG_faultKind_target, kG_faultPlace_depthLimit, kG_faultPlace_place, kG_faultPlace_faultKind, kG_faultPlace_faultPlace, kG_faultPlace_type, kG_faultPlace_number, kG_faultPlace_tape, kG_faultPlace_target, kG_type_depthLimit, kG_type_place, kG_type_faultKind, kG_type_faultPlace, kG_type_type, kG_type_number, kG_type_tape, kG_type_target, kG_number_depthLimit, kG_number_place, kG_number_faultKind, kG_number_faultPlace, kG_number_type, kG_number_number, kG_number_tape, kG_number_target, kG_tape_depthLimit, kG_tape_place, kG_tape_faultKind, kG_tape_faultPlace, kG_tape_type, kG_tape_number, kG_tape_tape, kG_tape_target, kG_target_depthLimit, kG_target_place, kG_target_faultKind, kG_target_faultPlace, kG_target_type, kG_target_number, kG_target_tape, kG_target_target]
  have P1 : kf_place σ1 = nI p := by rw [e1]; simp only [kG_depthLimit_depthLimit, kG_depthLimit_place, kG_depthLimit_faultKind, kG_depthLimit_faultPlace, kG_depthLimit_type, kG_depthLimit_number, kG_depthLimit_tape, kG_depthLimit_target, kG_place_depthLimit, kG_place_place, kG_place_faultKind, kG_place_faultPlace, kG_place_type, kG_place_number, kG_place_tape, kG_place_target, kG_faultKind_depthLimit, kG_faultKind_place, kG_faultKind_faultKind, kG_faultKind_faultPlace, kG_faultKind_type, kG_faultKind_number, kG_faultKind_tape, kG_faultKind_target, kG_faultPlace_depthLimit, kG_faultPlace_place, kG_faultPlace_faultKind, kG_faultPlace_faultPlace, kG_faultPlace_type, kG_faultPlace_number, kG_faultPlace_tape, kG_faultPlace_target, kG_type_depthLimit, kG_type_place, kG_type_faultKind, kG_type_faultPlace, kG_type_type, kG_type_number, kG_type_tape, kG_type_target, kG_number_depthLimit, kG_number_place, kG_number_faultKind, kG_number_faultPlace, kG_number_type, kG_number_number, kG_number_tape, kG_number_target, kG_tape_depthLimit, kG_tape_place, kG_tape_faultKind, kG_tape_faultPlace, kG_tape_type, kG_tape_number, kG_tape_tape, kG_tape_target, kG_target_depthLimit, kG_target_place, kG_target_faultKind, kG_target_faultPlace, kG_target_type, kG_target_number, kG_target_tape, kG_target_target]; exact hpl
  have Y1 : kf_type σ1 = nI ty := by rw [e1]; simp only [kG_depthLimit_depthLimit, kG_depthLimit_place, kG_depthLimit_faultKind, kG_depthLimit_faultPlace, kG_depthLimit_type, kG_depthLimit_number, kG_depthLimit_tape, kG_depthLimit_target, kG_place_depthLimit, kG_place_place, kG_place_faultKind, kG_place_faultPlace, kG_place_type, kG_place_number, kG_place_tape, kG_place_target, kG_faultKind_depthLimit, kG_faultKind_place, kG_faultKind_faultKind, kG_faultKind_faultPlace, kG_faultKind_type, kG_faultKind_number, kG_faultKind_tape, kG_faultKind_target, kG_faultPlace_depthLimit, kG_faultPlace_place, kG_faultPlace_faultKind, kG_faultPlace_faultPlace, kG_faultPlace_type, kG_faultPlace_number, kG_faultPlace_tape, kG_faultPlace_target, kG_type_depthLimit, kG_type_place, kG_type_faultKind, kG_type_faultPlace, kG_type_type, kG_type_number, kG_type_tape, kG_type_target, kG_number_depthLimit, kG_number_place, kG_number_faultKind, kG_number_faultPlace, kG_number_type, kG_number_number, kG_number_tape, kG_number_target, kG_tape_depthLimit, kG_tape_place, kG_tape_faultKind, kG_tape_faultPlace, kG_tape_type, kG_tape_number, kG_tape_tape, kG_tape_target, kG_target_depthLimit, kG_target_place, kG_target_faultKind, kG_target_faultPlace, kG_target_type, kG_target_number, kG_target_tape, kG_target_target]
  have T1 : TpR (kf_tape σ1) t := by rw [Q1.1.1]; exact hT
  rw [← e1, Y1]
  have hFF : FF (nI ty) (nI a) (bI key) = nI (hFt ty a key) := by
    cases key with
    | true => exact (FF_hFt ty (by omega) a (by omega)).1
    | false => exact (FF_hFt ty (by omega) a (by omega)).2
  have hft : hFt ty a key ≤ 6 := by
    unfold hFt
    repeat' split
    all_goals omega
  have bad : ∀ (k q : Int32) (x : Option (Bool × KSt)), x = some (false, ks_faultPlace (ks_faultKind σ1 k) q) → ∃ σ', x = some (false, σ') ∧ KFr σ σ' ∧ (kf_faultKind σ' = k ∧ kf_faultPlace σ' = q) ∧ kf_target σ' = kf_target σ := by
    intro k q x hx
    refine ⟨_, hx, Q1.1.trans ⟨?_, ?_⟩, ⟨?_, ?_⟩, ?_⟩
    all_goals simp only [kG_depthLimit_depthLimit, kG_depthLimit_place, kG_depthLimit_faultKind, kG_depthLimit_faultPlace, kG_depthLimit_type, kG_depthLimit_number, kG_depthLimit_tape, kG_depthLimit_target, kG_place_depthLimit, kG_place_place, kG_place_faultKind, kG_place_faultPlace, kG_place_type, kG_place_number, kG_place_tape, kG_place_target, kG_faultKind_depthLimit, kG_faultKind_place, kG_faultKind_faultKind, kG_faultKind_faultPlace, kG_faultKind_type, kG_faultKind_number, kG_faultKind_tape, kG_faultKind_target, kG_faultPlace_depthLimit, kG_faultPlace_place, kG_faultPlace_faultKind, kG_faultPlace_faultPlace, kG_faultPlace_type, kG_faultPlace_number, kG_faultPlace_tape, kG_faultPlace_target, kG_type_depthLimit, kG_type_place, kG_type_faultKind, kG_type_faultPlace, kG_type_type, kG_type_number, kG_type_tape, kG_type_target, kG_number_depthLimit, kG_number_place, kG_number_faultKind, kG_number_faultPlace, kG_number_type, kG_number_number, kG_number_tape, kG_number_target, kG_tape_depthLimit, kG_tape_place, kG_tape_faultKind, kG_tape_faultPlace, kG_tape_type, kG_tape_number, kG_tape_tape, kG_tape_target, kG_target_depthLimit, kG_target_place, kG_target_faultKind, kG_target_faultPlace, kG_target_type, kG_target_number, kG_target_tape, kG_target_target]
    exact G1
  rw [hFF]
  by_cases c1 : hFt ty a key = 0
  · have ha := hFt_0 c1 (by omega)
    rw [if_neg (fun z => z c1), c1, if_pos (show nI 0 = (0 : Int32) from rfl), bb_hNb a ha, bd_of T1.sz]
    have h8 := hNb_le a
    simp only []
    rw [P1, ks_tape_id, pk_sub (by omega)]
    by_cases c2 : t.length - p ≤ hNb a
    · rw [if_pos c2, if_neg (nI_nlt c2 (by omega)), bd_of T1.sz]
      simp only []
      rw [ks_tape_id]
      exact bad 1 (nI t.length) _ rfl
    rw [if_neg c2, if_pos (nI_lt (by omega) (by omega))]
    have done : ∀ (v n : Nat), n ≤ 8 → ∃ σ', kk_readHead_b149 0 (nI n) (ks_number σ1 (lN v)) = some (true, σ') ∧ KQ σ σ' ∧ kf_target σ' = kf_target σ ∧ kf_place σ' = nI (p + 1 + n) ∧ kf_type σ' = nI ty ∧ kf_number σ' = lN v := by
      intro v n hn
      unfold kk_readHead_b149
      refine ⟨_, rfl, Q1.trans ?_, ?_, ?_, ?_, ?_⟩
      · unfold KQ KFr
        simp only [kG_depthLimit_depthLimit, kG_depthLimit_place, kG_depthLimit_faultKind, kG_depthLimit_faultPlace, kG_depthLimit_type, kG_depthLimit_number, kG_depthLimit_tape, kG_depthLimit_target, kG_place_depthLimit, kG_place_place, kG_place_faultKind, kG_place_faultPlace, kG_place_type, kG_place_number, kG_place_tape, kG_place_target, kG_faultKind_depthLimit, kG_faultKind_place, kG_faultKind_faultKind, kG_faultKind_faultPlace, kG_faultKind_type, kG_faultKind_number, kG_faultKind_tape, kG_faultKind_target, kG_faultPlace_depthLimit, kG_faultPlace_place, kG_faultPlace_faultKind, kG_faultPlace_faultPlace, kG_faultPlace_type, kG_faultPlace_number, kG_faultPlace_tape, kG_faultPlace_target, kG_type_depthLimit, kG_type_place, kG_type_faultKind, kG_type_faultPlace, kG_type_type, kG_type_number, kG_type_tape, kG_type_target, kG_number_depthLimit, kG_number_place, kG_number_faultKind, kG_number_faultPlace, kG_number_type, kG_number_number, kG_number_tape, kG_number_target, kG_tape_depthLimit, kG_tape_place, kG_tape_faultKind, kG_tape_faultPlace, kG_tape_type, kG_tape_number, kG_tape_tape, kG_tape_target, kG_target_depthLimit, kG_target_place, kG_target_faultKind, kG_target_faultPlace, kG_target_type, kG_target_number, kG_target_tape, kG_target_target, and_self]
      · simp only [kG_depthLimit_depthLimit, kG_depthLimit_place, kG_depthLimit_faultKind, kG_depthLimit_faultPlace, kG_depthLimit_type, kG_depthLimit_number, kG_depthLimit_tape, kG_depthLimit_target, kG_place_depthLimit, kG_place_place, kG_place_faultKind, kG_place_faultPlace, kG_place_type, kG_place_number, kG_place_tape, kG_place_target, kG_faultKind_depthLimit, kG_faultKind_place, kG_faultKind_faultKind, kG_faultKind_faultPlace, kG_faultKind_type, kG_faultKind_number, kG_faultKind_tape, kG_faultKind_target, kG_faultPlace_depthLimit, kG_faultPlace_place, kG_faultPlace_faultKind, kG_faultPlace_faultPlace, kG_faultPlace_type, kG_faultPlace_number, kG_faultPlace_tape, kG_faultPlace_target, kG_type_depthLimit, kG_type_place, kG_type_faultKind, kG_type_faultPlace, kG_type_type, kG_type_number, kG_type_tape, kG_type_target, kG_number_depthLimit, kG_number_place, kG_number_faultKind, kG_number_faultPlace, kG_number_type, kG_number_number, kG_number_tape, kG_number_target, kG_tape_depthLimit, kG_tape_place, kG_tape_faultKind, kG_tape_faultPlace, kG_tape_type, kG_tape_number, kG_tape_tape, kG_tape_target, kG_target_depthLimit, kG_target_place, kG_target_faultKind, kG_target_faultPlace, kG_target_type, kG_target_number, kG_target_tape, kG_target_target]; exact G1
      · simp only [kG_depthLimit_depthLimit, kG_depthLimit_place, kG_depthLimit_faultKind, kG_depthLimit_faultPlace, kG_depthLimit_type, kG_depthLimit_number, kG_depthLimit_tape, kG_depthLimit_target, kG_place_depthLimit, kG_place_place, kG_place_faultKind, kG_place_faultPlace, kG_place_type, kG_place_number, kG_place_tape, kG_place_target, kG_faultKind_depthLimit, kG_faultKind_place, kG_faultKind_faultKind, kG_faultKind_faultPlace, kG_faultKind_type, kG_faultKind_number, kG_faultKind_tape, kG_faultKind_target, kG_faultPlace_depthLimit, kG_faultPlace_place, kG_faultPlace_faultKind, kG_faultPlace_faultPlace, kG_faultPlace_type, kG_faultPlace_number, kG_faultPlace_tape, kG_faultPlace_target, kG_type_depthLimit, kG_type_place, kG_type_faultKind, kG_type_faultPlace, kG_type_type, kG_type_number, kG_type_tape, kG_type_target, kG_number_depthLimit, kG_number_place, kG_number_faultKind, kG_number_faultPlace, kG_number_type, kG_number_number, kG_number_tape, kG_number_target, kG_tape_depthLimit, kG_tape_place, kG_tape_faultKind, kG_tape_faultPlace, kG_tape_type, kG_tape_number, kG_tape_tape, kG_tape_target, kG_target_depthLimit, kG_target_place, kG_target_faultKind, kG_target_faultPlace, kG_target_type, kG_target_number, kG_target_tape, kG_target_target]
        rw [P1, show (1 : Int32) + nI n = nI (1 + n) from nI_add 1 n, nI_add, Nat.add_assoc]
      · simp only [kG_depthLimit_depthLimit, kG_depthLimit_place, kG_depthLimit_faultKind, kG_depthLimit_faultPlace, kG_depthLimit_type, kG_depthLimit_number, kG_depthLimit_tape, kG_depthLimit_target, kG_place_depthLimit, kG_place_place, kG_place_faultKind, kG_place_faultPlace, kG_place_type, kG_place_number, kG_place_tape, kG_place_target, kG_faultKind_depthLimit, kG_faultKind_place, kG_faultKind_faultKind, kG_faultKind_faultPlace, kG_faultKind_type, kG_faultKind_number, kG_faultKind_tape, kG_faultKind_target, kG_faultPlace_depthLimit, kG_faultPlace_place, kG_faultPlace_faultKind, kG_faultPlace_faultPlace, kG_faultPlace_type, kG_faultPlace_number, kG_faultPlace_tape, kG_faultPlace_target, kG_type_depthLimit, kG_type_place, kG_type_faultKind, kG_type_faultPlace, kG_type_type, kG_type_number, kG_type_tape, kG_type_target, kG_number_depthLimit, kG_number_place, kG_number_faultKind, kG_number_faultPlace, kG_number_type, kG_number_number, kG_number_tape, kG_number_target, kG_tape_depthLimit, kG_tape_place, kG_tape_faultKind, kG_tape_faultPlace, kG_tape_type, kG_tape_number, kG_tape_tape, kG_tape_target, kG_target_depthLimit, kG_target_place, kG_target_faultKind, kG_target_faultPlace, kG_target_type, kG_target_number, kG_target_tape, kG_target_target]; exact Y1
      · simp only [kG_depthLimit_depthLimit, kG_depthLimit_place, kG_depthLimit_faultKind, kG_depthLimit_faultPlace, kG_depthLimit_type, kG_depthLimit_number, kG_depthLimit_tape, kG_depthLimit_target, kG_place_depthLimit, kG_place_place, kG_place_faultKind, kG_place_faultPlace, kG_place_type, kG_place_number, kG_place_tape, kG_place_target, kG_faultKind_depthLimit, kG_faultKind_place, kG_faultKind_faultKind, kG_faultKind_faultPlace, kG_faultKind_type, kG_faultKind_number, kG_faultKind_tape, kG_faultKind_target, kG_faultPlace_depthLimit, kG_faultPlace_place, kG_faultPlace_faultKind, kG_faultPlace_faultPlace, kG_faultPlace_type, kG_faultPlace_number, kG_faultPlace_tape, kG_faultPlace_target, kG_type_depthLimit, kG_type_place, kG_type_faultKind, kG_type_faultPlace, kG_type_type, kG_type_number, kG_type_tape, kG_type_target, kG_number_depthLimit, kG_number_place, kG_number_faultKind, kG_number_faultPlace, kG_number_type, kG_number_number, kG_number_tape, kG_number_target, kG_tape_depthLimit, kG_tape_place, kG_tape_faultKind, kG_tape_faultPlace, kG_tape_type, kG_tape_number, kG_tape_tape, kG_tape_target, kG_target_depthLimit, kG_target_place, kG_target_faultKind, kG_target_faultPlace, kG_target_type, kG_target_number, kG_target_tape, kG_target_target]
    unfold kk_readHead_b119
    by_cases c3 : a < 24
    · have e0 : hNb a = 0 := by unfold hNb; rw [if_pos c3]
      rw [if_pos c3, e0, if_pos (show nI 0 = (0 : Int32) from rfl), if_pos (show nI 0 ≤ (0 : Int32) by decide), nI_l (by omega)]
      exact done a 0 (by decide)
    · have hpos : 1 ≤ hNb a := by
        unfold hNb
        rw [if_neg c3]
        repeat' split
        all_goals omega
      rw [if_neg c3, if_neg (nI_ne0 (by omega) (by omega)), bd_of (show kk_numberBehind 0 (nI (hNb a)) σ1 = some (lN (bv t (p + 1) (hNb a)), σ1) from z_num_loop T1 P1 h8 (by omega) (hNb a) 0 FU (by omega) (by show _ < 100000; omega))]
      simp only []
      have hv := bv_lt ht (p + 1) (hNb a)
      obtain ⟨v, ev⟩ : ∃ v, v = bv t (p + 1) (hNb a) := ⟨_, rfl⟩
      rw [← ev] at hv ⊢
      have hv64 : v < 2 ^ 64 := Nat.lt_of_lt_of_le hv (Nat.le_trans (Nat.pow_le_pow_right (by decide) h8) (by decide))
      rw [if_neg (nI_np hpos (by omega)), shortestInfo_eq hv64]
      have hiff : inf v = a ↔ nb v = hNb a := by
        have q : a = 24 ∨ a = 25 ∨ a = 26 ∨ a = 27 := by omega
        unfold inf nb
        rcases q with rfl | rfl | rfl | rfl
        · have hh : v < 256 := hv
          show _ ↔ _ = 1
          repeat' split
          all_goals omega
        · have hh : v < 65536 := hv
          show _ ↔ _ = 2
          repeat' split
          all_goals omega
        · have hh : v < 4294967296 := hv
          show _ ↔ _ = 4
          repeat' split
          all_goals omega
        · show _ ↔ _ = 8
          repeat' split
          all_goals omega
      have hiv := inf_lt v
      by_cases c4 : nb v = hNb a
      · rw [if_pos c4, if_pos (show nI (inf v) = nI a by rw [hiff.mpr c4])]
        exact done v (hNb a) h8
      · rw [if_neg c4, if_neg (fun z => c4 (hiff.mp ((nI_eq (by omega) (by omega)).mp z)))]
        have := bad 6 (nI p) (some (false, ks_faultPlace (ks_faultKind (ks_number σ1 (lN v)) 6) (nI p)))
        rw [show kf_place σ1 = nI p from P1]
        refine ⟨_, rfl, Q1.1.trans ⟨?_, ?_⟩, ⟨?_, ?_⟩, ?_⟩
        all_goals simp only [kG_depthLimit_depthLimit, kG_depthLimit_place, kG_depthLimit_faultKind, kG_depthLimit_faultPlace, kG_depthLimit_type, kG_depthLimit_number, kG_depthLimit_tape, kG_depthLimit_target, kG_place_depthLimit, kG_place_place, kG_place_faultKind, kG_place_faultPlace, kG_place_type, kG_place_number, kG_place_tape, kG_place_target, kG_faultKind_depthLimit, kG_faultKind_place, kG_faultKind_faultKind, kG_faultKind_faultPlace, kG_faultKind_type, kG_faultKind_number, kG_faultKind_tape, kG_faultKind_target, kG_faultPlace_depthLimit, kG_faultPlace_place, kG_faultPlace_faultKind, kG_faultPlace_faultPlace, kG_faultPlace_type, kG_faultPlace_number, kG_faultPlace_tape, kG_faultPlace_target, kG_type_depthLimit, kG_type_place, kG_type_faultKind, kG_type_faultPlace, kG_type_type, kG_type_number, kG_type_tape, kG_type_target, kG_number_depthLimit, kG_number_place, kG_number_faultKind, kG_number_faultPlace, kG_number_type, kG_number_number, kG_number_tape, kG_number_target, kG_tape_depthLimit, kG_tape_place, kG_tape_faultKind, kG_tape_faultPlace, kG_tape_type, kG_tape_number, kG_tape_tape, kG_tape_target, kG_target_depthLimit, kG_target_place, kG_target_faultKind, kG_target_faultPlace, kG_target_type, kG_target_number, kG_target_tape, kG_target_target]
        · rfl
        · exact G1
  · rw [if_pos c1, if_neg (nI_ne0 (by omega) (by omega)), P1]
    exact bad (nI (hFt ty a key)) (nI p) _ rfl
end HK
