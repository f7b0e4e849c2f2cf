/-! PURE FF: rows of the spec of CBOR, case by case, and bounds -/
section SPC
variable {t : List Nat}
theorem sTk_l {key : Bool} {d p : Nat} {k : Nat × Nat} (h : sHd t key p = .inl k) : sTk t key d p = .inl k := by
  unfold sTk
  rw [h]
theorem sTk_d {key : Bool} {p ty v q : Nat} (h : sHd t key p = .inr ((ty, v), q)) (hty : ty = 4 ∨ ty = 5) : sTk t key 0 p = .inl (4, p) := by
  unfold sTk
  rw [h]
  exact if_pos ⟨hty, rfl⟩
theorem sTk_x {key : Bool} {d p v q : Nat} {k : Nat × Nat} (h : sHd t key p = .inr ((3, v), q)) (hx : sTx t v q = .inl k) : sTk t key d p = .inl k := by
  unfold sTk
  rw [h]
  simp only []
  rw [if_neg (fun z => by omega), if_pos (show True from trivial), hx]
theorem sTk_t {key : Bool} {d p v q : Nat} {ls : List Nat} (h : sHd t key p = .inr ((3, v), q)) (hx : sTx t v q = .inr ls) : sTk t key d p = .inr ((3, v, ls), q + v) := by
  unfold sTk
  rw [h]
  simp only []
  rw [if_neg (fun z => by omega), if_pos (show True from trivial), hx]
theorem sTk_s {key : Bool} {d p ty v q : Nat} (h : sHd t key p = .inr ((ty, v), q)) (h3 : ty ≠ 3) (hd : ¬ ((ty = 4 ∨ ty = 5) ∧ d = 0)) : sTk t key d p = .inr ((ty, v, []), q) := by
  unfold sTk
  rw [h]
  simp only []
  rw [if_neg hd, if_neg h3]
theorem sIt_l {d p : Nat} {k : Nat × Nat} (h : sTk t false d p = .inl k) : sIt t d p = .inl k := by
  cases d with
  | zero => unfold sIt; rw [h]
  | succ d => unfold sIt; rw [h]
theorem sIt_s {d p q : Nat} {x : Tok} (h : sTk t false d p = .inr (x, q)) (h4 : x.1 ≠ 4) (h5 : x.1 ≠ 5) : sIt t d p = .inr (([x], jTk x), q) := by
  cases d with
  | zero => unfold sIt; rw [h]
  | succ d =>
    unfold sIt
    rw [h]
    simp only []
    rw [if_neg h4, if_neg h5]
theorem sIt_b {d p q v : Nat} {isMap : Bool} {ls : List Nat} (h : sTk t false (d + 1) p = .inr ((srt isMap, v, ls), q)) : sIt t (d + 1) p = sBx t (sIt t d) d isMap v q := by
  unfold sIt
  rw [h]
  cases isMap with
  | true => rfl
  | false => rfl
theorem sKy_t {d p q : Nat} {x : Tok} (h : sTk t true d p = .inr (x, q)) : sKy t true d p = .inr (([x], jTk x ++ [58]), q) := by
  unfold sKy
  rw [if_pos rfl, h]
theorem sKy_l {d p : Nat} {k : Nat × Nat} (h : sTk t true d p = .inl k) : sKy t true d p = .inl k := by
  unfold sKy
  rw [if_pos rfl, h]
theorem sKy_f (d p : Nat) : sKy t false d p = .inr (([], []), p) := rfl
section ITS
variable {item : Nat → Rd ((List Tok × List Nat) × Nat)} {d m p p1 p2 q : Nat} {isMap fst : Bool} {k : Nat × Nat} {ks vs ys : List Tok} {kj vj yj : List Nat}
theorem sIts_k (h : sKy t isMap d p = .inl k) : sIts t item d isMap (m + 1) fst p = .inl k := by
  unfold sIts
  rw [h]
theorem sIts_v (h : sKy t isMap d p = .inr ((ks, kj), p1)) (h2 : item p1 = .inl k) : sIts t item d isMap (m + 1) fst p = .inl k := by
  unfold sIts
  rw [h]
  simp only []
  rw [h2]
theorem sIts_r (h : sKy t isMap d p = .inr ((ks, kj), p1)) (h2 : item p1 = .inr ((vs, vj), p2)) (h3 : sIts t item d isMap m false p2 = .inl k) : sIts t item d isMap (m + 1) fst p = .inl k := by
  unfold sIts
  rw [h]
  simp only []
  rw [h2]
  simp only []
  rw [h3]
theorem sIts_o (h : sKy t isMap d p = .inr ((ks, kj), p1)) (h2 : item p1 = .inr ((vs, vj), p2)) (h3 : sIts t item d isMap m false p2 = .inr ((ys, yj), q)) : sIts t item d isMap (m + 1) fst p = .inr ((ks ++ vs ++ ys, (if fst = true then [] else [44]) ++ kj ++ vj ++ yj), q) := by
  unfold sIts
  rw [h]
  simp only []
  rw [h2]
  simp only []
  rw [h3]
end ITS
theorem jTk_len {x : Tok} (h : wTk x) : (jTk x).length ≤ 21 + 6 * x.2.2.length := by
  have hv := h.2.1
  unfold jTk
  by_cases c0 : x.1 = 0
  · rw [if_pos c0]
    have := dec_len (n := x.2.1) (k := 20) (by omega) (by decide)
    omega
  rw [if_neg c0]
  by_cases c1 : x.1 = 1
  · rw [if_pos c1, List.length_cons]
    have := dec_len (n := x.2.1 + 1) (k := 20) (by omega) (by decide)
    omega
  rw [if_neg c1]
  by_cases c3 : x.1 = 3
  · rw [if_pos c3, List.length_cons, List.length_append, List.length_singleton]
    have := esc_len x.2.2
    omega
  rw [if_neg c3]
  unfold wdC
  repeat' split
  all_goals (simp only [List.length_cons, List.length_nil]; omega)
theorem sTx_bd {v q : Nat} {ls : List Nat} (hq : q ≤ t.length) (h : sTx t v q = .inr ls) : q + v ≤ t.length ∧ ls = sl t q v := by
  unfold sTx at h
  split at h
  · cases h
  · rename_i c
    split at h
    · cases h
    · exact ⟨by omega, (Sum.inr.inj h).symm⟩
theorem sTk_bd (ht : ∀ x ∈ t, x < 256) {key : Bool} {d p q : Nat} {x : Tok} (h : sTk t key d p = .inr (x, q)) : p < q ∧ Bd t p [x] q ∧ (x.1 = 0 ∨ x.1 = 1 ∨ x.1 = 3 ∨ x.1 = 4 ∨ x.1 = 5 ∨ x.1 = 7) ∧ (key = true → x.1 = 3) ∧ (x.1 = 4 ∨ x.1 = 5 → d ≠ 0) ∧ (x.1 = 7 → x.2.1 = 20 ∨ x.2.1 = 21 ∨ x.2.1 = 22) ∧ (jTk x).length + 3 ≤ 24 * (q - p) ∧ wTk x := by
  cases hd : sHd t key p with
  | inl k => rw [sTk_l hd] at h; cases h
  | inr y =>
    obtain ⟨⟨ty, v⟩, q0⟩ := y
    obtain ⟨b1, b2, b3, b4, b5, b6, b7, b8, b9⟩ := sHd_bd ht hd
    by_cases c3 : ty = 3
    · subst c3
      cases hx : sTx t v q0 with
      | inl k => rw [sTk_x hd hx] at h; cases h
      | inr ls =>
        rw [sTk_t hd hx] at h
        obtain ⟨e1, e2⟩ := Prod.mk.inj (Sum.inr.inj h)
        subst e1
        subst e2
        obtain ⟨g1, g2⟩ := sTx_bd b3 hx
        have hl : ls.length = v := by rw [g2]; exact sl_len g1
        have hw : wTk (3, v, ls) := ⟨by show (3 : Nat) < 8; decide, b5, fun b hb => by rw [g2] at hb; exact ht b (mem_sl hb), fun _ => hl.symm, fun z => absurd rfl z⟩
        have hj := jTk_len hw
        have hj3 : (jTk (3, v, ls)).length ≤ 2 + 6 * v := by
          show (34 :: (esc ls ++ [34])).length ≤ _
          rw [List.length_cons, List.length_append, List.length_singleton]
          have := esc_len ls
          omega
        refine ⟨by omega, ⟨by omega, g1, ?_, fun y hy => ?_⟩, Or.inr (Or.inr (Or.inl rfl)), fun _ => rfl, fun z => ?_, fun z => ?_, by omega, hw⟩
        · show 1 + (ls ++ []).length ≤ _
          rw [List.append_nil]
          omega
        · rw [List.mem_singleton.mp hy]; exact hw
        · exact absurd z (by show ¬ ((3 : Nat) = 4 ∨ (3 : Nat) = 5); decide)
        · exact absurd z (by show ¬ (3 : Nat) = 7; decide)
    · by_cases cd : (ty = 4 ∨ ty = 5) ∧ d = 0
      · obtain ⟨cd1, cd2⟩ := cd
        subst cd2
        rw [sTk_d hd cd1] at h
        cases h
      · rw [sTk_s hd c3 cd] at h
        obtain ⟨e1, e2⟩ := Prod.mk.inj (Sum.inr.inj h)
        subst e1
        subst e2
        have B := Bd.one (t := t) (p := p) (q := q0) (s := ty) (n := v) (by omega) b3 b4 c3 b5
        have hw : wTk (ty, v, []) := B.2.2.2 _ (List.mem_cons_self ..)
        have hj : (jTk (ty, v, [])).length ≤ 21 + 6 * 0 := jTk_len hw
        exact ⟨by omega, B, by show ty = 0 ∨ ty = 1 ∨ ty = 3 ∨ ty = 4 ∨ ty = 5 ∨ ty = 7; omega, fun z => absurd (b9 z) c3, fun z w => cd ⟨z, w⟩, b6, by omega, hw⟩
/-- what is asked of an item's reading -/
def IB (t : List Nat) (item : Nat → Rd ((List Tok × List Nat) × Nat)) : Prop := ∀ p, p ≤ t.length → ∀ ts js q, item p = .inr ((ts, js), q) → p < q ∧ Bd t p ts q ∧ js.length + 1 ≤ 24 * (q - p)
theorem sKy_bd (ht : ∀ x ∈ t, x < 256) {isMap : Bool} {d p q : Nat} {ks : List Tok} {kj : List Nat} (hp : p ≤ t.length) (h : sKy t isMap d p = .inr ((ks, kj), q)) : p ≤ q ∧ Bd t p ks q ∧ kj.length ≤ 24 * (q - p) ∧ ks.length ≤ q - p := by
  cases isMap with
  | false =>
    rw [sKy_f] at h
    obtain ⟨e1, e2⟩ := Prod.mk.inj (Sum.inr.inj h)
    obtain ⟨e3, e4⟩ := Prod.mk.inj e1
    subst e2
    subst e3
    subst e4
    exact ⟨Nat.le_refl _, Bd.nil hp, Nat.zero_le _, Nat.zero_le _⟩
  | true =>
    cases hk : sTk t true d p with
    | inl k => rw [sKy_l hk] at h; cases h
    | inr y =>
      obtain ⟨x, q0⟩ := y
      rw [sKy_t hk] at h
      obtain ⟨e1, e2⟩ := Prod.mk.inj (Sum.inr.inj h)
      obtain ⟨e3, e4⟩ := Prod.mk.inj e1
      subst e2
      subst e3
      subst e4
      obtain ⟨b1, b2, b3, b4, b5, b6, b7, b8⟩ := sTk_bd ht hk
      exact ⟨by omega, b2, by rw [len_snoc]; omega, by show 1 ≤ _; omega⟩
theorem sIts_bd (ht : ∀ x ∈ t, x < 256) {item : Nat → Rd ((List Tok × List Nat) × Nat)} (hv : IB t item) {d : Nat} {isMap : Bool} : ∀ n fst p, p ≤ t.length → ∀ ts js q, sIts t item d isMap n fst p = .inr ((ts, js), q) → p + n ≤ q ∧ Bd t p ts q ∧ js.length ≤ 24 * (q - p) := by
  intro n
  induction n with
  | zero =>
    intro fst p hp ts js q h
    obtain ⟨e1, e2⟩ := Prod.mk.inj (Sum.inr.inj h)
    obtain ⟨e3, e4⟩ := Prod.mk.inj e1
    subst e2
    subst e3
    subst e4
    exact ⟨Nat.le_refl _, Bd.nil hp, Nat.zero_le _⟩
  | succ n ih =>
    intro fst p hp ts js q h
    cases hk : sKy t isMap d p with
    | inl k => rw [sIts_k hk] at h; cases h
    | inr kp =>
      obtain ⟨⟨ks, kj⟩, p1⟩ := kp
      obtain ⟨k1, k2, k3, k4⟩ := sKy_bd ht hp hk
      have kl := k2.2.1
      cases hi : item p1 with
      | inl k => rw [sIts_v hk hi] at h; cases h
      | inr vp =>
        obtain ⟨⟨vs, vj⟩, p2⟩ := vp
        obtain ⟨v1, v2, v3⟩ := hv p1 kl vs vj p2 hi
        have vl := v2.2.1
        cases hr : sIts t item d isMap n false p2 with
        | inl k => rw [sIts_r hk hi hr] at h; cases h
        | inr y =>
          obtain ⟨⟨ys, yj⟩, q1⟩ := y
          obtain ⟨y1, y2, y3⟩ := ih false p2 vl ys yj q1 hr
          rw [sIts_o hk hi hr] at h
          obtain ⟨e1, e2⟩ := Prod.mk.inj (Sum.inr.inj h)
          obtain ⟨e3, e4⟩ := Prod.mk.inj e1
          subst e2
          subst e3
          subst e4
          refine ⟨by omega, (k2.app v2).app y2, ?_⟩
          have hc : (if fst = true then ([] : List Nat) else [44]).length ≤ 1 := by cases fst <;> decide
          simp only [List.length_append]
          omega
theorem sBx_bd (ht : ∀ x ∈ t, x < 256) {item : Nat → Rd ((List Tok × List Nat) × Nat)} (hv : IB t item) {d p v q0 : Nat} {isMap : Bool} (hp : p < q0) (hq : q0 ≤ t.length) (hv64 : v < 2 ^ 64) {ts : List Tok} {js : List Nat} {q : Nat} (h : sBx t item d isMap v q0 = .inr ((ts, js), q)) : p < q ∧ Bd t p ts q ∧ js.length + 1 ≤ 24 * (q - p) := by
  have hs : srt isMap < 8 ∧ srt isMap ≠ 3 := by cases isMap <;> decide
  unfold sBx at h
  cases hr : sIts t item d isMap v true q0 with
  | inl k => rw [hr] at h; cases h
  | inr y =>
    obtain ⟨⟨ys, yj⟩, q1⟩ := y
    obtain ⟨y1, y2, y3⟩ := sIts_bd ht hv v true q0 hq ys yj q1 hr
    rw [hr] at h
    obtain ⟨e1, e2⟩ := Prod.mk.inj (Sum.inr.inj h)
    obtain ⟨e3, e4⟩ := Prod.mk.inj e1
    subst e2
    subst e3
    subst e4
    have B := Bd.one (t := t) (p := p) (q := q0) (s := srt isMap) (n := v) hp hq hs.1 hs.2 hv64
    refine ⟨by show p < q1; omega, B.app y2, ?_⟩
    show (opC isMap :: (yj ++ [clC isMap])).length + 1 ≤ 24 * (q1 - p)
    rw [List.length_cons, len_snoc]
    omega
theorem srt_of {ty : Nat} (h : ty = 4 ∨ ty = 5) : ∃ isMap, ty = srt isMap := by
  rcases h with e | e
  · exact ⟨false, e⟩
  · exact ⟨true, e⟩
theorem sIt_bd (ht : ∀ x ∈ t, x < 256) : ∀ d, IB t (sIt t d) := by
  have sc : ∀ d p q x, sTk t false d p = .inr (x, q) → p < q ∧ Bd t p [x] q ∧ (jTk x).length + 1 ≤ 24 * (q - p) := by
    intro d p q x h
    obtain ⟨b1, b2, b3, b4, b5, b6, b7, b8⟩ := sTk_bd ht h
    exact ⟨b1, b2, by omega⟩
  intro d
  induction d with
  | zero =>
    intro p hp ts js q h
    cases hk : sTk t false 0 p with
    | inl k => rw [sIt_l hk] at h; cases h
    | inr y =>
      obtain ⟨x, q0⟩ := y
      have b5 := (sTk_bd ht hk).2.2.2.2.1
      rw [sIt_s hk (fun z => b5 (Or.inl z) rfl) (fun z => b5 (Or.inr z) rfl)] at h
      obtain ⟨e1, e2⟩ := Prod.mk.inj (Sum.inr.inj h)
      obtain ⟨e3, e4⟩ := Prod.mk.inj e1
      subst e2
      subst e3
      subst e4
      exact sc 0 p _ x hk
  | succ d ih =>
    intro p hp ts js q h
    cases hk : sTk t false (d + 1) p with
    | inl k => rw [sIt_l hk] at h; cases h
    | inr y =>
      obtain ⟨x, q0⟩ := y
      by_cases c : x.1 = 4 ∨ x.1 = 5
      · obtain ⟨isMap, e⟩ := srt_of c
        obtain ⟨ty, v, ls⟩ := x
        have e' : ty = srt isMap := e
        subst e'
        obtain ⟨b1, b2, b3, b4, b5, b6, b7, b8⟩ := sTk_bd ht hk
        rw [sIt_b hk] at h
        exact sBx_bd ht ih b1 b2.2.1 b8.2.1 h
      · rw [sIt_s hk (fun z => c (Or.inl z)) (fun z => c (Or.inr z))] at h
        obtain ⟨e1, e2⟩ := Prod.mk.inj (Sum.inr.inj h)
        obtain ⟨e3, e4⟩ := Prod.mk.inj e1
        subst e2
        subst e3
        subst e4
        exact sc _ p _ x hk
/-- of more parts than bytes one lacks: how many more makes no difference -/
theorem sIts_big (ht : ∀ x ∈ t, x < 256) {item : Nat → Rd ((List Tok × List Nat) × Nat)} (hv : IB t item) {d : Nat} {isMap : Bool} : ∀ n1 n2 fst p, p ≤ t.length → t.length - p < n1 → t.length - p < n2 → ∃ k, sIts t item d isMap n1 fst p = .inl k ∧ sIts t item d isMap n2 fst p = .inl k := by
  intro n1
  induction n1 with
  | zero => intro n2 fst p hp h; omega
  | succ n1 ih =>
    intro n2 fst p hp h1 h2
    obtain ⟨n2, rfl⟩ : ∃ g, n2 = g + 1 := ⟨n2 - 1, by omega⟩
    cases hk : sKy t isMap d p with
    | inl k => exact ⟨k, sIts_k hk, sIts_k hk⟩
    | inr kp =>
      obtain ⟨⟨ks, kj⟩, p1⟩ := kp
      obtain ⟨k1, k2, k3, k4⟩ := sKy_bd ht hp hk
      have kl := k2.2.1
      cases hi : item p1 with
      | inl k => exact ⟨k, sIts_v hk hi, sIts_v hk hi⟩
      | inr vp =>
        obtain ⟨⟨vs, vj⟩, p2⟩ := vp
        obtain ⟨v1, v2, v3⟩ := hv p1 kl vs vj p2 hi
        have vl := v2.2.1
        obtain ⟨k, e1, e2⟩ := ih n2 false p2 vl (by omega) (by omega)
        exact ⟨k, sIts_r hk hi e1, sIts_r hk hi e2⟩
theorem sBx_big (ht : ∀ x ∈ t, x < 256) {item : Nat → Rd ((List Tok × List Nat) × Nat)} (hv : IB t item) {d v1 v2 q : Nat} {isMap : Bool} (hq : q ≤ t.length) (h1 : t.length - q < v1) (h2 : t.length - q < v2) : ∃ k, sBx t item d isMap v1 q = .inl k ∧ sIts t item d isMap v2 true q = .inl k := by
  obtain ⟨k, e1, e2⟩ := sIts_big ht hv v1 v2 true q hq h1 h2
  refine ⟨k, ?_, e2⟩
  unfold sBx
  rw [e1]
end SPC
