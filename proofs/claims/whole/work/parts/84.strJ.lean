/-! PURE O: a JSON string and a word, read by the class -/
theorem JOk.of {σ : JSt} {a : Int32} {tg : RSt} {out : List Nat} {r : Rd (List Nat × Nat)} {x : Option (Bool × JSt)} (h : JOk (js_target (js_place σ a) tg) out r x) : JOk σ out r x := by
  cases r with
  | inl kq =>
    obtain ⟨b, tg2, o, e, g⟩ := h
    exact ⟨b, tg2, o, e, g⟩
  | inr bp =>
    obtain ⟨tg2, e, g⟩ := h
    exact ⟨tg2, e, g⟩
theorem z_JOk.of {σ : JSt} {a : Int32} {tg : RSt} {out : List Nat} {r : Rd (List Nat × Nat)} {x : Option (Bool × JSt)} (h : z_JOk (js_target (js_place σ a) tg) out r x) : z_JOk σ out r x := by
  cases r with
  | inl kq =>
    obtain ⟨b, tg2, o, e, g⟩ := h
    exact ⟨b, tg2, o, e, g⟩
  | inr bp =>
    obtain ⟨tg2, e, g⟩ := h
    exact ⟨tg2, e, g⟩
section STJ
variable {t : List Nat}
theorem j_sign {σ : JSt} {out : List Nat} {p : Nat} {k28 : Int32 → Int32 → Int32 → JSt → Option (Bool × JSt)} {a1 a2 : Int32} {i : Nat} (hT : TpR (jf_tape σ) t) (hpl : jf_place σ = nI p) (hp : p ≤ t.length) (hi : i ≤ t.length) (h34 : ¬ gL t p = 34) (hR : RowL 6000 (jf_target σ) out) (ho : out.length ≤ 70000) : ∃ x, JOk σ out (sSgn t p) x ∧ jj_readString_b28 6000 k28 a1 a2 (nI i) σ = bd x (fun y => if y.1 = true then k28 a1 a2 (nI (i + 1)) y.2 else some (false, y.2)) := by
  have hle := hT.2
  unfold jj_readString_b28
  rw [bd_of hT.sz]
  simp only []
  rw [if_neg (show ¬ nI t.length < nI i from nI_nlt hi (by omega)), hpl, bd_of (hT.at (by omega))]
  simp only []
  rw [if_neg h34, js_tape_id, js_tape_id]
  unfold sSgn
  by_cases c1 : gL t p = 92
  · have hp2 : p < t.length := gL_lit (v := 92) (by decide) rfl c1
    rw [if_pos c1, if_pos c1, nI_1, bd_of (hT.at (by omega))]
    simp only []
    rw [js_tape_id]
    by_cases c2 : gL t (p + 1) = 117
    · rw [if_pos c2, if_pos c2]
      unfold jj_readString_b120
      rw [if_neg (show ¬ (1 : Int32) = 0 by decide)]
      refine ⟨_, j_coded hT hpl hp2 c1 c2 hR ho, ?_⟩
      simp only [lt, nI_1]
    · rw [if_neg c2, if_neg c2]
      unfold jj_readString_b120
      rw [if_pos (show (0 : Int32) = 0 from rfl), if_pos c1]
      refine ⟨_, j_letter hT hpl hp2 hR ho, ?_⟩
      simp only [lt, nI_1]
  · rw [if_neg c1, if_neg c1]
    unfold jj_readString_b120
    rw [if_pos (show (0 : Int32) = 0 from rfl), if_neg c1]
    by_cases c2 : gL t p < 32
    · rw [if_pos c2]
      refine ⟨_, j_plain_low hpl c2 hR ho, ?_⟩
      simp only [lt, nI_1]
    · rw [if_neg c2]
      have hp2 : p < t.length := by
        rcases Nat.lt_or_ge p t.length with z | z
        · exact z
        · rw [gL_out z] at c2; exact absurd (by decide) c2
      refine ⟨_, j_plain hT hpl hp2 c2 hR ho, ?_⟩
      simp only [lt, nI_1]
theorem z_j_sign {σ : JSt} {out : List Nat} {p : Nat} {k28 : Int32 → Int32 → Int32 → JSt → Option (Bool × JSt)} {a1 a2 : Int32} {i : Nat} (hT : TpR (jf_tape σ) t) (hpl : jf_place σ = nI p) (hp : p ≤ t.length) (hi : i ≤ t.length) (h34 : ¬ gL t p = 34) (hR : RowL 0 (jf_target σ) out) (ho : out.length ≤ 70000) : ∃ x, z_JOk σ out (sSgn t p) x ∧ jj_readString_b28 0 k28 a1 a2 (nI i) σ = bd x (fun y => if y.1 = true then k28 a1 a2 (nI (i + 1)) y.2 else some (false, y.2)) := by
  have hle := hT.2
  unfold jj_readString_b28
  rw [bd_of hT.sz]
  simp only []
  rw [if_neg (show ¬ nI t.length < nI i from nI_nlt hi (by omega)), hpl, bd_of (hT.at (by omega))]
  simp only []
  rw [if_neg h34, js_tape_id, js_tape_id]
  unfold sSgn
  by_cases c1 : gL t p = 92
  · have hp2 : p < t.length := gL_lit (v := 92) (by decide) rfl c1
    rw [if_pos c1, if_pos c1, nI_1, bd_of (hT.at (by omega))]
    simp only []
    rw [js_tape_id]
    by_cases c2 : gL t (p + 1) = 117
    · rw [if_pos c2, if_pos c2]
      unfold jj_readString_b120
      rw [if_neg (show ¬ (1 : Int32) = 0 by decide)]
      refine ⟨_, z_j_coded hT hpl hp2 c1 c2 hR ho, ?_⟩
      simp only [lt, nI_1]
    · rw [if_neg c2, if_neg c2]
      unfold jj_readString_b120
      rw [if_pos (show (0 : Int32) = 0 from rfl), if_pos c1]
      refine ⟨_, z_j_letter hT hpl hp2 hR ho, ?_⟩
      simp only [lt, nI_1]
  · rw [if_neg c1, if_neg c1]
    unfold jj_readString_b120
    rw [if_pos (show (0 : Int32) = 0 from rfl), if_neg c1]
    by_cases c2 : gL t p < 32
    · rw [if_pos c2]
      refine ⟨_, z_j_plain_low hpl c2 hR ho, ?_⟩
      simp only [lt, nI_1]
    · rw [if_neg c2]
      have hp2 : p < t.length := by
        rcases Nat.lt_or_ge p t.length with z | z
        · exact z
        · rw [gL_out z] at c2; exact absurd (by decide) c2
      refine ⟨_, z_j_plain hT hpl hp2 c2 hR ho, ?_⟩
      simp only [lt, nI_1]
theorem j_str_loop {pre : List Nat} : ∀ (m i f : Nat) (σ : JSt) (p : Nat) (acc : List Nat), t.length - p < m → m < f → i ≤ p → p ≤ t.length → TpR (jf_tape σ) t → jf_place σ = nI p → RowL 6000 (jf_target σ) (pre ++ 0 :: acc) → pre.length + acc.length + (t.length - p) ≤ 69000 → JOk σ pre (mapR (fun y => (hd 3 (acc ++ y.1).length ++ (acc ++ y.1), y.2)) (sStrF t m p)) (jj_readString_L28 6000 f (nI pre.length) (nI (pre.length + 1)) (nI i) σ) := by
  intro m
  induction m with
  | zero => intro i f σ p acc h; omega
  | succ m ih =>
    intro i f σ p acc hm hf hi hp hT hpl hR ho
    obtain ⟨f, rfl⟩ : ∃ g, f = g + 1 := ⟨f - 1, by omega⟩
    have hle := hT.2
    have hlen : (pre ++ 0 :: acc).length = pre.length + 1 + acc.length := by simp; omega
    show JOk σ pre _ (jj_readString_b28 6000 (jj_readString_L28 6000 f) _ _ _ σ)
    unfold sStrF
    by_cases c : gL t p = 34
    · rw [if_pos c]
      unfold jj_readString_b28
      rw [bd_of hT.sz]
      simp only []
      rw [if_neg (show ¬ nI t.length < nI i from nI_nlt (by omega) (by omega)), hpl, bd_of (hT.at (by omega))]
      simp only []
      rw [if_pos c, bd_of (show rr_size 6000 (jf_target σ) = some (nI (pre ++ 0 :: acc).length, jf_target σ) by rw [rr_size_eq, hR.1])]
      simp only []
      rw [hlen, pk_sub (by omega), show pre.length + 1 + acc.length - (pre.length + 1) = acc.length by omega, nI_l (by omega)]
      obtain ⟨tg, e1, e2⟩ := closeHead_row hR (by decide) (by decide) (by omega) (t := 3) (u := acc.length) (by decide) (by omega)
      rw [bd_of (show rr_closeHead 6000 (nI pre.length) (3 : Int32) (lN acc.length) (jf_target σ) = some tg from e1)]
      refine ⟨tg, ?_, ?_⟩
      · rw [js_tape_id, js_tape_id, nI_1]
        rfl
      · simp only [List.append_nil]
        rw [← List.append_assoc]
        exact e2
    · rw [if_neg c]
      obtain ⟨x, hx, e⟩ := j_sign (k28 := jj_readString_L28 6000 f) (a1 := nI pre.length) (a2 := nI (pre.length + 1)) hT hpl hp (by omega : i ≤ t.length) c hR (by omega)
      rw [e]
      cases hs : sSgn t p with
      | inl kq =>
        rw [hs] at hx
        obtain ⟨a, tg, o, ex, g⟩ := hx
        rw [ex, bd_of rfl]
        exact ⟨a, tg, o, rfl, g⟩
      | inr bp =>
        obtain ⟨b1, p1⟩ := bp
        have g1 := sSgn_bd hT.1.2.2 hs
        rw [hs] at hx
        obtain ⟨tg, ex, g⟩ := hx
        rw [ex, bd_of rfl]
        simp only []
        rw [if_pos trivial]
        rw [List.append_assoc] at g
        have hal : (acc ++ b1).length = acc.length + b1.length := List.length_append
        have r := ih (i + 1) f (js_target (js_place σ (nI p1)) tg) p1 (acc ++ b1) (by omega) (by omega) (by omega) g1.2.1 (by simp only [jG_depthLimit_depthLimit, jG_depthLimit_place, jG_depthLimit_faultKind, jG_depthLimit_faultPlace, jG_depthLimit_tape, jG_depthLimit_target, jG_place_depthLimit, jG_place_place, jG_place_faultKind, jG_place_faultPlace, jG_place_tape, jG_place_target, jG_faultKind_depthLimit, jG_faultKind_place, jG_faultKind_faultKind, jG_faultKind_faultPlace, jG_faultKind_tape, jG_faultKind_target, jG_faultPlace_depthLimit, jG_faultPlace_place, jG_faultPlace_faultKind, jG_faultPlace_faultPlace, jG_faultPlace_tape, jG_faultPlace_target, jG_tape_depthLimit, jG_tape_place, jG_tape_faultKind, jG_tape_faultPlace, jG_tape_tape, jG_tape_target, jG_target_depthLimit, jG_target_place, jG_target_faultKind, jG_target_faultPlace, jG_target_tape, jG_target_target]; exact hT) (by simp only [jG_depthLimit_depthLimit, jG_depthLimit_place, jG_depthLimit_faultKind, jG_depthLimit_faultPlace, jG_depthLimit_tape, jG_depthLimit_target, jG_place_depthLimit, jG_place_place, jG_place_faultKind, jG_place_faultPlace, jG_place_tape, jG_place_target, jG_faultKind_depthLimit, jG_faultKind_place, jG_faultKind_faultKind, jG_faultKind_faultPlace, jG_faultKind_tape, jG_faultKind_target, jG_faultPlace_depthLimit, jG_faultPlace_place, jG_faultPlace_faultKind, jG_faultPlace_faultPlace, jG_faultPlace_tape, jG_faultPlace_target, jG_tape_depthLimit, jG_tape_place, jG_tape_faultKind, jG_tape_faultPlace, jG_tape_tape, jG_tape_target, jG_target_depthLimit, jG_target_place, jG_target_faultKind, jG_target_faultPlace, jG_target_tape, jG_target_target]) (by simp only [jG_depthLimit_depthLimit, jG_depthLimit_place, jG_depthLimit_faultKind, jG_depthLimit_faultPlace, jG_depthLimit_tape, jG_depthLimit_target, jG_place_depthLimit, jG_place_place, jG_place_faultKind, jG_place_faultPlace, jG_place_tape, jG_place_target, jG_faultKind_depthLimit, jG_faultKind_place, jG_faultKind_faultKind, jG_faultKind_faultPlace, jG_faultKind_tape, jG_faultKind_target, jG_faultPlace_depthLimit, jG_faultPlace_place, jG_faultPlace_faultKind, jG_faultPlace_faultPlace, jG_faultPlace_tape, jG_faultPlace_target, jG_tape_depthLimit, jG_tape_place, jG_tape_faultKind, jG_tape_faultPlace, jG_tape_tape, jG_tape_target, jG_target_depthLimit, jG_target_place, jG_target_faultKind, jG_target_faultPlace, jG_target_tape, jG_target_target]; exact g) (by omega)
        have r2 := r.of
        cases hr : sStrF t m p1 with
        | inl k =>
          rw [hr] at r2
          exact r2
        | inr cq =>
          rw [hr] at r2
          obtain ⟨c1, q1⟩ := cq
          simp only [mapR, List.append_assoc] at r2 ⊢
          exact r2
theorem z_j_str_loop {pre : List Nat} : ∀ (m i f : Nat) (σ : JSt) (p : Nat) (acc : List Nat), t.length - p < m → m < f → i ≤ p → p ≤ t.length → TpR (jf_tape σ) t → jf_place σ = nI p → RowL 0 (jf_target σ) (pre ++ 0 :: acc) → pre.length + acc.length + (t.length - p) ≤ 69000 → z_JOk σ pre (mapR (fun y => (hd 3 (acc ++ y.1).length ++ (acc ++ y.1), y.2)) (sStrF t m p)) (jj_readString_L28 0 f (nI pre.length) (nI (pre.length + 1)) (nI i) σ) := by
  intro m
  induction m with
  | zero => intro i f σ p acc h; omega
  | succ m ih =>
    intro i f σ p acc hm hf hi hp hT hpl hR ho
    obtain ⟨f, rfl⟩ : ∃ g, f = g + 1 := ⟨f - 1, by omega⟩
    have hle := hT.2
    have hlen : (pre ++ 0 :: acc).length = pre.length + 1 + acc.length := by simp; omega
    show z_JOk σ pre _ (jj_readString_b28 0 (jj_readString_L28 0 f) _ _ _ σ)
    unfold sStrF
    by_cases c : gL t p = 34
    · rw [if_pos c]
      unfold jj_readString_b28
      rw [bd_of hT.sz]
      simp only []
      rw [if_neg (show ¬ nI t.length < nI i from nI_nlt (by omega) (by omega)), hpl, bd_of (hT.at (by omega))]
      simp only []
      rw [if_pos c, bd_of (show rr_size 0 (jf_target σ) = some (nI (pre ++ 0 :: acc).length, jf_target σ) by rw [rr_size_eq, hR.1])]
      simp only []
      rw [hlen, pk_sub (by omega), show pre.length + 1 + acc.length - (pre.length + 1) = acc.length by omega, nI_l (by omega)]
      obtain ⟨tg, e1, e2⟩ := closeHead_row hR (by decide) (by decide) (by omega) (t := 3) (u := acc.length) (by decide) (by omega)
      rw [bd_of (show rr_closeHead 0 (nI pre.length) (3 : Int32) (lN acc.length) (jf_target σ) = some tg from e1)]
      refine ⟨tg, ?_, ?_⟩
      · rw [js_tape_id, js_tape_id, nI_1]
        rfl
      · simp only [List.append_nil]
        rw [← List.append_assoc]
        exact e2
    · rw [if_neg c]
      obtain ⟨x, hx, e⟩ := z_j_sign (k28 := jj_readString_L28 0 f) (a1 := nI pre.length) (a2 := nI (pre.length + 1)) hT hpl hp (by omega : i ≤ t.length) c hR (by omega)
      rw [e]
      cases hs : sSgn t p with
      | inl kq =>
        rw [hs] at hx
        obtain ⟨a, tg, o, ex, g⟩ := hx
        rw [ex, bd_of rfl]
        exact ⟨a, tg, o, rfl, g⟩
      | inr bp =>
        obtain ⟨b1, p1⟩ := bp
        have g1 := sSgn_bd hT.1.2.2 hs
        rw [hs] at hx
        obtain ⟨tg, ex, g⟩ := hx
        rw [ex, bd_of rfl]
        simp only []
        rw [if_pos trivial]
        rw [List.append_assoc] at g
        have hal : (acc ++ b1).length = acc.length + b1.length := List.length_append
        have r := ih (i + 1) f (js_target (js_place σ (nI p1)) tg) p1 (acc ++ b1) (by omega) (by omega) (by omega) g1.2.1 (by simp only [jG_depthLimit_depthLimit, jG_depthLimit_place, jG_depthLimit_faultKind, jG_depthLimit_faultPlace, jG_depthLimit_tape, jG_depthLimit_target, jG_place_depthLimit, jG_place_place, jG_place_faultKind, jG_place_faultPlace, jG_place_tape, jG_place_target, jG_faultKind_depthLimit, jG_faultKind_place, jG_faultKind_faultKind, jG_faultKind_faultPlace, jG_faultKind_tape, jG_faultKind_target, jG_faultPlace_depthLimit, jG_faultPlace_place, jG_faultPlace_faultKind, jG_faultPlace_faultPlace, jG_faultPlace_tape, jG_faultPlace_target, jG_tape_depthLimit, jG_tape_place, jG_tape_faultKind, jG_tape_faultPlace, jG_tape_tape, jG_tape_target, jG_target_depthLimit, jG_target_place, jG_target_faultKind, jG_target_faultPlace, jG_target_tape, jG_target_target]; exact hT) (by simp only [jG_depthLimit_depthLimit, jG_depthLimit_place, jG_depthLimit_faultKind, jG_depthLimit_faultPlace, jG_depthLimit_tape, jG_depthLimit_target, jG_place_depthLimit, jG_place_place, jG_place_faultKind, jG_place_faultPlace, jG_place_tape, jG_place_target, jG_faultKind_depthLimit, jG_faultKind_place, jG_faultKind_faultKind, jG_faultKind_faultPlace, jG_faultKind_tape, jG_faultKind_target, jG_faultPlace_depthLimit, jG_faultPlace_place, jG_faultPlace_faultKind, jG_faultPlace_faultPlace, jG_faultPlace_tape, jG_faultPlace_target, jG_tape_depthLimit, jG_tape_place, jG_tape_faultKind, jG_tape_faultPlace, jG_tape_tape, jG_tape_target, jG_target_depthLimit, jG_target_place, jG_target_faultKind, jG_target_faultPlace, jG_target_tape, jG_target_target]) (by simp only [jG_depthLimit_depthLimit, jG_depthLimit_place, jG_depthLimit_faultKind, jG_depthLimit_faultPlace, jG_depthLimit_tape, jG_depthLimit_target, jG_place_depthLimit, jG_place_place, jG_place_faultKind, jG_place_faultPlace, jG_place_tape, jG_place_target, jG_faultKind_depthLimit, jG_faultKind_place, jG_faultKind_faultKind, jG_faultKind_faultPlace, jG_faultKind_tape, jG_faultKind_target, jG_faultPlace_depthLimit, jG_faultPlace_place, jG_faultPlace_faultKind, jG_faultPlace_faultPlace, jG_faultPlace_tape, jG_faultPlace_target, jG_tape_depthLimit, jG_tape_place, jG_tape_faultKind, jG_tape_faultPlace, jG_tape_tape, jG_tape_target, jG_target_depthLimit, jG_target_place, jG_target_faultKind, jG_target_faultPlace, jG_target_tape, jG_target_target]; exact g) (by omega)
        have r2 := r.of
        cases hr : sStrF t m p1 with
        | inl k =>
          rw [hr] at r2
          exact r2
        | inr cq =>
          rw [hr] at r2
          obtain ⟨c1, q1⟩ := cq
          simp only [mapR, List.append_assoc] at r2 ⊢
          exact r2
/-- the string at p: its bytes in CBOR -/
theorem j_string {σ : JSt} {out : List Nat} {p : Nat} (hT : TpR (jf_tape σ) t) (hpl : jf_place σ = nI p) (hp : p < t.length) (hR : RowL 6000 (jf_target σ) out) (ho : out.length ≤ 60000) : JOk σ out (mapR (fun y => (hd 3 y.1.length ++ y.1, y.2)) (sStr t p)) (jj_readString 6000 σ) := by
  have hle := hT.2
  unfold jj_readString
  obtain ⟨r1, e1, g1⟩ := openHead_row hR (by decide) (by omega)
  rw [bd_of e1]
  simp only []
  rw [bd_of (show rr_size 6000 r1 = some (nI (out.length + 1), r1) by rw [rr_size_eq, g1.1, List.length_append]; rfl)]
  simp only []
  rw [hpl, nI_1]
  have r := j_str_loop (t := t) (pre := out) 4002 0 FU (js_target (js_place σ (nI (p + 1))) r1) (p + 1) [] (by omega) (by decide) (by omega) (by omega) (by simp only [jG_depthLimit_depthLimit, jG_depthLimit_place, jG_depthLimit_faultKind, jG_depthLimit_faultPlace, jG_depthLimit_tape, jG_depthLimit_target, jG_place_depthLimit, jG_place_place, jG_place_faultKind, jG_place_faultPlace, jG_place_tape, jG_place_target, jG_faultKind_depthLimit, jG_faultKind_place, jG_faultKind_faultKind, jG_faultKind_faultPlace, jG_faultKind_tape, jG_faultKind_target, jG_faultPlace_depthLimit, jG_faultPlace_place, jG_faultPlace_faultKind, jG_faultPlace_faultPlace, jG_faultPlace_tape, jG_faultPlace_target, jG_tape_depthLimit, jG_tape_place, jG_tape_faultKind, jG_tape_faultPlace, jG_tape_tape, jG_tape_target, jG_target_depthLimit, jG_target_place, jG_target_faultKind, jG_target_faultPlace, jG_target_tape, jG_target_target]; exact hT) (by simp only [jG_depthLimit_depthLimit, jG_depthLimit_place, jG_depthLimit_faultKind, jG_depthLimit_faultPlace, jG_depthLimit_tape, jG_depthLimit_target, jG_place_depthLimit, jG_place_place, jG_place_faultKind, jG_place_faultPlace, jG_place_tape, jG_place_target, jG_faultKind_depthLimit, jG_faultKind_place, jG_faultKind_faultKind, jG_faultKind_faultPlace, jG_faultKind_tape, jG_faultKind_target, jG_faultPlace_depthLimit, jG_faultPlace_place, jG_faultPlace_faultKind, jG_faultPlace_faultPlace, jG_faultPlace_tape, jG_faultPlace_target, jG_tape_depthLimit, jG_tape_place, jG_tape_faultKind, jG_tape_faultPlace, jG_tape_tape, jG_tape_target, jG_target_depthLimit, jG_target_place, jG_target_faultKind, jG_target_faultPlace, jG_target_tape, jG_target_target]) (by simp only [jG_depthLimit_depthLimit, jG_depthLimit_place, jG_depthLimit_faultKind, jG_depthLimit_faultPlace, jG_depthLimit_tape, jG_depthLimit_target, jG_place_depthLimit, jG_place_place, jG_place_faultKind, jG_place_faultPlace, jG_place_tape, jG_place_target, jG_faultKind_depthLimit, jG_faultKind_place, jG_faultKind_faultKind, jG_faultKind_faultPlace, jG_faultKind_tape, jG_faultKind_target, jG_faultPlace_depthLimit, jG_faultPlace_place, jG_faultPlace_faultKind, jG_faultPlace_faultPlace, jG_faultPlace_tape, jG_faultPlace_target, jG_tape_depthLimit, jG_tape_place, jG_tape_faultKind, jG_tape_faultPlace, jG_tape_tape, jG_tape_target, jG_target_depthLimit, jG_target_place, jG_target_faultKind, jG_target_faultPlace, jG_target_tape, jG_target_target]; exact g1) (by simp; omega)
  exact r.of
/-- the string at p: its bytes in CBOR -/
theorem z_j_string {σ : JSt} {out : List Nat} {p : Nat} (hT : TpR (jf_tape σ) t) (hpl : jf_place σ = nI p) (hp : p < t.length) (hR : RowL 0 (jf_target σ) out) (ho : out.length ≤ 60000) : z_JOk σ out (mapR (fun y => (hd 3 y.1.length ++ y.1, y.2)) (sStr t p)) (jj_readString 0 σ) := by
  have hle := hT.2
  unfold jj_readString
  obtain ⟨r1, e1, g1⟩ := openHead_row hR (by decide) (by omega)
  rw [bd_of e1]
  simp only []
  rw [bd_of (show rr_size 0 r1 = some (nI (out.length + 1), r1) by rw [rr_size_eq, g1.1, List.length_append]; rfl)]
  simp only []
  rw [hpl, nI_1]
  have r := z_j_str_loop (t := t) (pre := out) 4002 0 FU (js_target (js_place σ (nI (p + 1))) r1) (p + 1) [] (by omega) (by decide) (by omega) (by omega) (by simp only [jG_depthLimit_depthLimit, jG_depthLimit_place, jG_depthLimit_faultKind, jG_depthLimit_faultPlace, jG_depthLimit_tape, jG_depthLimit_target, jG_place_depthLimit, jG_place_place, jG_place_faultKind, jG_place_faultPlace, jG_place_tape, jG_place_target, jG_faultKind_depthLimit, jG_faultKind_place, jG_faultKind_faultKind, jG_faultKind_faultPlace, jG_faultKind_tape, jG_faultKind_target, jG_faultPlace_depthLimit, jG_faultPlace_place, jG_faultPlace_faultKind, jG_faultPlace_faultPlace, jG_faultPlace_tape, jG_faultPlace_target, jG_tape_depthLimit, jG_tape_place, jG_tape_faultKind, jG_tape_faultPlace, jG_tape_tape, jG_tape_target, jG_target_depthLimit, jG_target_place, jG_target_faultKind, jG_target_faultPlace, jG_target_tape, jG_target_target]; exact hT) (by simp only [jG_depthLimit_depthLimit, jG_depthLimit_place, jG_depthLimit_faultKind, jG_depthLimit_faultPlace, jG_depthLimit_tape, jG_depthLimit_target, jG_place_depthLimit, jG_place_place, jG_place_faultKind, jG_place_faultPlace, jG_place_tape, jG_place_target, jG_faultKind_depthLimit, jG_faultKind_place, jG_faultKind_faultKind, jG_faultKind_faultPlace, jG_faultKind_tape, jG_faultKind_target, jG_faultPlace_depthLimit, jG_faultPlace_place, jG_faultPlace_faultKind, jG_faultPlace_faultPlace, jG_faultPlace_tape, jG_faultPlace_target, jG_tape_depthLimit, jG_tape_place, jG_tape_faultKind, jG_tape_faultPlace, jG_tape_tape, jG_tape_target, jG_target_depthLimit, jG_target_place, jG_target_faultKind, jG_target_faultPlace, jG_target_tape, jG_target_target]) (by simp only [jG_depthLimit_depthLimit, jG_depthLimit_place, jG_depthLimit_faultKind, jG_depthLimit_faultPlace, jG_depthLimit_tape, jG_depthLimit_target, jG_place_depthLimit, jG_place_place, jG_place_faultKind, jG_place_faultPlace, jG_place_tape, jG_place_target, jG_faultKind_depthLimit, jG_faultKind_place, jG_faultKind_faultKind, jG_faultKind_faultPlace, jG_faultKind_tape, jG_faultKind_target, jG_faultPlace_depthLimit, jG_faultPlace_place, jG_faultPlace_faultKind, jG_faultPlace_faultPlace, jG_faultPlace_tape, jG_faultPlace_target, jG_tape_depthLimit, jG_tape_place, jG_tape_faultKind, jG_tape_faultPlace, jG_tape_tape, jG_tape_target, jG_target_depthLimit, jG_target_place, jG_target_faultKind, jG_target_faultPlace, jG_target_tape, jG_target_target]; exact g1) (by simp; omega)
  exact r.of
end STJ
def sWdm (t : List Nat) (sI p : Nat) : Nat → Nat → Rd Nat
  | 0, k => .inr (p + k)
  | m + 1, k => if gL t (p + k) = sCh sI (nI k) then sWdm t sI p m (k + 1) else .inl (1, p + k)
/-- a word at p -/
def sWd (t : List Nat) (sI p : Nat) : Rd Nat := sWdm t sI p (sLn sI) 0
theorem word_ch : ∀ sI, sI < 3 → sLn sI ≤ 5 ∧ sLen sI = nI (sLn sI) ∧ ∀ k, k < sLn sI → (sCh sI (nI k)).toNatClampNeg < 256 ∧ sCh sI (nI k) = nI (sCh sI (nI k)).toNatClampNeg := by decide +kernel
theorem sWdm_bd {t : List Nat} {sI p : Nat} (hs : sI < 3) : ∀ m k, k + m = sLn sI → ∀ q, p + k ≤ t.length → sWdm t sI p m k = .inr q → q = p + sLn sI ∧ q ≤ t.length := by
  intro m
  induction m with
  | zero =>
    intro k hk q hp h
    have := Sum.inr.inj h
    omega
  | succ m ih =>
    intro k hk q hp h
    unfold sWdm at h
    split at h
    · rename_i c
      have g := (word_ch sI hs).2.2 k (by omega)
      have := gL_lit g.1 g.2 c
      exact ih (k + 1) (by omega) q (by omega) h
    · cases h
theorem j_word_loop {t : List Nat} {sI p w : Nat} {out : List Nat} (hs : sI < 3) (hp : p ≤ t.length) (hw : w < 256) (ho : out.length ≤ 60000) : ∀ (m k f : Nat) (σ : JSt), k + m = sLn sI → m < f → p + k ≤ t.length → TpR (jf_tape σ) t → jf_place σ = nI (p + k) → RowL 6000 (jf_target σ) out → JOk σ out (mapR (fun q => (hd 7 w, q)) (sWdm t sI p m k)) (jj_readWord_L2 6000 sI f (nI w) (nI k) σ) := by
  have hc := word_ch sI hs
  intro m
  induction m with
  | zero =>
    intro k f σ hk hf hpk hT hpl hR
    obtain ⟨f, rfl⟩ : ∃ g, f = g + 1 := ⟨f - 1, by omega⟩
    show JOk σ out _ (jj_readWord_b2 6000 sI _ _ _ σ)
    unfold jj_readWord_b2
    rw [hc.2.1, if_pos (nI_le (by omega) (by omega)), nI_l (by omega)]
    obtain ⟨tg, e1, e2⟩ := putHead_row hR (by decide) (by decide) (by omega) (t := 7) (u := w) (by decide) (by omega)
    rw [bd_of (show rr_putHead 6000 (7 : Int32) (lN w) (jf_target σ) = some tg from e1)]
    refine ⟨tg, ?_, e2⟩
    show _ = some (true, js_target (js_place σ (nI (p + k))) tg)
    rw [← hpl, js_place_id]
  | succ m ih =>
    intro k f σ hk hf hpk hT hpl hR
    obtain ⟨f, rfl⟩ : ∃ g, f = g + 1 := ⟨f - 1, by omega⟩
    have hle := hT.2
    show JOk σ out _ (jj_readWord_b2 6000 sI (jj_readWord_L2 6000 sI f) _ _ σ)
    unfold jj_readWord_b2 sWdm
    rw [hc.2.1, if_neg (nI_ge (by omega) (by omega)), hpl, bd_of (hT.at (by omega)), ck_in (vp_in_nI (by omega) (by omega))]
    simp only [lt]
    rw [js_tape_id]
    by_cases c : gL t (p + k) = sCh sI (nI k)
    · have g := hc.2.2 k (by omega)
      have := gL_lit g.1 g.2 c
      rw [if_pos c, if_pos c, nI_1, nI_1]
      exact JOk.of (a := nI (p + (k + 1))) (tg := jf_target σ) (ih (k + 1) f (js_place σ (nI (p + (k + 1)))) (by omega) (by omega) (by omega) (by simp only [jG_depthLimit_depthLimit, jG_depthLimit_place, jG_depthLimit_faultKind, jG_depthLimit_faultPlace, jG_depthLimit_tape, jG_depthLimit_target, jG_place_depthLimit, jG_place_place, jG_place_faultKind, jG_place_faultPlace, jG_place_tape, jG_place_target, jG_faultKind_depthLimit, jG_faultKind_place, jG_faultKind_faultKind, jG_faultKind_faultPlace, jG_faultKind_tape, jG_faultKind_target, jG_faultPlace_depthLimit, jG_faultPlace_place, jG_faultPlace_faultKind, jG_faultPlace_faultPlace, jG_faultPlace_tape, jG_faultPlace_target, jG_tape_depthLimit, jG_tape_place, jG_tape_faultKind, jG_tape_faultPlace, jG_tape_tape, jG_tape_target, jG_target_depthLimit, jG_target_place, jG_target_faultKind, jG_target_faultPlace, jG_target_tape, jG_target_target]; exact hT) (by simp only [jG_depthLimit_depthLimit, jG_depthLimit_place, jG_depthLimit_faultKind, jG_depthLimit_faultPlace, jG_depthLimit_tape, jG_depthLimit_target, jG_place_depthLimit, jG_place_place, jG_place_faultKind, jG_place_faultPlace, jG_place_tape, jG_place_target, jG_faultKind_depthLimit, jG_faultKind_place, jG_faultKind_faultKind, jG_faultKind_faultPlace, jG_faultKind_tape, jG_faultKind_target, jG_faultPlace_depthLimit, jG_faultPlace_place, jG_faultPlace_faultKind, jG_faultPlace_faultPlace, jG_faultPlace_tape, jG_faultPlace_target, jG_tape_depthLimit, jG_tape_place, jG_tape_faultKind, jG_tape_faultPlace, jG_tape_tape, jG_tape_target, jG_target_depthLimit, jG_target_place, jG_target_faultKind, jG_target_faultPlace, jG_target_tape, jG_target_target]) (by simp only [jG_depthLimit_depthLimit, jG_depthLimit_place, jG_depthLimit_faultKind, jG_depthLimit_faultPlace, jG_depthLimit_tape, jG_depthLimit_target, jG_place_depthLimit, jG_place_place, jG_place_faultKind, jG_place_faultPlace, jG_place_tape, jG_place_target, jG_faultKind_depthLimit, jG_faultKind_place, jG_faultKind_faultKind, jG_faultKind_faultPlace, jG_faultKind_tape, jG_faultKind_target, jG_faultPlace_depthLimit, jG_faultPlace_place, jG_faultPlace_faultKind, jG_faultPlace_faultPlace, jG_faultPlace_tape, jG_faultPlace_target, jG_tape_depthLimit, jG_tape_place, jG_tape_faultKind, jG_tape_faultPlace, jG_tape_tape, jG_tape_target, jG_target_depthLimit, jG_target_place, jG_target_faultKind, jG_target_faultPlace, jG_target_tape, jG_target_target]; exact hR))
    · rw [if_neg c, if_neg c]
      exact ⟨nI (p + k), jf_target σ, out, by rw [show js_place σ (nI (p + k)) = σ by rw [← hpl, js_place_id]]; rfl, hR, by omega⟩
theorem z_j_word_loop {t : List Nat} {sI p w : Nat} {out : List Nat} (hs : sI < 3) (hp : p ≤ t.length) (hw : w < 256) (ho : out.length ≤ 60000) : ∀ (m k f : Nat) (σ : JSt), k + m = sLn sI → m < f → p + k ≤ t.length → TpR (jf_tape σ) t → jf_place σ = nI (p + k) → RowL 0 (jf_target σ) out → z_JOk σ out (mapR (fun q => (hd 7 w, q)) (sWdm t sI p m k)) (jj_readWord_L2 0 sI f (nI w) (nI k) σ) := by
  have hc := word_ch sI hs
  intro m
  induction m with
  | zero =>
    intro k f σ hk hf hpk hT hpl hR
    obtain ⟨f, rfl⟩ : ∃ g, f = g + 1 := ⟨f - 1, by omega⟩
    show z_JOk σ out _ (jj_readWord_b2 0 sI _ _ _ σ)
    unfold jj_readWord_b2
    rw [hc.2.1, if_pos (nI_le (by omega) (by omega)), nI_l (by omega)]
    obtain ⟨tg, e1, e2⟩ := putHead_row hR (by decide) (by decide) (by omega) (t := 7) (u := w) (by decide) (by omega)
    rw [bd_of (show rr_putHead 0 (7 : Int32) (lN w) (jf_target σ) = some tg from e1)]
    refine ⟨tg, ?_, e2⟩
    show _ = some (true, js_target (js_place σ (nI (p + k))) tg)
    rw [← hpl, js_place_id]
  | succ m ih =>
    intro k f σ hk hf hpk hT hpl hR
    obtain ⟨f, rfl⟩ : ∃ g, f = g + 1 := ⟨f - 1, by omega⟩
    have hle := hT.2
    show z_JOk σ out _ (jj_readWord_b2 0 sI (jj_readWord_L2 0 sI f) _ _ σ)
    unfold jj_readWord_b2 sWdm
    rw [hc.2.1, if_neg (nI_ge (by omega) (by omega)), hpl, bd_of (hT.at (by omega)), ck_in (vp_in_nI (by omega) (by omega))]
    simp only [lt]
    rw [js_tape_id]
    by_cases c : gL t (p + k) = sCh sI (nI k)
    · have g := hc.2.2 k (by omega)
      have := gL_lit g.1 g.2 c
      rw [if_pos c, if_pos c, nI_1, nI_1]
      exact z_JOk.of (a := nI (p + (k + 1))) (tg := jf_target σ) (ih (k + 1) f (js_place σ (nI (p + (k + 1)))) (by omega) (by omega) (by omega) (by simp only [jG_depthLimit_depthLimit, jG_depthLimit_place, jG_depthLimit_faultKind, jG_depthLimit_faultPlace, jG_depthLimit_tape, jG_depthLimit_target, jG_place_depthLimit, jG_place_place, jG_place_faultKind, jG_place_faultPlace, jG_place_tape, jG_place_target, jG_faultKind_depthLimit, jG_faultKind_place, jG_faultKind_faultKind, jG_faultKind_faultPlace, jG_faultKind_tape, jG_faultKind_target, jG_faultPlace_depthLimit, jG_faultPlace_place, jG_faultPlace_faultKind, jG_faultPlace_faultPlace, jG_faultPlace_tape, jG_faultPlace_target, jG_tape_depthLimit, jG_tape_place, jG_tape_faultKind, jG_tape_faultPlace, jG_tape_tape, jG_tape_target, jG_target_depthLimit, jG_target_place, jG_target_faultKind, jG_target_faultPlace, jG_target_tape, jG_target_target]; exact hT) (by simp only [jG_depthLimit_depthLimit, jG_depthLimit_place, jG_depthLimit_faultKind, jG_depthLimit_faultPlace, jG_depthLimit_tape, jG_depthLimit_target, jG_place_depthLimit, jG_place_place, jG_place_faultKind, jG_place_faultPlace, jG_place_tape, jG_place_target, jG_faultKind_depthLimit, jG_faultKind_place, jG_faultKind_faultKind, jG_faultKind_faultPlace, jG_faultKind_tape, jG_faultKind_target, jG_faultPlace_depthLimit, jG_faultPlace_place, jG_faultPlace_faultKind, jG_faultPlace_faultPlace, jG_faultPlace_tape, jG_faultPlace_target, jG_tape_depthLimit, jG_tape_place, jG_tape_faultKind, jG_tape_faultPlace, jG_tape_tape, jG_tape_target, jG_target_depthLimit, jG_target_place, jG_target_faultKind, jG_target_faultPlace, jG_target_tape, jG_target_target]) (by simp only [jG_depthLimit_depthLimit, jG_depthLimit_place, jG_depthLimit_faultKind, jG_depthLimit_faultPlace, jG_depthLimit_tape, jG_depthLimit_target, jG_place_depthLimit, jG_place_place, jG_place_faultKind, jG_place_faultPlace, jG_place_tape, jG_place_target, jG_faultKind_depthLimit, jG_faultKind_place, jG_faultKind_faultKind, jG_faultKind_faultPlace, jG_faultKind_tape, jG_faultKind_target, jG_faultPlace_depthLimit, jG_faultPlace_place, jG_faultPlace_faultKind, jG_faultPlace_faultPlace, jG_faultPlace_tape, jG_faultPlace_target, jG_tape_depthLimit, jG_tape_place, jG_tape_faultKind, jG_tape_faultPlace, jG_tape_tape, jG_tape_target, jG_target_depthLimit, jG_target_place, jG_target_faultKind, jG_target_faultPlace, jG_target_tape, jG_target_target]; exact hR))
    · rw [if_neg c, if_neg c]
      exact ⟨nI (p + k), jf_target σ, out, by rw [show js_place σ (nI (p + k)) = σ by rw [← hpl, js_place_id]]; rfl, hR, by omega⟩
theorem j_word {t : List Nat} {sI p w : Nat} {out : List Nat} {σ : JSt} (hs : sI < 3) (hp : p ≤ t.length) (hw : w < 256) (ho : out.length ≤ 60000) (hT : TpR (jf_tape σ) t) (hpl : jf_place σ = nI p) (hR : RowL 6000 (jf_target σ) out) : JOk σ out (mapR (fun q => (hd 7 w, q)) (sWd t sI p)) (jj_readWord 6000 sI (nI w) σ) := by
  have := (word_ch sI hs).1
  exact j_word_loop hs hp hw ho (sLn sI) 0 FU σ (by omega) (by show _ < 100000; omega) hp hT hpl hR

theorem z_j_word {t : List Nat} {sI p w : Nat} {out : List Nat} {σ : JSt} (hs : sI < 3) (hp : p ≤ t.length) (hw : w < 256) (ho : out.length ≤ 60000) (hT : TpR (jf_tape σ) t) (hpl : jf_place σ = nI p) (hR : RowL 0 (jf_target σ) out) : z_JOk σ out (mapR (fun q => (hd 7 w, q)) (sWd t sI p)) (jj_readWord 0 sI (nI w) σ) := by
  have := (word_ch sI hs).1
  exact z_j_word_loop hs hp hw ho (sLn sI) 0 FU σ (by omega) (by show _ < 100000; omega) hp hT hpl hR
