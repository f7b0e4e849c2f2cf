/-! PURE Q: a JSON value, read by the class -/
section VJ
variable {t : List Nat}
theorem JOk.map {α : Type} {σ : JSt} {out : List Nat} {r : Rd α} {f g : α → List Nat × Nat} {x : Option (Bool × JSt)} (h : JOk σ out (mapR f r) x) (e : ∀ a, f a = g a) : JOk σ out (mapR g r) x := by
  rw [show f = g from funext e] at h
  exact h
theorem z_JOk.map {α : Type} {σ : JSt} {out : List Nat} {r : Rd α} {f g : α → List Nat × Nat} {x : Option (Bool × JSt)} (h : z_JOk σ out (mapR f r) x) (e : ∀ a, f a = g a) : z_JOk σ out (mapR g r) x := by
  rw [show f = g from funext e] at h
  exact h
theorem js_pl {σ : JSt} {p : Nat} (h : jf_place σ = nI p) : js_place σ (nI p) = σ := by rw [← h, js_place_id]
theorem j_key {σ : JSt} {out : List Nat} {p : Nat} (hT : TpR (jf_tape σ) t) (hpl : jf_place σ = nI p) (hp : p ≤ t.length) (hR : RowL 6000 (jf_target σ) out) (ho : out.length ≤ 60000) : JOk σ out (mapR (fun y => (encL y.1, y.2)) (sKey t true p)) (jj_readKey 6000 σ) := by
  have hle := hT.2
  have hb := sB_le hp
  unfold jj_readKey sKey
  rw [bd_of (j_blanks hT hp hpl), if_pos rfl]
  obtain ⟨σ1, e1⟩ : ∃ σ1, σ1 = js_place σ (nI (sB t p)) := ⟨_, rfl⟩
  have p1 : jf_place σ1 = nI (sB t p) := by rw [e1, jG_place_place]
  have T1 : TpR (jf_tape σ1) t := by rw [e1]; simp only [jG_depthLimit_depthLimit, jG_depthLimit_place, jG_depthLimit_faultKind, jG_depthLimit_faultPlace, jG_depthLimit_tape, jG_depthLimit_target, jG_place_depthLimit, jG_place_place, jG_place_faultKind, jG_place_faultPlace, jG_place_tape, jG_place_target, jG_faultKind_depthLimit, jG_faultKind_place, jG_faultKind_faultKind, jG_faultKind_faultPlace, jG_faultKind_tape, jG_faultKind_target, jG_faultPlace_depthLimit, jG_faultPlace_place, jG_faultPlace_faultKind, jG_faultPlace_faultPlace, jG_faultPlace_tape, jG_faultPlace_target, jG_tape_depthLimit, jG_tape_place, jG_tape_faultKind, jG_tape_faultPlace, jG_tape_tape, jG_tape_target, jG_target_depthLimit, jG_target_place, jG_target_faultKind, jG_target_faultPlace, jG_target_tape, jG_target_target]; exact hT
  have R1 : RowL 6000 (jf_target σ1) out := by rw [e1]; simp only [jG_depthLimit_depthLimit, jG_depthLimit_place, jG_depthLimit_faultKind, jG_depthLimit_faultPlace, jG_depthLimit_tape, jG_depthLimit_target, jG_place_depthLimit, jG_place_place, jG_place_faultKind, jG_place_faultPlace, jG_place_tape, jG_place_target, jG_faultKind_depthLimit, jG_faultKind_place, jG_faultKind_faultKind, jG_faultKind_faultPlace, jG_faultKind_tape, jG_faultKind_target, jG_faultPlace_depthLimit, jG_faultPlace_place, jG_faultPlace_faultKind, jG_faultPlace_faultPlace, jG_faultPlace_tape, jG_faultPlace_target, jG_tape_depthLimit, jG_tape_place, jG_tape_faultKind, jG_tape_faultPlace, jG_tape_tape, jG_tape_target, jG_target_depthLimit, jG_target_place, jG_target_faultKind, jG_target_faultPlace, jG_target_tape, jG_target_target]; exact hR
  have lift : ∀ {r x}, JOk σ1 out r x → JOk σ out r x := fun {r x} h => JOk.of (a := nI (sB t p)) (tg := jf_target σ) (by rw [e1] at h; exact h)
  rw [← e1]
  rw [p1, bd_of (T1.at (by omega))]
  simp only []
  rw [js_tape_id]
  by_cases c : gL t (sB t p) = 34
  · have hp2 := gL_lit (v := 34) (by decide) rfl c
    rw [if_pos c, if_pos c]
    have hs := j_string T1 p1 hp2 R1 ho
    cases hr : sStr t (sB t p) with
    | inl k =>
      rw [hr] at hs
      obtain ⟨a, tg, o, ex, g⟩ := hs
      rw [ex, bd_of rfl]
      exact lift ⟨a, tg, o, rfl, g⟩
    | inr y =>
      obtain ⟨bs, q⟩ := y
      have g1 := sStr_bd hT.1.2.2 hle hp2 hr
      have hq := g1.2.1.2.1
      have hb2 := sB_le hq
      rw [hr] at hs
      obtain ⟨tg, ex, g⟩ := hs
      rw [ex, bd_of rfl]
      simp only []
      rw [if_pos trivial]
      obtain ⟨σ2, e2⟩ : ∃ σ2, σ2 = js_target (js_place σ1 (nI q)) tg := ⟨_, rfl⟩
      have p2 : jf_place σ2 = nI q := by rw [e2]; simp only [jG_depthLimit_depthLimit, jG_depthLimit_place, jG_depthLimit_faultKind, jG_depthLimit_faultPlace, jG_depthLimit_tape, jG_depthLimit_target, jG_place_depthLimit, jG_place_place, jG_place_faultKind, jG_place_faultPlace, jG_place_tape, jG_place_target, jG_faultKind_depthLimit, jG_faultKind_place, jG_faultKind_faultKind, jG_faultKind_faultPlace, jG_faultKind_tape, jG_faultKind_target, jG_faultPlace_depthLimit, jG_faultPlace_place, jG_faultPlace_faultKind, jG_faultPlace_faultPlace, jG_faultPlace_tape, jG_faultPlace_target, jG_tape_depthLimit, jG_tape_place, jG_tape_faultKind, jG_tape_faultPlace, jG_tape_tape, jG_tape_target, jG_target_depthLimit, jG_target_place, jG_target_faultKind, jG_target_faultPlace, jG_target_tape, jG_target_target]
      have T2 : TpR (jf_tape σ2) t := by rw [e2]; simp only [jG_depthLimit_depthLimit, jG_depthLimit_place, jG_depthLimit_faultKind, jG_depthLimit_faultPlace, jG_depthLimit_tape, jG_depthLimit_target, jG_place_depthLimit, jG_place_place, jG_place_faultKind, jG_place_faultPlace, jG_place_tape, jG_place_target, jG_faultKind_depthLimit, jG_faultKind_place, jG_faultKind_faultKind, jG_faultKind_faultPlace, jG_faultKind_tape, jG_faultKind_target, jG_faultPlace_depthLimit, jG_faultPlace_place, jG_faultPlace_faultKind, jG_faultPlace_faultPlace, jG_faultPlace_tape, jG_faultPlace_target, jG_tape_depthLimit, jG_tape_place, jG_tape_faultKind, jG_tape_faultPlace, jG_tape_tape, jG_tape_target, jG_target_depthLimit, jG_target_place, jG_target_faultKind, jG_target_faultPlace, jG_target_tape, jG_target_target]; exact T1
      show JOk σ out _ (bd (jj_skipBlanks 6000 (js_target (js_place σ1 (nI q)) tg)) _)
      rw [← e2, bd_of (j_blanks T2 hq p2)]
      rw [jG_place_place, show jf_tape (js_place σ2 (nI (sB t q))) = jf_tape σ2 from rfl, bd_of (T2.at (by omega))]
      simp only []
      rw [show js_tape (js_place σ2 (nI (sB t q))) (jf_tape σ2) = js_place σ2 (nI (sB t q)) from rfl]
      by_cases c2 : gL t (sB t q) = 58
      · rw [if_pos c2, if_pos c2, js_pp, nI_1, e2]
        refine lift ⟨tg, rfl, ?_⟩
        show RowL 6000 tg (out ++ (hd 3 bs.length ++ bs ++ []))
        rw [List.append_nil]
        exact g
      · rw [if_neg c2, if_neg c2, e2]
        have gl : (out ++ (hd 3 bs.length ++ bs)).length ≤ 100000 := by
          have h1 := hd_len 3 bs.length
          have h2 := nb_le bs.length
          have h3 := g1.2.2
          simp only [List.length_append]
          omega
        exact lift ⟨nI (sB t q), tg, _, rfl, g, gl⟩
  · rw [if_neg c, if_neg c]
    exact lift ⟨nI (sB t p), jf_target σ1, out, by rw [js_pl p1]; rfl, R1, by omega⟩
theorem z_j_key {σ : JSt} {out : List Nat} {p : Nat} (hT : TpR (jf_tape σ) t) (hpl : jf_place σ = nI p) (hp : p ≤ t.length) (hR : RowL 0 (jf_target σ) out) (ho : out.length ≤ 60000) : z_JOk σ out (mapR (fun y => (encL y.1, y.2)) (sKey t true p)) (jj_readKey 0 σ) := by
  have hle := hT.2
  have hb := sB_le hp
  unfold jj_readKey sKey
  rw [bd_of (z_j_blanks hT hp hpl), if_pos rfl]
  obtain ⟨σ1, e1⟩ : ∃ σ1, σ1 = js_place σ (nI (sB t p)) := ⟨_, rfl⟩
  have p1 : jf_place σ1 = nI (sB t p) := by rw [e1, jG_place_place]
  have T1 : TpR (jf_tape σ1) t := by rw [e1]; simp only [jG_depthLimit_depthLimit, jG_depthLimit_place, jG_depthLimit_faultKind, jG_depthLimit_faultPlace, jG_depthLimit_tape, jG_depthLimit_target, jG_place_depthLimit, jG_place_place, jG_place_faultKind, jG_place_faultPlace, jG_place_tape, jG_place_target, jG_faultKind_depthLimit, jG_faultKind_place, jG_faultKind_faultKind, jG_faultKind_faultPlace, jG_faultKind_tape, jG_faultKind_target, jG_faultPlace_depthLimit, jG_faultPlace_place, jG_faultPlace_faultKind, jG_faultPlace_faultPlace, jG_faultPlace_tape, jG_faultPlace_target, jG_tape_depthLimit, jG_tape_place, jG_tape_faultKind, jG_tape_faultPlace, jG_tape_tape, jG_tape_target, jG_target_depthLimit, jG_target_place, jG_target_faultKind, jG_target_faultPlace, jG_target_tape, jG_target_target]; exact hT
  have R1 : RowL 0 (jf_target σ1) out := by rw [e1]; simp only [jG_depthLimit_depthLimit, jG_depthLimit_place, jG_depthLimit_faultKind, jG_depthLimit_faultPlace, jG_depthLimit_tape, jG_depthLimit_target, jG_place_depthLimit, jG_place_place, jG_place_faultKind, jG_place_faultPlace, jG_place_tape, jG_place_target, jG_faultKind_depthLimit, jG_faultKind_place, jG_faultKind_faultKind, jG_faultKind_faultPlace, jG_faultKind_tape, jG_faultKind_target, jG_faultPlace_depthLimit, jG_faultPlace_place, jG_faultPlace_faultKind, jG_faultPlace_faultPlace, jG_faultPlace_tape, jG_faultPlace_target, jG_tape_depthLimit, jG_tape_place, jG_tape_faultKind, jG_tape_faultPlace, jG_tape_tape, jG_tape_target, jG_target_depthLimit, jG_target_place, jG_target_faultKind, jG_target_faultPlace, jG_target_tape, jG_target_target]; exact hR
  have lift : ∀ {r x}, z_JOk σ1 out r x → z_JOk σ out r x := fun {r x} h => z_JOk.of (a := nI (sB t p)) (tg := jf_target σ) (by rw [e1] at h; exact h)
  rw [← e1]
  rw [p1, bd_of (T1.at (by omega))]
  simp only []
  rw [js_tape_id]
  by_cases c : gL t (sB t p) = 34
  · have hp2 := gL_lit (v := 34) (by decide) rfl c
    rw [if_pos c, if_pos c]
    have hs := z_j_string T1 p1 hp2 R1 ho
    cases hr : sStr t (sB t p) with
    | inl k =>
      rw [hr] at hs
      obtain ⟨a, tg, o, ex, g⟩ := hs
      rw [ex, bd_of rfl]
      exact lift ⟨a, tg, o, rfl, g⟩
    | inr y =>
      obtain ⟨bs, q⟩ := y
      have g1 := sStr_bd hT.1.2.2 hle hp2 hr
      have hq := g1.2.1.2.1
      have hb2 := sB_le hq
      rw [hr] at hs
      obtain ⟨tg, ex, g⟩ := hs
      rw [ex, bd_of rfl]
      simp only []
      rw [if_pos trivial]
      obtain ⟨σ2, e2⟩ : ∃ σ2, σ2 = js_target (js_place σ1 (nI q)) tg := ⟨_, rfl⟩
      have p2 : jf_place σ2 = nI q := by rw [e2]; simp only [jG_depthLimit_depthLimit, jG_depthLimit_place, jG_depthLimit_faultKind, jG_depthLimit_faultPlace, jG_depthLimit_tape, jG_depthLimit_target, jG_place_depthLimit, jG_place_place, jG_place_faultKind, jG_place_faultPlace, jG_place_tape, jG_place_target, jG_faultKind_depthLimit, jG_faultKind_place, jG_faultKind_faultKind, jG_faultKind_faultPlace, jG_faultKind_tape, jG_faultKind_target, jG_faultPlace_depthLimit, jG_faultPlace_place, jG_faultPlace_faultKind, jG_faultPlace_faultPlace, jG_faultPlace_tape, jG_faultPlace_target, jG_tape_depthLimit, jG_tape_place, jG_tape_faultKind, jG_tape_faultPlace, jG_tape_tape, jG_tape_target, jG_target_depthLimit, jG_target_place, jG_target_faultKind, jG_target_faultPlace, jG_target_tape, jG_target_target]
      have T2 : TpR (jf_tape σ2) t := by rw [e2]; simp only [jG_depthLimit_depthLimit, jG_depthLimit_place, jG_depthLimit_faultKind, jG_depthLimit_faultPlace, jG_depthLimit_tape, jG_depthLimit_target, jG_place_depthLimit, jG_place_place, jG_place_faultKind, jG_place_faultPlace, jG_place_tape, jG_place_target, jG_faultKind_depthLimit, jG_faultKind_place, jG_faultKind_faultKind, jG_faultKind_faultPlace, jG_faultKind_tape, jG_faultKind_target, jG_faultPlace_depthLimit, jG_faultPlace_place, jG_faultPlace_faultKind, jG_faultPlace_faultPlace, jG_faultPlace_tape, jG_faultPlace_target, jG_tape_depthLimit, jG_tape_place, jG_tape_faultKind, jG_tape_faultPlace, jG_tape_tape, jG_tape_target, jG_target_depthLimit, jG_target_place, jG_target_faultKind, jG_target_faultPlace, jG_target_tape, jG_target_target]; exact T1
      show z_JOk σ out _ (bd (jj_skipBlanks 0 (js_target (js_place σ1 (nI q)) tg)) _)
      rw [← e2, bd_of (z_j_blanks T2 hq p2)]
      rw [jG_place_place, show jf_tape (js_place σ2 (nI (sB t q))) = jf_tape σ2 from rfl, bd_of (T2.at (by omega))]
      simp only []
      rw [show js_tape (js_place σ2 (nI (sB t q))) (jf_tape σ2) = js_place σ2 (nI (sB t q)) from rfl]
      by_cases c2 : gL t (sB t q) = 58
      · rw [if_pos c2, if_pos c2, js_pp, nI_1, e2]
        refine lift ⟨tg, rfl, ?_⟩
        show RowL 0 tg (out ++ (hd 3 bs.length ++ bs ++ []))
        rw [List.append_nil]
        exact g
      · rw [if_neg c2, if_neg c2, e2]
        have gl : (out ++ (hd 3 bs.length ++ bs)).length ≤ 100000 := by
          have h1 := hd_len 3 bs.length
          have h2 := nb_le bs.length
          have h3 := g1.2.2
          simp only [List.length_append]
          omega
        exact lift ⟨nI (sB t q), tg, _, rfl, g, gl⟩
  · rw [if_neg c, if_neg c]
    exact lift ⟨nI (sB t p), jf_target σ1, out, by rw [js_pl p1]; rfl, R1, by omega⟩
theorem cls_v (isMap : Bool) : cls isMap = nI (if isMap = true then 125 else 93) := by cases isMap <;> rfl
/-- what is asked of the reading of a value one deeper -/
def JV (t : List Nat) (L : Nat) (val : Nat → Rd (List Tok × Nat)) (rv : JSt → Option (Bool × JSt)) : Prop := ∀ (σ : JSt) (p : Nat) (out : List Nat), TpR (jf_tape σ) t → jf_depthLimit σ = nI L → jf_place σ = nI p → p ≤ t.length → RowL 6000 (jf_target σ) out → out.length + 10 * (t.length - p) ≤ 50000 → JOk σ out (mapR (fun y => (encL y.1, y.2)) (val (sB t p))) (rv σ)
/-- what is asked of the reading of a value one deeper -/
def z_JV (t : List Nat) (L : Nat) (val : Nat → Rd (List Tok × Nat)) (rv : JSt → Option (Bool × JSt)) : Prop := ∀ (σ : JSt) (p : Nat) (out : List Nat), TpR (jf_tape σ) t → jf_depthLimit σ = nI L → jf_place σ = nI p → p ≤ t.length → RowL 0 (jf_target σ) out → out.length + 10 * (t.length - p) ≤ 50000 → z_JOk σ out (mapR (fun y => (encL y.1, y.2)) (val (sB t p))) (rv σ)
theorem j_parts_loop {L : Nat} {val : Nat → Rd (List Tok × Nat)} {rv : Int32 → JSt → Option (Bool × JSt)} {dep : Int32} {isMap : Bool} {pre : List Nat} (hv : JV t L val (rv (dep + 1))) (hvb : ∀ p, p ≤ t.length → ∀ ts q, val p = .inr (ts, q) → p < q ∧ Bd t p ts q) : ∀ (m c f : Nat) (σ : JSt) (p : Nat) (acc : List Nat), t.length - p < m → m < f → c < p → p ≤ t.length → TpR (jf_tape σ) t → jf_depthLimit σ = nI L → jf_place σ = nI p → RowL 6000 (jf_target σ) (pre ++ 0 :: acc) → pre.length + 1 + acc.length + 10 * (t.length - p) ≤ 50000 → JOk σ pre (mapR (fun y => (hd (srt isMap) (c + y.2.1) ++ (acc ++ encL y.1), y.2.2)) (sPts t val isMap m p)) (jj_readParts_L68 6000 rv f (nI (srt isMap)) (cls isMap) dep (nI pre.length) (nI (c + 1)) σ) := by
  have hs8 : srt isMap < 8 := by cases isMap <;> decide
  intro m
  induction m with
  | zero => intro c f σ p acc h; omega
  | succ m ih =>
    intro c f σ p acc hm hf hc hp hT hL hpl hR ho
    obtain ⟨f, rfl⟩ : ∃ g, f = g + 1 := ⟨f - 1, by omega⟩
    have hle := hT.2
    have ht := hT.1.2.2
    show JOk σ pre _ (jj_readParts_b68 6000 rv (jj_readParts_L68 6000 rv f) _ _ _ _ _ σ)
    unfold sPts
    -- behind the key
    have main : ∀ (ks : List Tok) (p1 : Nat) (σ1 : JSt), Bd t p ks p1 → TpR (jf_tape σ1) t → jf_depthLimit σ1 = nI L → jf_place σ1 = nI p1 → RowL 6000 (jf_target σ1) (pre ++ 0 :: (acc ++ encL ks)) → JOk σ1 pre (mapR (fun y => (hd (srt isMap) (c + y.2.1) ++ (acc ++ encL y.1), y.2.2)) (match val (sB t p1) with
      | .inl k => .inl k
      | .inr vp => if gL t (sB t vp.2) = cls isMap then .inr (ks ++ vp.1, 1, sB t vp.2 + 1) else if gL t (sB t vp.2) = 44 then (match sPts t val isMap m (sB t vp.2 + 1) with
        | .inl k => .inl k
        | .inr y => .inr (ks ++ vp.1 ++ y.1, y.2.1 + 1, y.2.2)) else .inl (1, sB t vp.2))) (jj_readParts_b92 6000 rv (jj_readParts_L68 6000 rv f) (nI (srt isMap)) (cls isMap) dep (nI pre.length) (nI (c + 1)) σ1) := by
      intro ks p1 σ1 hK T1 L1 P1 R1
      have hk1 := hK.1
      have hk2 := hK.2.1
      have hk3 := hK.2.2.1
      have hke := encL_len ks
      have b1 := sB_le hk2
      unfold jj_readParts_b92
      have hx := hv σ1 p1 _ T1 L1 P1 hk2 R1 (by simp only [List.length_append, List.length_cons]; omega)
      cases hvv : val (sB t p1) with
      | inl k =>
        rw [hvv] at hx
        obtain ⟨a, tg, o, ex, g⟩ := hx
        rw [ex, bd_of rfl]
        exact ⟨a, tg, o, rfl, g⟩
      | inr vp =>
        obtain ⟨vs, p2⟩ := vp
        have g2 := hvb _ b1.2 vs p2 hvv
        have hq := g2.2.2.1
        have hv3 := g2.2.2.2.1
        have hve := encL_len vs
        have l2 := g2.1
        have b2 := sB_le hq
        rw [hvv] at hx
        obtain ⟨tg, ex, g⟩ := hx
        have g' : RowL 6000 tg (pre ++ 0 :: (acc ++ encL (ks ++ vs))) := by
          rw [encL_app]
          have e : pre ++ 0 :: (acc ++ encL ks) ++ encL vs = pre ++ 0 :: (acc ++ (encL ks ++ encL vs)) := by simp
          rw [← e]
          exact g
        rw [ex, bd_of rfl]
        simp only []
        rw [if_pos trivial]
        obtain ⟨σ2, e2⟩ : ∃ σ2, σ2 = js_target (js_place σ1 (nI (sB t p2))) tg := ⟨_, rfl⟩
        have T2 : TpR (jf_tape σ2) t := by rw [e2]; simp only [jG_depthLimit_depthLimit, jG_depthLimit_place, jG_depthLimit_faultKind, jG_depthLimit_faultPlace, jG_depthLimit_tape, jG_depthLimit_target, jG_place_depthLimit, jG_place_place, jG_place_faultKind, jG_place_faultPlace, jG_place_tape, jG_place_target, jG_faultKind_depthLimit, jG_faultKind_place, jG_faultKind_faultKind, jG_faultKind_faultPlace, jG_faultKind_tape, jG_faultKind_target, jG_faultPlace_depthLimit, jG_faultPlace_place, jG_faultPlace_faultKind, jG_faultPlace_faultPlace, jG_faultPlace_tape, jG_faultPlace_target, jG_tape_depthLimit, jG_tape_place, jG_tape_faultKind, jG_tape_faultPlace, jG_tape_tape, jG_tape_target, jG_target_depthLimit, jG_target_place, jG_target_faultKind, jG_target_faultPlace, jG_target_tape, jG_target_target]; exact T1
        have L2 : jf_depthLimit σ2 = nI L := by rw [e2]; simp only [jG_depthLimit_depthLimit, jG_depthLimit_place, jG_depthLimit_faultKind, jG_depthLimit_faultPlace, jG_depthLimit_tape, jG_depthLimit_target, jG_place_depthLimit, jG_place_place, jG_place_faultKind, jG_place_faultPlace, jG_place_tape, jG_place_target, jG_faultKind_depthLimit, jG_faultKind_place, jG_faultKind_faultKind, jG_faultKind_faultPlace, jG_faultKind_tape, jG_faultKind_target, jG_faultPlace_depthLimit, jG_faultPlace_place, jG_faultPlace_faultKind, jG_faultPlace_faultPlace, jG_faultPlace_tape, jG_faultPlace_target, jG_tape_depthLimit, jG_tape_place, jG_tape_faultKind, jG_tape_faultPlace, jG_tape_tape, jG_tape_target, jG_target_depthLimit, jG_target_place, jG_target_faultKind, jG_target_faultPlace, jG_target_tape, jG_target_target]; exact L1
        have P2 : jf_place σ2 = nI (sB t p2) := by rw [e2]; simp only [jG_depthLimit_depthLimit, jG_depthLimit_place, jG_depthLimit_faultKind, jG_depthLimit_faultPlace, jG_depthLimit_tape, jG_depthLimit_target, jG_place_depthLimit, jG_place_place, jG_place_faultKind, jG_place_faultPlace, jG_place_tape, jG_place_target, jG_faultKind_depthLimit, jG_faultKind_place, jG_faultKind_faultKind, jG_faultKind_faultPlace, jG_faultKind_tape, jG_faultKind_target, jG_faultPlace_depthLimit, jG_faultPlace_place, jG_faultPlace_faultKind, jG_faultPlace_faultPlace, jG_faultPlace_tape, jG_faultPlace_target, jG_tape_depthLimit, jG_tape_place, jG_tape_faultKind, jG_tape_faultPlace, jG_tape_tape, jG_tape_target, jG_target_depthLimit, jG_target_place, jG_target_faultKind, jG_target_faultPlace, jG_target_tape, jG_target_target]
        have R2 : jf_target σ2 = tg := by rw [e2]; simp only [jG_depthLimit_depthLimit, jG_depthLimit_place, jG_depthLimit_faultKind, jG_depthLimit_faultPlace, jG_depthLimit_tape, jG_depthLimit_target, jG_place_depthLimit, jG_place_place, jG_place_faultKind, jG_place_faultPlace, jG_place_tape, jG_place_target, jG_faultKind_depthLimit, jG_faultKind_place, jG_faultKind_faultKind, jG_faultKind_faultPlace, jG_faultKind_tape, jG_faultKind_target, jG_faultPlace_depthLimit, jG_faultPlace_place, jG_faultPlace_faultKind, jG_faultPlace_faultPlace, jG_faultPlace_tape, jG_faultPlace_target, jG_tape_depthLimit, jG_tape_place, jG_tape_faultKind, jG_tape_faultPlace, jG_tape_tape, jG_tape_target, jG_target_depthLimit, jG_target_place, jG_target_faultKind, jG_target_faultPlace, jG_target_tape, jG_target_target]
        have lift : ∀ {r x}, JOk σ2 pre r x → JOk σ1 pre r x := fun {r x} h => JOk.of (a := nI (sB t p2)) (tg := tg) (by rw [e2] at h; exact h)
        rw [bd_of (show jj_skipBlanks 6000 (js_target (js_place σ1 (nI p2)) tg) = some σ2 by rw [j_blanks (t := t) (p := p2) (by simp only [jG_depthLimit_depthLimit, jG_depthLimit_place, jG_depthLimit_faultKind, jG_depthLimit_faultPlace, jG_depthLimit_tape, jG_depthLimit_target, jG_place_depthLimit, jG_place_place, jG_place_faultKind, jG_place_faultPlace, jG_place_tape, jG_place_target, jG_faultKind_depthLimit, jG_faultKind_place, jG_faultKind_faultKind, jG_faultKind_faultPlace, jG_faultKind_tape, jG_faultKind_target, jG_faultPlace_depthLimit, jG_faultPlace_place, jG_faultPlace_faultKind, jG_faultPlace_faultPlace, jG_faultPlace_tape, jG_faultPlace_target, jG_tape_depthLimit, jG_tape_place, jG_tape_faultKind, jG_tape_faultPlace, jG_tape_tape, jG_tape_target, jG_target_depthLimit, jG_target_place, jG_target_faultKind, jG_target_faultPlace, jG_target_tape, jG_target_target]; exact T1) hq (by simp only [jG_depthLimit_depthLimit, jG_depthLimit_place, jG_depthLimit_faultKind, jG_depthLimit_faultPlace, jG_depthLimit_tape, jG_depthLimit_target, jG_place_depthLimit, jG_place_place, jG_place_faultKind, jG_place_faultPlace, jG_place_tape, jG_place_target, jG_faultKind_depthLimit, jG_faultKind_place, jG_faultKind_faultKind, jG_faultKind_faultPlace, jG_faultKind_tape, jG_faultKind_target, jG_faultPlace_depthLimit, jG_faultPlace_place, jG_faultPlace_faultKind, jG_faultPlace_faultPlace, jG_faultPlace_tape, jG_faultPlace_target, jG_tape_depthLimit, jG_tape_place, jG_tape_faultKind, jG_tape_faultPlace, jG_tape_tape, jG_tape_target, jG_target_depthLimit, jG_target_place, jG_target_faultKind, jG_target_faultPlace, jG_target_tape, jG_target_target]), e2]; rfl)]
        rw [P2, bd_of (T2.at (by omega))]
        simp only []
        rw [js_tape_id]
        by_cases c1 : gL t (sB t p2) = cls isMap
        · have hc1 := cls_in ht hle c1
          rw [if_pos c1, if_pos c1]
          unfold jj_closeParts
          obtain ⟨tg2, e3, g3⟩ := closeHead_row g' (by decide) (by decide) (by rw [List.length_append]; rw [encL_app, List.length_append]; omega) (t := srt isMap) (u := c + 1) hs8 (by omega)
          rw [R2, nI_l (by omega), bd_of e3, bd_of rfl, P2, nI_1]
          refine lift ⟨tg2, rfl, ?_⟩
          show RowL 6000 tg2 (pre ++ (hd (srt isMap) (c + 1) ++ (acc ++ encL (ks ++ vs))))
          rw [← List.append_assoc]
          exact g3
        rw [if_neg c1, if_neg c1]
        by_cases c2 : gL t (sB t p2) = 44
        · have hc2 := gL_lit (v := 44) (by decide) rfl c2
          rw [if_pos c2, if_pos c2]
          simp only [lt]
          rw [nI_1, nI_1]
          have hl : (acc ++ encL (ks ++ vs)).length = acc.length + (encL ks).length + (encL vs).length := by rw [encL_app]; simp only [List.length_append]; omega
          have r := ih (c + 1) f (js_place σ2 (nI (sB t p2 + 1))) (sB t p2 + 1) (acc ++ encL (ks ++ vs)) (by omega) (by omega) (by omega) (by omega) (by simp only [jG_depthLimit_depthLimit, jG_depthLimit_place, jG_depthLimit_faultKind, jG_depthLimit_faultPlace, jG_depthLimit_tape, jG_depthLimit_target, jG_place_depthLimit, jG_place_place, jG_place_faultKind, jG_place_faultPlace, jG_place_tape, jG_place_target, jG_faultKind_depthLimit, jG_faultKind_place, jG_faultKind_faultKind, jG_faultKind_faultPlace, jG_faultKind_tape, jG_faultKind_target, jG_faultPlace_depthLimit, jG_faultPlace_place, jG_faultPlace_faultKind, jG_faultPlace_faultPlace, jG_faultPlace_tape, jG_faultPlace_target, jG_tape_depthLimit, jG_tape_place, jG_tape_faultKind, jG_tape_faultPlace, jG_tape_tape, jG_tape_target, jG_target_depthLimit, jG_target_place, jG_target_faultKind, jG_target_faultPlace, jG_target_tape, jG_target_target]; exact T2) (by simp only [jG_depthLimit_depthLimit, jG_depthLimit_place, jG_depthLimit_faultKind, jG_depthLimit_faultPlace, jG_depthLimit_tape, jG_depthLimit_target, jG_place_depthLimit, jG_place_place, jG_place_faultKind, jG_place_faultPlace, jG_place_tape, jG_place_target, jG_faultKind_depthLimit, jG_faultKind_place, jG_faultKind_faultKind, jG_faultKind_faultPlace, jG_faultKind_tape, jG_faultKind_target, jG_faultPlace_depthLimit, jG_faultPlace_place, jG_faultPlace_faultKind, jG_faultPlace_faultPlace, jG_faultPlace_tape, jG_faultPlace_target, jG_tape_depthLimit, jG_tape_place, jG_tape_faultKind, jG_tape_faultPlace, jG_tape_tape, jG_tape_target, jG_target_depthLimit, jG_target_place, jG_target_faultKind, jG_target_faultPlace, jG_target_tape, jG_target_target]; exact L2) (by simp only [jG_depthLimit_depthLimit, jG_depthLimit_place, jG_depthLimit_faultKind, jG_depthLimit_faultPlace, jG_depthLimit_tape, jG_depthLimit_target, jG_place_depthLimit, jG_place_place, jG_place_faultKind, jG_place_faultPlace, jG_place_tape, jG_place_target, jG_faultKind_depthLimit, jG_faultKind_place, jG_faultKind_faultKind, jG_faultKind_faultPlace, jG_faultKind_tape, jG_faultKind_target, jG_faultPlace_depthLimit, jG_faultPlace_place, jG_faultPlace_faultKind, jG_faultPlace_faultPlace, jG_faultPlace_tape, jG_faultPlace_target, jG_tape_depthLimit, jG_tape_place, jG_tape_faultKind, jG_tape_faultPlace, jG_tape_tape, jG_tape_target, jG_target_depthLimit, jG_target_place, jG_target_faultKind, jG_target_faultPlace, jG_target_tape, jG_target_target]) (by simp only [jG_depthLimit_depthLimit, jG_depthLimit_place, jG_depthLimit_faultKind, jG_depthLimit_faultPlace, jG_depthLimit_tape, jG_depthLimit_target, jG_place_depthLimit, jG_place_place, jG_place_faultKind, jG_place_faultPlace, jG_place_tape, jG_place_target, jG_faultKind_depthLimit, jG_faultKind_place, jG_faultKind_faultKind, jG_faultKind_faultPlace, jG_faultKind_tape, jG_faultKind_target, jG_faultPlace_depthLimit, jG_faultPlace_place, jG_faultPlace_faultKind, jG_faultPlace_faultPlace, jG_faultPlace_tape, jG_faultPlace_target, jG_tape_depthLimit, jG_tape_place, jG_tape_faultKind, jG_tape_faultPlace, jG_tape_tape, jG_tape_target, jG_target_depthLimit, jG_target_place, jG_target_faultKind, jG_target_faultPlace, jG_target_tape, jG_target_target]; rw [R2]; exact g') (by omega)
          have r2 : JOk σ1 pre _ _ := lift (JOk.of (a := nI (sB t p2 + 1)) (tg := jf_target σ2) r)
          cases hr : sPts t val isMap m (sB t p2 + 1) with
          | inl k =>
            rw [hr] at r2
            exact r2
          | inr y =>
            obtain ⟨ys, n1, q1⟩ := y
            rw [hr] at r2
            simp only [mapR, encL_app, List.append_assoc] at r2 ⊢
            rw [show c + (n1 + 1) = c + 1 + n1 by omega]
            exact r2
        · rw [if_neg c2, if_neg c2]
          refine lift ⟨nI (sB t p2), tg, _, ?_, g', ?_⟩
          · rw [js_pl P2, ← R2]
            rfl
          · rw [List.length_append, List.length_cons, List.length_append, encL_app, List.length_append]
            omega
    unfold jj_readParts_b68
    rw [bd_of hT.sz]
    simp only []
    rw [if_neg (show ¬ nI t.length < nI (c + 1) from nI_nlt (by omega) (by omega)), js_tape_id]
    cases isMap with
    | false =>
      rw [if_neg (show ¬ nI (srt false) = (5 : Int32) by decide)]
      exact main [] p σ (Bd.nil hp) hT hL hpl (by show RowL 6000 _ (pre ++ 0 :: (acc ++ [])); rw [List.append_nil]; exact hR)
    | true =>
      rw [if_pos (show nI (srt true) = (5 : Int32) by decide)]
      have hk := j_key (t := t) hT hpl hp hR (by simp only [List.length_append, List.length_cons]; omega)
      cases hkk : sKey t true p with
      | inl k =>
        rw [hkk] at hk
        obtain ⟨a, tg, o, ex, g⟩ := hk
        rw [ex, bd_of rfl]
        exact ⟨a, tg, o, rfl, g⟩
      | inr kp =>
        obtain ⟨ks, p1⟩ := kp
        have g1 := sKey_bd ht hle hp hkk
        rw [hkk] at hk
        obtain ⟨tg, ex, g⟩ := hk
        rw [ex, bd_of rfl]
        simp only []
        rw [if_pos trivial]
        exact JOk.of (main ks p1 (js_target (js_place σ (nI p1)) tg) g1 (by simp only [jG_depthLimit_depthLimit, jG_depthLimit_place, jG_depthLimit_faultKind, jG_depthLimit_faultPlace, jG_depthLimit_tape, jG_depthLimit_target, jG_place_depthLimit, jG_place_place, jG_place_faultKind, jG_place_faultPlace, jG_place_tape, jG_place_target, jG_faultKind_depthLimit, jG_faultKind_place, jG_faultKind_faultKind, jG_faultKind_faultPlace, jG_faultKind_tape, jG_faultKind_target, jG_faultPlace_depthLimit, jG_faultPlace_place, jG_faultPlace_faultKind, jG_faultPlace_faultPlace, jG_faultPlace_tape, jG_faultPlace_target, jG_tape_depthLimit, jG_tape_place, jG_tape_faultKind, jG_tape_faultPlace, jG_tape_tape, jG_tape_target, jG_target_depthLimit, jG_target_place, jG_target_faultKind, jG_target_faultPlace, jG_target_tape, jG_target_target]; exact hT) (by simp only [jG_depthLimit_depthLimit, jG_depthLimit_place, jG_depthLimit_faultKind, jG_depthLimit_faultPlace, jG_depthLimit_tape, jG_depthLimit_target, jG_place_depthLimit, jG_place_place, jG_place_faultKind, jG_place_faultPlace, jG_place_tape, jG_place_target, jG_faultKind_depthLimit, jG_faultKind_place, jG_faultKind_faultKind, jG_faultKind_faultPlace, jG_faultKind_tape, jG_faultKind_target, jG_faultPlace_depthLimit, jG_faultPlace_place, jG_faultPlace_faultKind, jG_faultPlace_faultPlace, jG_faultPlace_tape, jG_faultPlace_target, jG_tape_depthLimit, jG_tape_place, jG_tape_faultKind, jG_tape_faultPlace, jG_tape_tape, jG_tape_target, jG_target_depthLimit, jG_target_place, jG_target_faultKind, jG_target_faultPlace, jG_target_tape, jG_target_target]; exact hL) (by simp only [jG_depthLimit_depthLimit, jG_depthLimit_place, jG_depthLimit_faultKind, jG_depthLimit_faultPlace, jG_depthLimit_tape, jG_depthLimit_target, jG_place_depthLimit, jG_place_place, jG_place_faultKind, jG_place_faultPlace, jG_place_tape, jG_place_target, jG_faultKind_depthLimit, jG_faultKind_place, jG_faultKind_faultKind, jG_faultKind_faultPlace, jG_faultKind_tape, jG_faultKind_target, jG_faultPlace_depthLimit, jG_faultPlace_place, jG_faultPlace_faultKind, jG_faultPlace_faultPlace, jG_faultPlace_tape, jG_faultPlace_target, jG_tape_depthLimit, jG_tape_place, jG_tape_faultKind, jG_tape_faultPlace, jG_tape_tape, jG_tape_target, jG_target_depthLimit, jG_target_place, jG_target_faultKind, jG_target_faultPlace, jG_target_tape, jG_target_target]) (by
          simp only [jG_depthLimit_depthLimit, jG_depthLimit_place, jG_depthLimit_faultKind, jG_depthLimit_faultPlace, jG_depthLimit_tape, jG_depthLimit_target, jG_place_depthLimit, jG_place_place, jG_place_faultKind, jG_place_faultPlace, jG_place_tape, jG_place_target, jG_faultKind_depthLimit, jG_faultKind_place, jG_faultKind_faultKind, jG_faultKind_faultPlace, jG_faultKind_tape, jG_faultKind_target, jG_faultPlace_depthLimit, jG_faultPlace_place, jG_faultPlace_faultKind, jG_faultPlace_faultPlace, jG_faultPlace_tape, jG_faultPlace_target, jG_tape_depthLimit, jG_tape_place, jG_tape_faultKind, jG_tape_faultPlace, jG_tape_tape, jG_tape_target, jG_target_depthLimit, jG_target_place, jG_target_faultKind, jG_target_faultPlace, jG_target_tape, jG_target_target]
          have e : pre ++ 0 :: acc ++ encL ks = pre ++ 0 :: (acc ++ encL ks) := by simp
          rw [← e]
          exact g))
theorem z_j_parts_loop {L : Nat} {val : Nat → Rd (List Tok × Nat)} {rv : Int32 → JSt → Option (Bool × JSt)} {dep : Int32} {isMap : Bool} {pre : List Nat} (hv : z_JV t L val (rv (dep + 1))) (hvb : ∀ p, p ≤ t.length → ∀ ts q, val p = .inr (ts, q) → p < q ∧ Bd t p ts q) : ∀ (m c f : Nat) (σ : JSt) (p : Nat) (acc : List Nat), t.length - p < m → m < f → c < p → p ≤ t.length → TpR (jf_tape σ) t → jf_depthLimit σ = nI L → jf_place σ = nI p → RowL 0 (jf_target σ) (pre ++ 0 :: acc) → pre.length + 1 + acc.length + 10 * (t.length - p) ≤ 50000 → z_JOk σ pre (mapR (fun y => (hd (srt isMap) (c + y.2.1) ++ (acc ++ encL y.1), y.2.2)) (sPts t val isMap m p)) (jj_readParts_L68 0 rv f (nI (srt isMap)) (cls isMap) dep (nI pre.length) (nI (c + 1)) σ) := by
  have hs8 : srt isMap < 8 := by cases isMap <;> decide
  intro m
  induction m with
  | zero => intro c f σ p acc h; omega
  | succ m ih =>
    intro c f σ p acc hm hf hc hp hT hL hpl hR ho
    obtain ⟨f, rfl⟩ : ∃ g, f = g + 1 := ⟨f - 1, by omega⟩
    have hle := hT.2
    have ht := hT.1.2.2
    show z_JOk σ pre _ (jj_readParts_b68 0 rv (jj_readParts_L68 0 rv f) _ _ _ _ _ σ)
    unfold sPts
    -- behind the key
    have main : ∀ (ks : List Tok) (p1 : Nat) (σ1 : JSt), Bd t p ks p1 → TpR (jf_tape σ1) t → jf_depthLimit σ1 = nI L → jf_place σ1 = nI p1 → RowL 0 (jf_target σ1) (pre ++ 0 :: (acc ++ encL ks)) → z_JOk σ1 pre (mapR (fun y => (hd (srt isMap) (c + y.2.1) ++ (acc ++ encL y.1), y.2.2)) (match val (sB t p1) with
      | .inl k => .inl k
      | .inr vp => if gL t (sB t vp.2) = cls isMap then .inr (ks ++ vp.1, 1, sB t vp.2 + 1) else if gL t (sB t vp.2) = 44 then (match sPts t val isMap m (sB t vp.2 + 1) with
        | .inl k => .inl k
        | .inr y => .inr (ks ++ vp.1 ++ y.1, y.2.1 + 1, y.2.2)) else .inl (1, sB t vp.2))) (jj_readParts_b92 0 rv (jj_readParts_L68 0 rv f) (nI (srt isMap)) (cls isMap) dep (nI pre.length) (nI (c + 1)) σ1) := by
      intro ks p1 σ1 hK T1 L1 P1 R1
      have hk1 := hK.1
      have hk2 := hK.2.1
      have hk3 := hK.2.2.1
      have hke := encL_len ks
      have b1 := sB_le hk2
      unfold jj_readParts_b92
      have hx := hv σ1 p1 _ T1 L1 P1 hk2 R1 (by simp only [List.length_append, List.length_cons]; omega)
      cases hvv : val (sB t p1) with
      | inl k =>
        rw [hvv] at hx
        obtain ⟨a, tg, o, ex, g⟩ := hx
        rw [ex, bd_of rfl]
        exact ⟨a, tg, o, rfl, g⟩
      | inr vp =>
        obtain ⟨vs, p2⟩ := vp
        have g2 := hvb _ b1.2 vs p2 hvv
        have hq := g2.2.2.1
        have hv3 := g2.2.2.2.1
        have hve := encL_len vs
        have l2 := g2.1
        have b2 := sB_le hq
        rw [hvv] at hx
        obtain ⟨tg, ex, g⟩ := hx
        have g' : RowL 0 tg (pre ++ 0 :: (acc ++ encL (ks ++ vs))) := by
          rw [encL_app]
          have e : pre ++ 0 :: (acc ++ encL ks) ++ encL vs = pre ++ 0 :: (acc ++ (encL ks ++ encL vs)) := by simp
          rw [← e]
          exact g
        rw [ex, bd_of rfl]
        simp only []
        rw [if_pos trivial]
        obtain ⟨σ2, e2⟩ : ∃ σ2, σ2 = js_target (js_place σ1 (nI (sB t p2))) tg := ⟨_, rfl⟩
        have T2 : TpR (jf_tape σ2) t := by rw [e2]; simp only [jG_depthLimit_depthLimit, jG_depthLimit_place, jG_depthLimit_faultKind, jG_depthLimit_faultPlace, jG_depthLimit_tape, jG_depthLimit_target, jG_place_depthLimit, jG_place_place, jG_place_faultKind, jG_place_faultPlace, jG_place_tape, jG_place_target, jG_faultKind_depthLimit, jG_faultKind_place, jG_faultKind_faultKind, jG_faultKind_faultPlace, jG_faultKind_tape, jG_faultKind_target, jG_faultPlace_depthLimit, jG_faultPlace_place, jG_faultPlace_faultKind, jG_faultPlace_faultPlace, jG_faultPlace_tape, jG_faultPlace_target, jG_tape_depthLimit, jG_tape_place, jG_tape_faultKind, jG_tape_faultPlace, jG_tape_tape, jG_tape_target, jG_target_depthLimit, jG_target_place, jG_target_faultKind, jG_target_faultPlace, jG_target_tape, jG_target_target]; exact T1
        have L2 : jf_depthLimit σ2 = nI L := by rw [e2]; simp only [jG_depthLimit_depthLimit, jG_depthLimit_place, jG_depthLimit_faultKind, jG_depthLimit_faultPlace, jG_depthLimit_tape, jG_depthLimit_target, jG_place_depthLimit, jG_place_place, jG_place_faultKind, jG_place_faultPlace, jG_place_tape, jG_place_target, jG_faultKind_depthLimit, jG_faultKind_place, jG_faultKind_faultKind, jG_faultKind_faultPlace, jG_faultKind_tape, jG_faultKind_target, jG_faultPlace_depthLimit, jG_faultPlace_place, jG_faultPlace_faultKind, jG_faultPlace_faultPlace, jG_faultPlace_tape, jG_faultPlace_target, jG_tape_depthLimit, jG_tape_place, jG_tape_faultKind, jG_tape_faultPlace, jG_tape_tape, jG_tape_target, jG_target_depthLimit, jG_target_place, jG_target_faultKind, jG_target_faultPlace, jG_target_tape, jG_target_target]; exact L1
        have P2 : jf_place σ2 = nI (sB t p2) := by rw [e2]; simp only [jG_depthLimit_depthLimit, jG_depthLimit_place, jG_depthLimit_faultKind, jG_depthLimit_faultPlace, jG_depthLimit_tape, jG_depthLimit_target, jG_place_depthLimit, jG_place_place, jG_place_faultKind, jG_place_faultPlace, jG_place_tape, jG_place_target, jG_faultKind_depthLimit, jG_faultKind_place, jG_faultKind_faultKind, jG_faultKind_faultPlace, jG_faultKind_tape, jG_faultKind_target, jG_faultPlace_depthLimit, jG_faultPlace_place, jG_faultPlace_faultKind, jG_faultPlace_faultPlace, jG_faultPlace_tape, jG_faultPlace_target, jG_tape_depthLimit, jG_tape_place, jG_tape_faultKind, jG_tape_faultPlace, jG_tape_tape, jG_tape_target, jG_target_depthLimit, jG_target_place, jG_target_faultKind, jG_target_faultPlace, jG_target_tape, jG_target_target]
        have R2 : jf_target σ2 = tg := by rw [e2]; simp only [jG_depthLimit_depthLimit, jG_depthLimit_place, jG_depthLimit_faultKind, jG_depthLimit_faultPlace, jG_depthLimit_tape, jG_depthLimit_target, jG_place_depthLimit, jG_place_place, jG_place_faultKind, jG_place_faultPlace, jG_place_tape, jG_place_target, jG_faultKind_depthLimit, jG_faultKind_place, jG_faultKind_faultKind, jG_faultKind_faultPlace, jG_faultKind_tape, jG_faultKind_target, jG_faultPlace_depthLimit, jG_faultPlace_place, jG_faultPlace_faultKind, jG_faultPlace_faultPlace, jG_faultPlace_tape, jG_faultPlace_target, jG_tape_depthLimit, jG_tape_place, jG_tape_faultKind, jG_tape_faultPlace, jG_tape_tape, jG_tape_target, jG_target_depthLimit, jG_target_place, jG_target_faultKind, jG_target_faultPlace, jG_target_tape, jG_target_target]
        have lift : ∀ {r x}, z_JOk σ2 pre r x → z_JOk σ1 pre r x := fun {r x} h => z_JOk.of (a := nI (sB t p2)) (tg := tg) (by rw [e2] at h; exact h)
        rw [bd_of (show jj_skipBlanks 0 (js_target (js_place σ1 (nI p2)) tg) = some σ2 by rw [z_j_blanks (t := t) (p := p2) (by simp only [jG_depthLimit_depthLimit, jG_depthLimit_place, jG_depthLimit_faultKind, jG_depthLimit_faultPlace, jG_depthLimit_tape, jG_depthLimit_target, jG_place_depthLimit, jG_place_place, jG_place_faultKind, jG_place_faultPlace, jG_place_tape, jG_place_target, jG_faultKind_depthLimit, jG_faultKind_place, jG_faultKind_faultKind, jG_faultKind_faultPlace, jG_faultKind_tape, jG_faultKind_target, jG_faultPlace_depthLimit, jG_faultPlace_place, jG_faultPlace_faultKind, jG_faultPlace_faultPlace, jG_faultPlace_tape, jG_faultPlace_target, jG_tape_depthLimit, jG_tape_place, jG_tape_faultKind, jG_tape_faultPlace, jG_tape_tape, jG_tape_target, jG_target_depthLimit, jG_target_place, jG_target_faultKind, jG_target_faultPlace, jG_target_tape, jG_target_target]; exact T1) hq (by simp only [jG_depthLimit_depthLimit, jG_depthLimit_place, jG_depthLimit_faultKind, jG_depthLimit_faultPlace, jG_depthLimit_tape, jG_depthLimit_target, jG_place_depthLimit, jG_place_place, jG_place_faultKind, jG_place_faultPlace, jG_place_tape, jG_place_target, jG_faultKind_depthLimit, jG_faultKind_place, jG_faultKind_faultKind, jG_faultKind_faultPlace, jG_faultKind_tape, jG_faultKind_target, jG_faultPlace_depthLimit, jG_faultPlace_place, jG_faultPlace_faultKind, jG_faultPlace_faultPlace, jG_faultPlace_tape, jG_faultPlace_target, jG_tape_depthLimit, jG_tape_place, jG_tape_faultKind, jG_tape_faultPlace, jG_tape_tape, jG_tape_target, jG_target_depthLimit, jG_target_place, jG_target_faultKind, jG_target_faultPlace, jG_target_tape, jG_target_target]), e2]; rfl)]
        rw [P2, bd_of (T2.at (by omega))]
        simp only []
        rw [js_tape_id]
        by_cases c1 : gL t (sB t p2) = cls isMap
        · have hc1 := cls_in ht hle c1
          rw [if_pos c1, if_pos c1]
          unfold jj_closeParts
          obtain ⟨tg2, e3, g3⟩ := closeHead_row g' (by decide) (by decide) (by rw [List.length_append]; rw [encL_app, List.length_append]; omega) (t := srt isMap) (u := c + 1) hs8 (by omega)
          rw [R2, nI_l (by omega), bd_of e3, bd_of rfl, P2, nI_1]
          refine lift ⟨tg2, rfl, ?_⟩
          show RowL 0 tg2 (pre ++ (hd (srt isMap) (c + 1) ++ (acc ++ encL (ks ++ vs))))
          rw [← List.append_assoc]
          exact g3
        rw [if_neg c1, if_neg c1]
        by_cases c2 : gL t (sB t p2) = 44
        · have hc2 := gL_lit (v := 44) (by decide) rfl c2
          rw [if_pos c2, if_pos c2]
          simp only [lt]
          rw [nI_1, nI_1]
          have hl : (acc ++ encL (ks ++ vs)).length = acc.length + (encL ks).length + (encL vs).length := by rw [encL_app]; simp only [List.length_append]; omega
          have r := ih (c + 1) f (js_place σ2 (nI (sB t p2 + 1))) (sB t p2 + 1) (acc ++ encL (ks ++ vs)) (by omega) (by omega) (by omega) (by omega) (by simp only [jG_depthLimit_depthLimit, jG_depthLimit_place, jG_depthLimit_faultKind, jG_depthLimit_faultPlace, jG_depthLimit_tape, jG_depthLimit_target, jG_place_depthLimit, jG_place_place, jG_place_faultKind, jG_place_faultPlace, jG_place_tape, jG_place_target, jG_faultKind_depthLimit, jG_faultKind_place, jG_faultKind_faultKind, jG_faultKind_faultPlace, jG_faultKind_tape, jG_faultKind_target, jG_faultPlace_depthLimit, jG_faultPlace_place, jG_faultPlace_faultKind, jG_faultPlace_faultPlace, jG_faultPlace_tape, jG_faultPlace_target, jG_tape_depthLimit, jG_tape_place, jG_tape_faultKind, jG_tape_faultPlace, jG_tape_tape, jG_tape_target, jG_target_depthLimit, jG_target_place, jG_target_faultKind, jG_target_faultPlace, jG_target_tape, jG_target_target]; exact T2) (by simp only [jG_depthLimit_depthLimit, jG_depthLimit_place, jG_depthLimit_faultKind, jG_depthLimit_faultPlace, jG_depthLimit_tape, jG_depthLimit_target, jG_place_depthLimit, jG_place_place, jG_place_faultKind, jG_place_faultPlace, jG_place_tape, jG_place_target, jG_faultKind_depthLimit, jG_faultKind_place, jG_faultKind_faultKind, jG_faultKind_faultPlace, jG_faultKind_tape, jG_faultKind_target, jG_faultPlace_depthLimit, jG_faultPlace_place, jG_faultPlace_faultKind, jG_faultPlace_faultPlace, jG_faultPlace_tape, jG_faultPlace_target, jG_tape_depthLimit, jG_tape_place, jG_tape_faultKind, jG_tape_faultPlace, jG_tape_tape, jG_tape_target, jG_target_depthLimit, jG_target_place, jG_target_faultKind, jG_target_faultPlace, jG_target_tape, jG_target_target]; exact L2) (by simp only [jG_depthLimit_depthLimit, jG_depthLimit_place, jG_depthLimit_faultKind, jG_depthLimit_faultPlace, jG_depthLimit_tape, jG_depthLimit_target, jG_place_depthLimit, jG_place_place, jG_place_faultKind, jG_place_faultPlace, jG_place_tape, jG_place_target, jG_faultKind_depthLimit, jG_faultKind_place, jG_faultKind_faultKind, jG_faultKind_faultPlace, jG_faultKind_tape, jG_faultKind_target, jG_faultPlace_depthLimit, jG_faultPlace_place, jG_faultPlace_faultKind, jG_faultPlace_faultPlace, jG_faultPlace_tape, jG_faultPlace_target, jG_tape_depthLimit, jG_tape_place, jG_tape_faultKind, jG_tape_faultPlace, jG_tape_tape, jG_tape_target, jG_target_depthLimit, jG_target_place, jG_target_faultKind, jG_target_faultPlace, jG_target_tape, jG_target_target]) (by simp only [jG_depthLimit_depthLimit, jG_depthLimit_place, jG_depthLimit_faultKind, jG_depthLimit_faultPlace, jG_depthLimit_tape, jG_depthLimit_target, jG_place_depthLimit, jG_place_place, jG_place_faultKind, jG_place_faultPlace, jG_place_tape, jG_place_target, jG_faultKind_depthLimit, jG_faultKind_place, jG_faultKind_faultKind, jG_faultKind_faultPlace, jG_faultKind_tape, jG_faultKind_target, jG_faultPlace_depthLimit, jG_faultPlace_place, jG_faultPlace_faultKind, jG_faultPlace_faultPlace, jG_faultPlace_tape, jG_faultPlace_target, jG_tape_depthLimit, jG_tape_place, jG_tape_faultKind, jG_tape_faultPlace, jG_tape_tape, jG_tape_target, jG_target_depthLimit, jG_target_place, jG_target_faultKind, jG_target_faultPlace, jG_target_tape, jG_target_target]; rw [R2]; exact g') (by omega)
          have r2 : z_JOk σ1 pre _ _ := lift (z_JOk.of (a := nI (sB t p2 + 1)) (tg := jf_target σ2) r)
          cases hr : sPts t val isMap m (sB t p2 + 1) with
          | inl k =>
            rw [hr] at r2
            exact r2
          | inr y =>
            obtain ⟨ys, n1, q1⟩ := y
            rw [hr] at r2
            simp only [mapR, encL_app, List.append_assoc] at r2 ⊢
            rw [show c + (n1 + 1) = c + 1 + n1 by omega]
            exact r2
        · rw [if_neg c2, if_neg c2]
          refine lift ⟨nI (sB t p2), tg, _, ?_, g', ?_⟩
          · rw [js_pl P2, ← R2]
            rfl
          · rw [List.length_append, List.length_cons, List.length_append, encL_app, List.length_append]
            omega
    unfold jj_readParts_b68
    rw [bd_of hT.sz]
    simp only []
    rw [if_neg (show ¬ nI t.length < nI (c + 1) from nI_nlt (by omega) (by omega)), js_tape_id]
    cases isMap with
    | false =>
      rw [if_neg (show ¬ nI (srt false) = (5 : Int32) by decide)]
      exact main [] p σ (Bd.nil hp) hT hL hpl (by show RowL 0 _ (pre ++ 0 :: (acc ++ [])); rw [List.append_nil]; exact hR)
    | true =>
      rw [if_pos (show nI (srt true) = (5 : Int32) by decide)]
      have hk := z_j_key (t := t) hT hpl hp hR (by simp only [List.length_append, List.length_cons]; omega)
      cases hkk : sKey t true p with
      | inl k =>
        rw [hkk] at hk
        obtain ⟨a, tg, o, ex, g⟩ := hk
        rw [ex, bd_of rfl]
        exact ⟨a, tg, o, rfl, g⟩
      | inr kp =>
        obtain ⟨ks, p1⟩ := kp
        have g1 := sKey_bd ht hle hp hkk
        rw [hkk] at hk
        obtain ⟨tg, ex, g⟩ := hk
        rw [ex, bd_of rfl]
        simp only []
        rw [if_pos trivial]
        exact z_JOk.of (main ks p1 (js_target (js_place σ (nI p1)) tg) g1 (by simp only [jG_depthLimit_depthLimit, jG_depthLimit_place, jG_depthLimit_faultKind, jG_depthLimit_faultPlace, jG_depthLimit_tape, jG_depthLimit_target, jG_place_depthLimit, jG_place_place, jG_place_faultKind, jG_place_faultPlace, jG_place_tape, jG_place_target, jG_faultKind_depthLimit, jG_faultKind_place, jG_faultKind_faultKind, jG_faultKind_faultPlace, jG_faultKind_tape, jG_faultKind_target, jG_faultPlace_depthLimit, jG_faultPlace_place, jG_faultPlace_faultKind, jG_faultPlace_faultPlace, jG_faultPlace_tape, jG_faultPlace_target, jG_tape_depthLimit, jG_tape_place, jG_tape_faultKind, jG_tape_faultPlace, jG_tape_tape, jG_tape_target, jG_target_depthLimit, jG_target_place, jG_target_faultKind, jG_target_faultPlace, jG_target_tape, jG_target_target]; exact hT) (by simp only [jG_depthLimit_depthLimit, jG_depthLimit_place, jG_depthLimit_faultKind, jG_depthLimit_faultPlace, jG_depthLimit_tape, jG_depthLimit_target, jG_place_depthLimit, jG_place_place, jG_place_faultKind, jG_place_faultPlace, jG_place_tape, jG_place_target, jG_faultKind_depthLimit, jG_faultKind_place, jG_faultKind_faultKind, jG_faultKind_faultPlace, jG_faultKind_tape, jG_faultKind_target, jG_faultPlace_depthLimit, jG_faultPlace_place, jG_faultPlace_faultKind, jG_faultPlace_faultPlace, jG_faultPlace_tape, jG_faultPlace_target, jG_tape_depthLimit, jG_tape_place, jG_tape_faultKind, jG_tape_faultPlace, jG_tape_tape, jG_tape_target, jG_target_depthLimit, jG_target_place, jG_target_faultKind, jG_target_faultPlace, jG_target_tape, jG_target_target]; exact hL) (by simp only [jG_depthLimit_depthLimit, jG_depthLimit_place, jG_depthLimit_faultKind, jG_depthLimit_faultPlace, jG_depthLimit_tape, jG_depthLimit_target, jG_place_depthLimit, jG_place_place, jG_place_faultKind, jG_place_faultPlace, jG_place_tape, jG_place_target, jG_faultKind_depthLimit, jG_faultKind_place, jG_faultKind_faultKind, jG_faultKind_faultPlace, jG_faultKind_tape, jG_faultKind_target, jG_faultPlace_depthLimit, jG_faultPlace_place, jG_faultPlace_faultKind, jG_faultPlace_faultPlace, jG_faultPlace_tape, jG_faultPlace_target, jG_tape_depthLimit, jG_tape_place, jG_tape_faultKind, jG_tape_faultPlace, jG_tape_tape, jG_tape_target, jG_target_depthLimit, jG_target_place, jG_target_faultKind, jG_target_faultPlace, jG_target_tape, jG_target_target]) (by
          simp only [jG_depthLimit_depthLimit, jG_depthLimit_place, jG_depthLimit_faultKind, jG_depthLimit_faultPlace, jG_depthLimit_tape, jG_depthLimit_target, jG_place_depthLimit, jG_place_place, jG_place_faultKind, jG_place_faultPlace, jG_place_tape, jG_place_target, jG_faultKind_depthLimit, jG_faultKind_place, jG_faultKind_faultKind, jG_faultKind_faultPlace, jG_faultKind_tape, jG_faultKind_target, jG_faultPlace_depthLimit, jG_faultPlace_place, jG_faultPlace_faultKind, jG_faultPlace_faultPlace, jG_faultPlace_tape, jG_faultPlace_target, jG_tape_depthLimit, jG_tape_place, jG_tape_faultKind, jG_tape_faultPlace, jG_tape_tape, jG_tape_target, jG_target_depthLimit, jG_target_place, jG_target_faultKind, jG_target_faultPlace, jG_target_tape, jG_target_target]
          have e : pre ++ 0 :: acc ++ encL ks = pre ++ 0 :: (acc ++ encL ks) := by simp
          rw [← e]
          exact g))
theorem j_box {L : Nat} {val : Nat → Rd (List Tok × Nat)} {rv : Int32 → JSt → Option (Bool × JSt)} {dep : Nat} {isMap : Bool} (hv : JV t L val (rv (nI (dep + 1)))) (hvb : ∀ p, p ≤ t.length → ∀ ts q, val p = .inr (ts, q) → p < q ∧ Bd t p ts q) (hd1 : dep < L) (hL40 : L ≤ 40) {σ : JSt} {p : Nat} {out : List Nat} (hT : TpR (jf_tape σ) t) (hL : jf_depthLimit σ = nI L) (hpl : jf_place σ = nI p) (hp : p < t.length) (hR : RowL 6000 (jf_target σ) out) (ho : out.length + 10 * (t.length - p) ≤ 50000) : JOk σ out (mapR (fun y => (encL y.1, y.2)) (sBox t val isMap p)) (jj_readParts 6000 rv (nI (srt isMap)) (cls isMap) (nI dep) σ) := by
  have hle := hT.2
  have ht := hT.1.2.2
  have hs8 : srt isMap < 8 := by cases isMap <;> decide
  have hb := sB_le (t := t) (p := p + 1) (by omega)
  unfold jj_readParts sBox
  obtain ⟨r1, e1, g1⟩ := openHead_row hR (by decide) (by omega)
  rw [hL, if_pos (nI_lt hd1 (by omega)), bd_of e1]
  simp only []
  obtain ⟨σ2, e2⟩ : ∃ σ2, σ2 = js_target (js_place σ (nI (sB t (p + 1)))) r1 := ⟨_, rfl⟩
  have T2 : TpR (jf_tape σ2) t := by rw [e2]; simp only [jG_depthLimit_depthLimit, jG_depthLimit_place, jG_depthLimit_faultKind, jG_depthLimit_faultPlace, jG_depthLimit_tape, jG_depthLimit_target, jG_place_depthLimit, jG_place_place, jG_place_faultKind, jG_place_faultPlace, jG_place_tape, jG_place_target, jG_faultKind_depthLimit, jG_faultKind_place, jG_faultKind_faultKind, jG_faultKind_faultPlace, jG_faultKind_tape, jG_faultKind_target, jG_faultPlace_depthLimit, jG_faultPlace_place, jG_faultPlace_faultKind, jG_faultPlace_faultPlace, jG_faultPlace_tape, jG_faultPlace_target, jG_tape_depthLimit, jG_tape_place, jG_tape_faultKind, jG_tape_faultPlace, jG_tape_tape, jG_tape_target, jG_target_depthLimit, jG_target_place, jG_target_faultKind, jG_target_faultPlace, jG_target_tape, jG_target_target]; exact hT
  have L2 : jf_depthLimit σ2 = nI L := by rw [e2]; simp only [jG_depthLimit_depthLimit, jG_depthLimit_place, jG_depthLimit_faultKind, jG_depthLimit_faultPlace, jG_depthLimit_tape, jG_depthLimit_target, jG_place_depthLimit, jG_place_place, jG_place_faultKind, jG_place_faultPlace, jG_place_tape, jG_place_target, jG_faultKind_depthLimit, jG_faultKind_place, jG_faultKind_faultKind, jG_faultKind_faultPlace, jG_faultKind_tape, jG_faultKind_target, jG_faultPlace_depthLimit, jG_faultPlace_place, jG_faultPlace_faultKind, jG_faultPlace_faultPlace, jG_faultPlace_tape, jG_faultPlace_target, jG_tape_depthLimit, jG_tape_place, jG_tape_faultKind, jG_tape_faultPlace, jG_tape_tape, jG_tape_target, jG_target_depthLimit, jG_target_place, jG_target_faultKind, jG_target_faultPlace, jG_target_tape, jG_target_target]; exact hL
  have P2 : jf_place σ2 = nI (sB t (p + 1)) := by rw [e2]; simp only [jG_depthLimit_depthLimit, jG_depthLimit_place, jG_depthLimit_faultKind, jG_depthLimit_faultPlace, jG_depthLimit_tape, jG_depthLimit_target, jG_place_depthLimit, jG_place_place, jG_place_faultKind, jG_place_faultPlace, jG_place_tape, jG_place_target, jG_faultKind_depthLimit, jG_faultKind_place, jG_faultKind_faultKind, jG_faultKind_faultPlace, jG_faultKind_tape, jG_faultKind_target, jG_faultPlace_depthLimit, jG_faultPlace_place, jG_faultPlace_faultKind, jG_faultPlace_faultPlace, jG_faultPlace_tape, jG_faultPlace_target, jG_tape_depthLimit, jG_tape_place, jG_tape_faultKind, jG_tape_faultPlace, jG_tape_tape, jG_tape_target, jG_target_depthLimit, jG_target_place, jG_target_faultKind, jG_target_faultPlace, jG_target_tape, jG_target_target]
  have R2 : jf_target σ2 = r1 := by rw [e2]; simp only [jG_depthLimit_depthLimit, jG_depthLimit_place, jG_depthLimit_faultKind, jG_depthLimit_faultPlace, jG_depthLimit_tape, jG_depthLimit_target, jG_place_depthLimit, jG_place_place, jG_place_faultKind, jG_place_faultPlace, jG_place_tape, jG_place_target, jG_faultKind_depthLimit, jG_faultKind_place, jG_faultKind_faultKind, jG_faultKind_faultPlace, jG_faultKind_tape, jG_faultKind_target, jG_faultPlace_depthLimit, jG_faultPlace_place, jG_faultPlace_faultKind, jG_faultPlace_faultPlace, jG_faultPlace_tape, jG_faultPlace_target, jG_tape_depthLimit, jG_tape_place, jG_tape_faultKind, jG_tape_faultPlace, jG_tape_tape, jG_tape_target, jG_target_depthLimit, jG_target_place, jG_target_faultKind, jG_target_faultPlace, jG_target_tape, jG_target_target]
  have lift : ∀ {r x}, JOk σ2 out r x → JOk σ out r x := fun {r x} h => JOk.of (a := nI (sB t (p + 1))) (tg := r1) (by rw [e2] at h; exact h)
  rw [hpl, nI_1, bd_of (show jj_skipBlanks 6000 (js_place (js_target σ r1) (nI (p + 1))) = some σ2 by rw [j_blanks (t := t) (p := p + 1) (by simp only [jG_depthLimit_depthLimit, jG_depthLimit_place, jG_depthLimit_faultKind, jG_depthLimit_faultPlace, jG_depthLimit_tape, jG_depthLimit_target, jG_place_depthLimit, jG_place_place, jG_place_faultKind, jG_place_faultPlace, jG_place_tape, jG_place_target, jG_faultKind_depthLimit, jG_faultKind_place, jG_faultKind_faultKind, jG_faultKind_faultPlace, jG_faultKind_tape, jG_faultKind_target, jG_faultPlace_depthLimit, jG_faultPlace_place, jG_faultPlace_faultKind, jG_faultPlace_faultPlace, jG_faultPlace_tape, jG_faultPlace_target, jG_tape_depthLimit, jG_tape_place, jG_tape_faultKind, jG_tape_faultPlace, jG_tape_tape, jG_tape_target, jG_target_depthLimit, jG_target_place, jG_target_faultKind, jG_target_faultPlace, jG_target_tape, jG_target_target]; exact hT) (by omega) (by simp only [jG_depthLimit_depthLimit, jG_depthLimit_place, jG_depthLimit_faultKind, jG_depthLimit_faultPlace, jG_depthLimit_tape, jG_depthLimit_target, jG_place_depthLimit, jG_place_place, jG_place_faultKind, jG_place_faultPlace, jG_place_tape, jG_place_target, jG_faultKind_depthLimit, jG_faultKind_place, jG_faultKind_faultKind, jG_faultKind_faultPlace, jG_faultKind_tape, jG_faultKind_target, jG_faultPlace_depthLimit, jG_faultPlace_place, jG_faultPlace_faultKind, jG_faultPlace_faultPlace, jG_faultPlace_tape, jG_faultPlace_target, jG_tape_depthLimit, jG_tape_place, jG_tape_faultKind, jG_tape_faultPlace, jG_tape_tape, jG_tape_target, jG_target_depthLimit, jG_target_place, jG_target_faultKind, jG_target_faultPlace, jG_target_tape, jG_target_target]), e2]; rfl)]
  rw [P2, bd_of (T2.at (by omega))]
  simp only []
  rw [js_tape_id]
  by_cases c1 : gL t (sB t (p + 1)) = cls isMap
  · have hc1 := cls_in ht hle c1
    rw [if_pos c1, if_pos c1]
    unfold jj_closeParts
    obtain ⟨tg2, e3, g3⟩ := closeHead_row (suf := []) g1 (by decide) (by decide) (by simp only [List.length_nil]; omega) (t := srt isMap) (u := 0) hs8 (by decide)
    rw [R2, bd_of (show rr_closeHead 6000 (nI out.length) (nI (srt isMap)) (Int32.toInt64 (0 : Int32)) r1 = some tg2 from e3), bd_of rfl, P2, nI_1]
    refine lift ⟨tg2, rfl, ?_⟩
    show RowL 6000 tg2 (out ++ (hd (srt isMap) 0 ++ [] ++ []))
    rw [← List.append_assoc, ← List.append_assoc, List.append_nil]
    exact g3
  · rw [if_neg c1, if_neg c1]
    have r := j_parts_loop (t := t) (dep := nI dep) (isMap := isMap) (pre := out) (by rw [nI_1]; exact hv) hvb 4001 0 FU σ2 (sB t (p + 1)) [] (by omega) (by decide) (by omega) hb.2 T2 L2 P2 (by rw [R2]; exact g1) (by simp only [List.length_nil]; omega)
    have r2 := lift r
    cases hr : sPts t val isMap 4001 (sB t (p + 1)) with
    | inl k =>
      rw [hr] at r2
      exact r2
    | inr y =>
      obtain ⟨ys, n1, q1⟩ := y
      rw [hr] at r2
      simp only [mapR, List.nil_append, Nat.zero_add] at r2 ⊢
      show JOk σ out (.inr (hd (srt isMap) n1 ++ [] ++ encL ys, q1)) _
      rw [List.append_nil]
      exact r2
theorem z_j_box {L : Nat} {val : Nat → Rd (List Tok × Nat)} {rv : Int32 → JSt → Option (Bool × JSt)} {dep : Nat} {isMap : Bool} (hv : z_JV t L val (rv (nI (dep + 1)))) (hvb : ∀ p, p ≤ t.length → ∀ ts q, val p = .inr (ts, q) → p < q ∧ Bd t p ts q) (hd1 : dep < L) (hL40 : L ≤ 40) {σ : JSt} {p : Nat} {out : List Nat} (hT : TpR (jf_tape σ) t) (hL : jf_depthLimit σ = nI L) (hpl : jf_place σ = nI p) (hp : p < t.length) (hR : RowL 0 (jf_target σ) out) (ho : out.length + 10 * (t.length - p) ≤ 50000) : z_JOk σ out (mapR (fun y => (encL y.1, y.2)) (sBox t val isMap p)) (jj_readParts 0 rv (nI (srt isMap)) (cls isMap) (nI dep) σ) := by
  have hle := hT.2
  have ht := hT.1.2.2
  have hs8 : srt isMap < 8 := by cases isMap <;> decide
  have hb := sB_le (t := t) (p := p + 1) (by omega)
  unfold jj_readParts sBox
  obtain ⟨r1, e1, g1⟩ := openHead_row hR (by decide) (by omega)
  rw [hL, if_pos (nI_lt hd1 (by omega)), bd_of e1]
  simp only []
  obtain ⟨σ2, e2⟩ : ∃ σ2, σ2 = js_target (js_place σ (nI (sB t (p + 1)))) r1 := ⟨_, rfl⟩
  have T2 : TpR (jf_tape σ2) t := by rw [e2]; simp only [jG_depthLimit_depthLimit, jG_depthLimit_place, jG_depthLimit_faultKind, jG_depthLimit_faultPlace, jG_depthLimit_tape, jG_depthLimit_target, jG_place_depthLimit, jG_place_place, jG_place_faultKind, jG_place_faultPlace, jG_place_tape, jG_place_target, jG_faultKind_depthLimit, jG_faultKind_place, jG_faultKind_faultKind, jG_faultKind_faultPlace, jG_faultKind_tape, jG_faultKind_target, jG_faultPlace_depthLimit, jG_faultPlace_place, jG_faultPlace_faultKind, jG_faultPlace_faultPlace, jG_faultPlace_tape, jG_faultPlace_target, jG_tape_depthLimit, jG_tape_place, jG_tape_faultKind, jG_tape_faultPlace, jG_tape_tape, jG_tape_target, jG_target_depthLimit, jG_target_place, jG_target_faultKind, jG_target_faultPlace, jG_target_tape, jG_target_target]; exact hT
  have L2 : jf_depthLimit σ2 = nI L := by rw [e2]; simp only [jG_depthLimit_depthLimit, jG_depthLimit_place, jG_depthLimit_faultKind, jG_depthLimit_faultPlace, jG_depthLimit_tape, jG_depthLimit_target, jG_place_depthLimit, jG_place_place, jG_place_faultKind, jG_place_faultPlace, jG_place_tape, jG_place_target, jG_faultKind_depthLimit, jG_faultKind_place, jG_faultKind_faultKind, jG_faultKind_faultPlace, jG_faultKind_tape, jG_faultKind_target, jG_faultPlace_depthLimit, jG_faultPlace_place, jG_faultPlace_faultKind, jG_faultPlace_faultPlace, jG_faultPlace_tape, jG_faultPlace_target, jG_tape_depthLimit, jG_tape_place, jG_tape_faultKind, jG_tape_faultPlace, jG_tape_tape, jG_tape_target, jG_target_depthLimit, jG_target_place, jG_target_faultKind, jG_target_faultPlace, jG_target_tape, jG_target_target]; exact hL
  have P2 : jf_place σ2 = nI (sB t (p + 1)) := by rw [e2]; simp only [jG_depthLimit_depthLimit, jG_depthLimit_place, jG_depthLimit_faultKind, jG_depthLimit_faultPlace, jG_depthLimit_tape, jG_depthLimit_target, jG_place_depthLimit, jG_place_place, jG_place_faultKind, jG_place_faultPlace, jG_place_tape, jG_place_target, jG_faultKind_depthLimit, jG_faultKind_place, jG_faultKind_faultKind, jG_faultKind_faultPlace, jG_faultKind_tape, jG_faultKind_target, jG_faultPlace_depthLimit, jG_faultPlace_place, jG_faultPlace_faultKind, jG_faultPlace_faultPlace, jG_faultPlace_tape, jG_faultPlace_target, jG_tape_depthLimit, jG_tape_place, jG_tape_faultKind, jG_tape_faultPlace, jG_tape_tape, jG_tape_target, jG_target_depthLimit, jG_target_place, jG_target_faultKind, jG_target_faultPlace, jG_target_tape, jG_target_target]
  have R2 : jf_target σ2 = r1 := by rw [e2]; simp only [jG_depthLimit_depthLimit, jG_depthLimit_place, jG_depthLimit_faultKind, jG_depthLimit_faultPlace, jG_depthLimit_tape, jG_depthLimit_target, jG_place_depthLimit, jG_place_place, jG_place_faultKind, jG_place_faultPlace, jG_place_tape, jG_place_target, jG_faultKind_depthLimit, jG_faultKind_place, jG_faultKind_faultKind, jG_faultKind_faultPlace, jG_faultKind_tape, jG_faultKind_target, jG_faultPlace_depthLimit, jG_faultPlace_place, jG_faultPlace_faultKind, jG_faultPlace_faultPlace, jG_faultPlace_tape, jG_faultPlace_target, jG_tape_depthLimit, jG_tape_place, jG_tape_faultKind, jG_tape_faultPlace, jG_tape_tape, jG_tape_target, jG_target_depthLimit, jG_target_place, jG_target_faultKind, jG_target_faultPlace, jG_target_tape, jG_target_target]
  have lift : ∀ {r x}, z_JOk σ2 out r x → z_JOk σ out r x := fun {r x} h => z_JOk.of (a := nI (sB t (p + 1))) (tg := r1) (by rw [e2] at h; exact h)
  rw [hpl, nI_1, bd_of (show jj_skipBlanks 0 (js_place (js_target σ r1) (nI (p + 1))) = some σ2 by rw [z_j_blanks (t := t) (p := p + 1) (by simp only [jG_depthLimit_depthLimit, jG_depthLimit_place, jG_depthLimit_faultKind, jG_depthLimit_faultPlace, jG_depthLimit_tape, jG_depthLimit_target, jG_place_depthLimit, jG_place_place, jG_place_faultKind, jG_place_faultPlace, jG_place_tape, jG_place_target, jG_faultKind_depthLimit, jG_faultKind_place, jG_faultKind_faultKind, jG_faultKind_faultPlace, jG_faultKind_tape, jG_faultKind_target, jG_faultPlace_depthLimit, jG_faultPlace_place, jG_faultPlace_faultKind, jG_faultPlace_faultPlace, jG_faultPlace_tape, jG_faultPlace_target, jG_tape_depthLimit, jG_tape_place, jG_tape_faultKind, jG_tape_faultPlace, jG_tape_tape, jG_tape_target, jG_target_depthLimit, jG_target_place, jG_target_faultKind, jG_target_faultPlace, jG_target_tape, jG_target_target]; exact hT) (by omega) (by simp only [jG_depthLimit_depthLimit, jG_depthLimit_place, jG_depthLimit_faultKind, jG_depthLimit_faultPlace, jG_depthLimit_tape, jG_depthLimit_target, jG_place_depthLimit, jG_place_place, jG_place_faultKind, jG_place_faultPlace, jG_place_tape, jG_place_target, jG_faultKind_depthLimit, jG_faultKind_place, jG_faultKind_faultKind, jG_faultKind_faultPlace, jG_faultKind_tape, jG_faultKind_target, jG_faultPlace_depthLimit, jG_faultPlace_place, jG_faultPlace_faultKind, jG_faultPlace_faultPlace, jG_faultPlace_tape, jG_faultPlace_target, jG_tape_depthLimit, jG_tape_place, jG_tape_faultKind, jG_tape_faultPlace, jG_tape_tape, jG_tape_target, jG_target_depthLimit, jG_target_place, jG_target_faultKind, jG_target_faultPlace, jG_target_tape, jG_target_target]), e2]; rfl)]
  rw [P2, bd_of (T2.at (by omega))]
  simp only []
  rw [js_tape_id]
  by_cases c1 : gL t (sB t (p + 1)) = cls isMap
  · have hc1 := cls_in ht hle c1
    rw [if_pos c1, if_pos c1]
    unfold jj_closeParts
    obtain ⟨tg2, e3, g3⟩ := closeHead_row (suf := []) g1 (by decide) (by decide) (by simp only [List.length_nil]; omega) (t := srt isMap) (u := 0) hs8 (by decide)
    rw [R2, bd_of (show rr_closeHead 0 (nI out.length) (nI (srt isMap)) (Int32.toInt64 (0 : Int32)) r1 = some tg2 from e3), bd_of rfl, P2, nI_1]
    refine lift ⟨tg2, rfl, ?_⟩
    show RowL 0 tg2 (out ++ (hd (srt isMap) 0 ++ [] ++ []))
    rw [← List.append_assoc, ← List.append_assoc, List.append_nil]
    exact g3
  · rw [if_neg c1, if_neg c1]
    have r := z_j_parts_loop (t := t) (dep := nI dep) (isMap := isMap) (pre := out) (by rw [nI_1]; exact hv) hvb 4001 0 FU σ2 (sB t (p + 1)) [] (by omega) (by decide) (by omega) hb.2 T2 L2 P2 (by rw [R2]; exact g1) (by simp only [List.length_nil]; omega)
    have r2 := lift r
    cases hr : sPts t val isMap 4001 (sB t (p + 1)) with
    | inl k =>
      rw [hr] at r2
      exact r2
    | inr y =>
      obtain ⟨ys, n1, q1⟩ := y
      rw [hr] at r2
      simp only [mapR, List.nil_append, Nat.zero_add] at r2 ⊢
      show z_JOk σ out (.inr (hd (srt isMap) n1 ++ [] ++ encL ys, q1)) _
      rw [List.append_nil]
      exact r2
theorem j_deep {rv : Int32 → JSt → Option (Bool × JSt)} {L : Nat} {isMap : Bool} (hL40 : L ≤ 40) {σ : JSt} {p : Nat} {out : List Nat} (hL : jf_depthLimit σ = nI L) (hpl : jf_place σ = nI p) (hR : RowL 6000 (jf_target σ) out) (ho : out.length ≤ 60000) : JOk σ out (.inl (4, p)) (jj_readParts 6000 rv (nI (srt isMap)) (cls isMap) (nI L) σ) := by
  unfold jj_readParts
  rw [hL, if_neg (nI_nlt (Nat.le_refl _) (by omega)), hpl]
  exact ⟨nI p, jf_target σ, out, by rw [js_pl hpl]; rfl, hR, by omega⟩
theorem z_j_deep {rv : Int32 → JSt → Option (Bool × JSt)} {L : Nat} {isMap : Bool} (hL40 : L ≤ 40) {σ : JSt} {p : Nat} {out : List Nat} (hL : jf_depthLimit σ = nI L) (hpl : jf_place σ = nI p) (hR : RowL 0 (jf_target σ) out) (ho : out.length ≤ 60000) : z_JOk σ out (.inl (4, p)) (jj_readParts 0 rv (nI (srt isMap)) (cls isMap) (nI L) σ) := by
  unfold jj_readParts
  rw [hL, if_neg (nI_nlt (Nat.le_refl _) (by omega)), hpl]
  exact ⟨nI p, jf_target σ, out, by rw [js_pl hpl]; rfl, hR, by omega⟩
end VJ
