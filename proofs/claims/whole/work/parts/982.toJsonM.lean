/-! PURE NN: JSON written by the reference; toJson of both -/
theorem sIt_ne {t : List Nat} (ht : ∀ x ∈ t, x < 256) {d p q : Nat} {ts : List Tok} {js : List Nat} (h : sIt t d p = .inr ((ts, js), q)) : 1 ≤ ts.length := by
  cases hk : sTk t false d p with
  | inl k => rw [sIt_l hk] at h; cases h
  | inr y =>
    obtain ⟨x, q0⟩ := y
    by_cases c : x.1 = 4 ∨ x.1 = 5
    · obtain ⟨isMap, e⟩ := srt_of c
      have d0 := (sTk_bd ht hk).2.2.2.2.1 c
      obtain ⟨d, rfl⟩ : ∃ g, d = g + 1 := ⟨d - 1, by omega⟩
      obtain ⟨ty, v, ls⟩ := x
      have e' : ty = srt isMap := e
      subst e'
      rw [sIt_b hk] at h
      unfold sBx at h
      cases hr : sIts t (sIt t d) d isMap v true q0 with
      | inl k => rw [hr] at h; cases h
      | inr y =>
        rw [hr] at h
        obtain ⟨e1, e2⟩ := Prod.mk.inj (Sum.inr.inj h)
        obtain ⟨e3, e4⟩ := Prod.mk.inj e1
        rw [← e3, List.length_cons]
        omega
    · rw [sIt_s hk (fun z => c (Or.inl z)) (fun z => c (Or.inr z))] at h
      obtain ⟨e1, e2⟩ := Prod.mk.inj (Sum.inr.inj h)
      obtain ⟨e3, e4⟩ := Prod.mk.inj e1
      rw [← e3]
      exact Nat.le_refl _
def WV (t : List Nat) (d : Nat) : Prop := ∀ (p : Nat) (vs : List Tok) (vj : List Nat) (q : Nat), p ≤ t.length → sIt t d p = .inr ((vs, vj), q) → ∀ (σ : MSt) (TS pre rest : List Tok) (l st lf : List Nat) (i : Nat), TS = pre ++ (vs ++ rest) → i + 1 = pre.length + vs.length → WS σ TS l st lf → st.length + d ≤ 40 → l.length + vj.length ≤ 150000 → ∃ σ', WS σ' TS (l ++ vj) st lf ∧ MWr σ σ' ∧ ∀ f, vs.length ≤ f + 1 → ∃ f' g', f + 1 ≤ f' + vs.length ∧ st.length + 1 ≤ g' ∧ mm_writesJson_b169 (mm_writesJson_L12 f) (nI pre.length) σ = WB f' g' i σ'
section TJM
variable {t : List Nat}
theorem w_parts (ht : ∀ x ∈ t, x < 256) {d : Nat} (hV : WV t d) {isMap : Bool} {b N : Nat} {TS : List Tok} (hB : b < 4200 ∧ ∀ σ, MTs σ TS → mf_sorts σ b = nI (srt isMap) ∧ mf_numbers σ b = lN N) (hN : N ≤ 4000) : ∀ (m : Nat) (fst : Bool) (p : Nat) (ys : List Tok) (yj : List Nat) (q : Nat), p ≤ t.length → sIts t (sIt t d) d isMap m fst p = .inr ((ys, yj), q) → ∀ (σ : MSt) (pre rest : List Tok) (l st lf : List Nat) (a1 i : Nat), TS = pre ++ (ys ++ rest) → a1 + 1 = pre.length → i + 1 = pre.length + ys.length → WS σ TS l (st ++ [b]) (lf ++ [lft isMap m]) → m ≤ N → fst = decide (m = N) → st.length + 1 + d ≤ 40 → l.length + yj.length + 1 ≤ 150000 → ∃ σ', WS σ' TS (l ++ (yj ++ [clC isMap])) st lf ∧ MWr σ σ' ∧ ∀ f g, ys.length ≤ f → st.length + 2 ≤ g → ∃ f' g', f ≤ f' + ys.length ∧ st.length + 1 ≤ g' ∧ WB f g a1 σ = WB f' g' i σ' := by
  intro m
  induction m with
  | zero =>
    intro fst p ys yj q hp h σ pre rest l st lf a1 i hTS ha hi hW hm hf hst hl
    obtain ⟨e1, e2⟩ := Prod.mk.inj (Sum.inr.inj h)
    obtain ⟨e3, e4⟩ := Prod.mk.inj e1
    subst e3
    subst e4
    have hW' : WS σ TS l (st ++ [b]) (lf ++ [0]) := by
      have e : lft isMap 0 = 0 := by cases isMap <;> rfl
      rw [e] at hW
      exact hW
    obtain ⟨σ1, run, W1, R1⟩ := wb_pop hW' hB.1 (hB.2 σ hW.1.1).1 (by omega)
    refine ⟨σ1, W1, R1, fun f g hf hg => ?_⟩
    obtain ⟨g, rfl⟩ : ∃ k, g = k + 1 := ⟨g - 1, by omega⟩
    have ei : i = a1 := by
      have : i + 1 = pre.length + 0 := hi
      omega
    exact ⟨f, g, by omega, by omega, by rw [run, ei]⟩
  | succ m ih =>
    intro fst p ys yj q hp h σ pre rest l st lf a1 i hTS ha hi hW hm hf hst hl
    cases hk : sKy t isMap d p with
    | inl k => rw [sIts_k hk] at h; cases h
    | inr kp =>
    obtain ⟨⟨ks, kj⟩, p1⟩ := kp
    obtain ⟨k1, k2, k3, k4⟩ := sKy_bd ht hp hk
    have kl := k2.2.1
    cases hit : sIt t d p1 with
    | inl k => rw [sIts_v hk hit] at h; cases h
    | inr vp =>
    obtain ⟨⟨vs, vj⟩, p2⟩ := vp
    obtain ⟨v1, v2, v3⟩ := sIt_bd ht d p1 kl vs vj p2 hit
    have vl := v2.2.1
    have vne := sIt_ne ht hit
    cases hr : sIts t (sIt t d) d isMap m false p2 with
    | inl k => rw [sIts_r hk hit hr] at h; cases h
    | inr z =>
    obtain ⟨⟨zs, zj⟩, q1⟩ := z
    rw [sIts_o hk hit hr] at h
    obtain ⟨e1, e2⟩ := Prod.mk.inj (Sum.inr.inj h)
    obtain ⟨e3, e4⟩ := Prod.mk.inj e1
    obtain ⟨cm, ecm⟩ : ∃ cm : List Nat, cm = if fst = true then [] else [44] := ⟨_, rfl⟩
    rw [← ecm] at e4
    subst e3
    subst e4
    have hlt : lft isMap m ≤ 8000 ∧ lft isMap (m + 1) ≤ 8002 ∧ 0 < lft isMap (m + 1) := by unfold lft; split <;> omega
    have hyl : (ks ++ vs ++ zs).length = ks.length + vs.length + zs.length := by simp only [List.length_append]
    have hjl : (cm ++ kj ++ vj ++ zj).length = cm.length + kj.length + vj.length + zj.length := by simp only [List.length_append]
    rw [hyl] at hi
    rw [hjl] at hl
    have hTSl : TS.length = pre.length + (ks.length + vs.length + zs.length + rest.length) := by rw [hTS]; simp only [List.length_append]
    have hcm : (m + 1 = N → cm = []) ∧ (m + 1 ≠ N → cm = [44]) := by
      rw [ecm, hf]
      refine ⟨fun z => ?_, fun z => ?_⟩
      · rw [if_pos (decide_eq_true z)]
      · rw [if_neg (by rw [decide_eq_false z]; decide)]
    have hgo : ∀ f g, st.length + 2 ≤ g → WB f g a1 σ = mm_writesJson_L12 f (nI pre.length) σ := by
      intro f g hg
      obtain ⟨g, rfl⟩ : ∃ k, g = k + 1 := ⟨g - 1, by omega⟩
      rw [wb_go hW hlt.2.2 (by omega), ha]
    -- behind the key
    have main : ∀ (σ1 : MSt), WS σ1 TS (l ++ (cm ++ kj)) (st ++ [b]) (lf ++ [lft isMap m]) → MWr σ σ1 → (∀ f g, ks.length + vs.length + zs.length ≤ f → st.length + 2 ≤ g → ∃ f1, f ≤ f1 + 1 + ks.length ∧ WB f g a1 σ = mm_writesJson_b169 (mm_writesJson_L12 f1) (nI (pre ++ ks).length) σ1) → ∃ σ', WS σ' TS (l ++ ((cm ++ kj ++ vj ++ zj) ++ [clC isMap])) st lf ∧ MWr σ σ' ∧ ∀ f g, (ks ++ vs ++ zs).length ≤ f → st.length + 2 ≤ g → ∃ f' g', f ≤ f' + (ks ++ vs ++ zs).length ∧ st.length + 1 ≤ g' ∧ WB f g a1 σ = WB f' g' i σ' := by
      intro σ1 W1 R1 run1
      obtain ⟨j, hj⟩ : ∃ j, j + 1 = (pre ++ ks).length + vs.length := ⟨(pre ++ ks).length + vs.length - 1, by omega⟩
      obtain ⟨σ2, W2, R2, run2⟩ := hV p1 vs vj p2 kl hit σ1 TS (pre ++ ks) (zs ++ rest) (l ++ (cm ++ kj)) (st ++ [b]) (lf ++ [lft isMap m]) j (by rw [hTS]; simp only [List.append_assoc]) hj W1 (by rw [len_snoc]; exact hst) (by simp only [List.length_append]; omega)
      obtain ⟨σ3, W3, R3, run3⟩ := ih false p2 zs zj q1 vl hr σ2 (pre ++ ks ++ vs) rest _ st lf j i (by rw [hTS]; simp only [List.append_assoc]) (by rw [List.length_append]; omega) (by simp only [List.length_append] at hj ⊢; omega) W2 (by omega) (by rw [decide_eq_false (by omega)]) hst (by simp only [List.length_append]; omega)
      refine ⟨σ3, ?_, (R1.trans R2).trans R3, fun f g hf hg => ?_⟩
      · have e : l ++ ((cm ++ kj ++ vj ++ zj) ++ [clC isMap]) = l ++ (cm ++ kj) ++ vj ++ (zj ++ [clC isMap]) := by simp only [List.append_assoc]
        rw [e]
        exact W3
      · rw [hyl] at hf
        obtain ⟨f1, z1, z2⟩ := run1 f g hf hg
        obtain ⟨f2, g2, w1, w2, w3⟩ := run2 f1 (by omega)
        rw [len_snoc] at w2
        obtain ⟨f3, g3, x1, x2, x3⟩ := run3 f2 g2 (by omega) (by omega)
        exact ⟨f3, g3, by rw [hyl]; omega, x2, by rw [z2, w3, x3]⟩
    cases isMap with
    | false =>
      obtain ⟨e5, e6⟩ := Prod.mk.inj (Sum.inr.inj hk)
      obtain ⟨e7, e8⟩ := Prod.mk.inj e5
      subst e7
      subst e8
      obtain ⟨σ1, run, W1, R1⟩ := w_sep (n := m) (N := N) (it := pre.length) (isMap := false) hW (by omega) (by omega) hB.1 (hB.2 σ hW.1.1).1 (hB.2 σ hW.1.1).2 (by omega) (by omega)
      have es : sep false (m + 1) N = cm := by
        unfold sep
        rw [if_neg (fun z => absurd z.1 (by decide))]
        by_cases c : m + 1 = N
        · rw [if_pos (show m + 1 = lft false N from c), hcm.1 c]
        · rw [if_neg (show ¬ m + 1 = lft false N from c), hcm.2 c]
      rw [es] at W1
      refine main σ1 (by rw [List.append_nil]; exact W1) R1 (fun f g hf hg => ?_)
      obtain ⟨f, rfl⟩ : ∃ k, f = k + 1 := ⟨f - 1, by omega⟩
      refine ⟨f, by omega, ?_⟩
      rw [hgo _ _ hg, run, List.append_nil]
    | true =>
      cases hx : sTk t true d p with
      | inl k => rw [sKy_l hx] at hk; cases hk
      | inr y =>
      obtain ⟨x, q0⟩ := y
      rw [sKy_t hx] at hk
      obtain ⟨e5, e6⟩ := Prod.mk.inj (Sum.inr.inj hk)
      obtain ⟨e7, e8⟩ := Prod.mk.inj e5
      obtain ⟨b1, b2, b3, b4, b5, b6, b7, b8⟩ := sTk_bd ht hx
      have x3 := b4 rfl
      subst e7
      subst e8
      have kl1 : ([x] : List Tok).length = 1 := rfl
      have kjl : (jTk x ++ [58]).length = (jTk x).length + 1 := len_snoc _ _
      rw [kl1] at hi hTSl hyl
      rw [kjl] at hl
      obtain ⟨σ1, run1, W1, R1⟩ := w_sep (n := 2 * m + 1) (N := N) (it := pre.length) (isMap := true) hW (by omega) (by omega) hB.1 (hB.2 σ hW.1.1).1 (hB.2 σ hW.1.1).2 (by omega) (by omega)
      have es : sep true (2 * m + 1 + 1) N = cm := by
        unfold sep
        rw [if_neg (fun z => by have := z.2; omega)]
        by_cases c : m + 1 = N
        · rw [if_pos (show 2 * m + 1 + 1 = lft true N by show 2 * m + 1 + 1 = 2 * N; omega), hcm.1 c]
        · rw [if_neg (show ¬ 2 * m + 1 + 1 = lft true N by show ¬ 2 * m + 1 + 1 = 2 * N; omega), hcm.2 c]
      rw [es] at W1
      have hTS2 : TS = pre ++ x :: (vs ++ zs ++ rest) := by rw [hTS]; simp
      have W1' : WS σ1 (pre ++ x :: (vs ++ zs ++ rest)) (l ++ cm) (st ++ [b]) (lf ++ [2 * m + 1]) := by rw [← hTS2]; exact W1
      obtain ⟨σ2, run2, W2', R2⟩ := w_sca W1' (Or.inr (Or.inr (Or.inl x3))) b6 (by rw [List.length_append]; omega)
      have W2 : WS σ2 TS (l ++ cm ++ jTk x) (st ++ [b]) (lf ++ [2 * m + 1]) := by rw [hTS2]; exact W2'
      obtain ⟨σ3, run3, W3, R3⟩ := w_sep (n := 2 * m) (N := N) (it := pre.length + 1) (isMap := true) W2 (by omega) (by omega) hB.1 (hB.2 σ2 W2.1.1).1 (hB.2 σ2 W2.1.1).2 (by omega) (by simp only [List.length_append]; omega)
      have es3 : sep true (2 * m + 1) N = [58] := by
        unfold sep
        rw [if_pos ⟨rfl, by omega⟩]
      rw [es3] at W3
      have el : l ++ cm ++ jTk x ++ [58] = l ++ (cm ++ (jTk x ++ [58])) := by simp only [List.append_assoc]
      rw [el] at W3
      refine main σ3 W3 ((R1.trans R2).trans R3) (fun f g hf hg => ?_)
      obtain ⟨f, rfl⟩ : ∃ k, f = k + 2 := ⟨f - 2, by omega⟩
      refine ⟨f, by show f + 2 ≤ f + 1 + 1; omega, ?_⟩
      have hgo2 : WB (f + 1) FU pre.length σ2 = mm_writesJson_L12 (f + 1) (nI (pre.length + 1)) σ2 := wb_go (g := 99999) W2 (by omega) (by omega)
      rw [hgo _ _ hg, show f + 2 = f + 1 + 1 from rfl, run1, run2, hgo2, run3, show (pre ++ [x]).length = pre.length + 1 by rw [List.length_append]; rfl]
theorem w_itemS (ht : ∀ x ∈ t, x < 256) (hle : t.length ≤ 4000) {d : Nat} (hV : ∀ d', d = d' + 1 → WV t d') : WV t d := by
  intro p vs vj q hp h σ TS pre rest l st lf i hTS hi hW hst hl
  have hFU : ∀ k, k ≤ 100000 → k ≤ FU := fun k hk => hk
  cases hk : sTk t false d p with
  | inl k => rw [sIt_l hk] at h; cases h
  | inr y =>
    obtain ⟨x, q0⟩ := y
    obtain ⟨b1, b2, b3, b4, b5, b6, b7, b8⟩ := sTk_bd ht hk
    have bq := b2.2.1
    by_cases c : x.1 = 4 ∨ x.1 = 5
    · obtain ⟨isMap, e⟩ := srt_of c
      have d0 := b5 c
      obtain ⟨d, rfl⟩ : ∃ g, d = g + 1 := ⟨d - 1, by omega⟩
      obtain ⟨ty, v, ls⟩ := x
      have e' : ty = srt isMap := e
      subst e'
      rw [sIt_b hk] at h
      unfold sBx at h
      cases hr : sIts t (sIt t d) d isMap v true q0 with
      | inl k => rw [hr] at h; cases h
      | inr y =>
        obtain ⟨⟨ys, yj⟩, q1⟩ := y
        obtain ⟨y1, y2, y3⟩ := sIts_bd ht (sIt_bd ht d) v true q0 bq ys yj q1 hr
        have yl := y2.2.1
        have hv4 : v ≤ 4000 := by omega
        rw [hr] at h
        obtain ⟨e1, e2⟩ := Prod.mk.inj (Sum.inr.inj h)
        obtain ⟨e3, e4⟩ := Prod.mk.inj e1
        subst e3
        subst e4
        have e3l : ((srt isMap, v, []) :: ys : List Tok).length = ys.length + 1 := List.length_cons
        have e4l : (opC isMap :: (yj ++ [clC isMap])).length = yj.length + 2 := by rw [List.length_cons, len_snoc]
        have hi' : i + 1 = pre.length + (ys.length + 1) := by rw [← e3l]; exact hi
        have hl' : l.length + (yj.length + 2) ≤ 150000 := by rw [← e4l]; exact hl
        have hTS2 : TS = pre ++ (srt isMap, v, []) :: (ys ++ rest) := hTS
        have W0 : WS σ (pre ++ (srt isMap, v, []) :: (ys ++ rest)) l st lf := by rw [← hTS2]; exact hW
        obtain ⟨σ1, run1, W1', R1⟩ := w_push W0 (by omega) (by omega) (by omega)
        have W1 : WS σ1 TS (l ++ [opC isMap]) (st ++ [pre.length]) (lf ++ [lft isMap v]) := by rw [hTS2]; exact W1'
        have hB : pre.length < 4200 ∧ ∀ σ, MTs σ TS → mf_sorts σ pre.length = nI (srt isMap) ∧ mf_numbers σ pre.length = lN v := by
          refine ⟨?_, fun σ2 h2 => ?_⟩
          · have := W0.1.1.mid.1
            omega
          · rw [hTS2] at h2
            exact ⟨h2.mid.2.1, h2.mid.2.2.1⟩
        obtain ⟨σ2, W2, R2, run2⟩ := w_parts ht (hV d rfl) hB hv4 v true q0 ys yj q1 bq hr σ1 (pre ++ [(srt isMap, v, [])]) rest (l ++ [opC isMap]) st lf pre.length i (by rw [hTS2]; simp) (by rw [List.length_append]; rfl) (by rw [List.length_append]; show i + 1 = pre.length + 1 + ys.length; omega) W1 (Nat.le_refl _) (by rw [decide_eq_true rfl]) (by omega) (by rw [len_snoc]; omega)
        refine ⟨σ2, ?_, R1.trans R2, fun f hf => ?_⟩
        · show WS σ2 TS (l ++ (opC isMap :: (yj ++ [clC isMap]))) st lf
          rw [List.append_assoc] at W2
          exact W2
        · obtain ⟨f', g', x1, x2, x3⟩ := run2 f FU (by rw [e3l] at hf; omega) (hFU _ (by omega))
          exact ⟨f', g', by rw [e3l]; omega, x2, by rw [run1, x3]⟩
    · rw [sIt_s hk (fun z => c (Or.inl z)) (fun z => c (Or.inr z))] at h
      obtain ⟨e1, e2⟩ := Prod.mk.inj (Sum.inr.inj h)
      obtain ⟨e3, e4⟩ := Prod.mk.inj e1
      subst e3
      subst e4
      have hTS2 : TS = pre ++ x :: rest := hTS
      have hi' : i + 1 = pre.length + 1 := hi
      have W0 : WS σ (pre ++ x :: rest) l st lf := by rw [← hTS2]; exact hW
      obtain ⟨σ1, run1, W1', R1⟩ := w_sca W0 (by omega) b6 (by omega)
      refine ⟨σ1, by rw [hTS2]; exact W1', R1, fun f hf => ⟨f, FU, Nat.le_refl _, hFU _ (by omega), ?_⟩⟩
      rw [run1, show i = pre.length by omega]
theorem w_item (ht : ∀ x ∈ t, x < 256) (hle : t.length ≤ 4000) : ∀ d, WV t d := by
  intro d
  induction d with
  | zero => exact w_itemS ht hle (fun d' e => by omega)
  | succ d ih => exact w_itemS ht hle (fun d' e => by
      have e2 : d' = d := by omega
      subst e2
      exact ih)
end TJM
theorem m_toJson {t : List Nat} {σ : MSt} {d rm : Nat} (hT : TpM σ t) (hd : mf_depth σ = nI d) (hd40 : d ≤ 40) (hrm : mf_room σ = nI rm) (hrm6 : rm ≤ 6000) : ∃ r σ', mm_toJson σ = some (r, σ') ∧ MOut σ (fin t rm (mapR (fun y => (y.1.2, y.2)) (sIt t d 0))) r σ' := by
  have hle := hT.2.1
  have ht := hT.2.2.1
  obtain ⟨σ0, e0, g0, h0⟩ := m_begin σ
  have M0 := MSfirst hT hd g0 h0
  have hr := m_readsCbor hd40 M0
  have bad : ∀ (k q : Nat) (σ' : MSt), 1 ≤ k ∧ k ≤ 6 → mm_readsCbor σ0 = some σ' → BadS σ σ' (k, q) → ∃ r σ', mm_toJson σ = some (r, σ') ∧ MOut σ (.inl (k, q)) r σ' := by
    intro k q σ' hk ex hb
    unfold mm_toJson
    rw [bd_of e0, bd_of ex, hb.2.1, if_neg (nI_np (by show 0 < k; omega) (by show k < _; omega))]
    have b1 := hb.1
    exact ⟨_, σ', rfl, ⟨b1.1.1, b1.1.2.1, b1.1.2.2, b1.2.1⟩, rfl, b1.2.2.1, b1.2.2.2, hb.2.2⟩
  cases hv : sIt t d 0 with
  | inl kq =>
    have hk := sIt_k ht d 0 kq hv
    rw [hv] at hr
    obtain ⟨σ', ex, hb⟩ := hr
    exact bad kq.1 kq.2 σ' hk ex (hb.fr g0)
  | inr y =>
    obtain ⟨⟨ts, js⟩, q⟩ := y
    obtain ⟨gb1, gb2, gb3⟩ := sIt_bd ht d 0 (Nat.zero_le _) ts js q hv
    have gq := gb2.2.1
    have gl := gb2.2.2.1
    have gw := gb2.2.2.2
    have gne := sIt_ne ht hv
    rw [hv] at hr
    obtain ⟨σ', M2, G2, ex⟩ := hr
    have G3 : MFr σ σ' := g0.trans G2.1
    show ∃ r σ', mm_toJson σ = some (r, σ') ∧ MOut σ (if q = t.length then (if js.length ≤ rm then .inr js else .inl (5, t.length)) else .inl (1, q)) r σ'
    have ex' : mm_readsCbor σ0 = if q = t.length then some σ' else some (mF σ' 1 (nI q)) := ex
    by_cases c : q = t.length
    · rw [if_pos c] at ex' ⊢
      unfold mm_toJson
      rw [bd_of e0, bd_of ex', M2.2.1.2.1, if_pos (by decide)]
      unfold mm_writesJson
      obtain ⟨σ2, e2⟩ : ∃ σ2, σ2 = ms_open (ms_freshMany σ' (0 : Int32)) (0 : Int32) := ⟨_, rfl⟩
      have R2 : MWr σ' σ2 := by
        rw [e2]
        unfold MWr MFr
        simp only [mG_thrown_freshMany, mG_tape_freshMany, mG_taped_freshMany, mG_depth_freshMany, mG_room_freshMany, mG_written_freshMany, mG_writtenMany_freshMany, mG_errorPlace_freshMany, mG_sorts_freshMany, mG_numbers_freshMany, mG_places_freshMany, mG_things_freshMany, mG_letters_freshMany, mG_lettersMany_freshMany, mG_openThing_freshMany, mG_openLeft_freshMany, mG_open_freshMany, mG_at_freshMany, mG_fault_freshMany, mG_fresh_freshMany, mG_freshMany_freshMany, mG_figures_freshMany, mG_thrown_open, mG_tape_open, mG_taped_open, mG_depth_open, mG_room_open, mG_written_open, mG_writtenMany_open, mG_errorPlace_open, mG_sorts_open, mG_numbers_open, mG_places_open, mG_things_open, mG_letters_open, mG_lettersMany_open, mG_openThing_open, mG_openLeft_open, mG_open_open, mG_at_open, mG_fault_open, mG_fresh_open, mG_freshMany_open, mG_figures_open, and_self]
      have F2 : MFs σ2 [] := ⟨by rw [e2, mG_freshMany_open, mG_freshMany_freshMany]; rfl, fun i hi => absurd hi (Nat.not_lt_zero _)⟩
      have Ts : MTs σ' ts := ⟨M2.2.1.2.2.1, M2.2.1.2.2.2, gw, by omega⟩
      have Ts2 : MTs σ2 ts := by
        rw [e2]
        refine MTs_open ?_ _
        unfold MTs MTh MLt
        simp only [mG_thrown_freshMany, mG_tape_freshMany, mG_taped_freshMany, mG_depth_freshMany, mG_room_freshMany, mG_written_freshMany, mG_writtenMany_freshMany, mG_errorPlace_freshMany, mG_sorts_freshMany, mG_numbers_freshMany, mG_places_freshMany, mG_things_freshMany, mG_letters_freshMany, mG_lettersMany_freshMany, mG_openThing_freshMany, mG_openLeft_freshMany, mG_open_freshMany, mG_at_freshMany, mG_fault_freshMany, mG_fresh_freshMany, mG_freshMany_freshMany, mG_figures_freshMany]
        exact Ts
      have W2 : WS σ2 ts [] [] [] := ⟨⟨Ts2, F2⟩, ⟨by rw [e2, mG_open_open]; rfl, by decide, fun i hi => absurd hi (Nat.not_lt_zero _)⟩, rfl, fun i hi => absurd hi (Nat.not_lt_zero _)⟩
      have hth : ∀ σ, MTs σ ts → mf_things σ = nI ts.length := fun σ h => by rw [h.1.1, thL_len]
      obtain ⟨i, hi⟩ : ∃ i, i + 1 = ts.length := ⟨ts.length - 1, by omega⟩
      obtain ⟨σ3, W3, R3, run3⟩ := w_item ht hle d 0 ts js q (Nat.zero_le _) hv σ2 ts [] [] [] [] [] i (by simp) (by show i + 1 = 0 + ts.length; omega) W2 (by show 0 + d ≤ 40; omega) (by show 0 + js.length ≤ _; omega)
      obtain ⟨G, hG⟩ : ∃ g, FU = g + 1 := ⟨99999, rfl⟩
      have hG2 : 4100 ≤ G := by
        have : FU = 100000 := rfl
        omega
      obtain ⟨f', g', x1, x2, x3⟩ := run3 G (by omega)
      have x2' : 0 + 1 ≤ g' := x2
      obtain ⟨f', rfl⟩ : ∃ k, f' = k + 1 := ⟨f' - 1, by omega⟩
      obtain ⟨g', rfl⟩ : ∃ k, g' = k + 1 := ⟨g' - 1, by omega⟩
      have hrun : mm_writesJson_L12 FU (0 : Int32) σ2 = bd (mm_ends σ3) (fun (x2 : Int32 × MSt) => some (x2.1, x2.2)) := by
        rw [hG]
        have s1 : mm_writesJson_L12 (G + 1) (nI 0) σ2 = mm_writesJson_b169 (mm_writesJson_L12 G) (nI 0) σ2 := by
          show mm_writesJson_b12 (mm_writesJson_L12 G) (nI 0) σ2 = _
          unfold mm_writesJson_b12
          rw [hth σ2 Ts2, if_neg (nI_ge (by omega) (by omega)), W2.2.1.1, if_pos (show nI ([] : List Nat).length ≤ (0 : Int32) by decide)]
        have s2 : mm_writesJson_L12 (f' + 1) (nI (i + 1)) σ3 = bd (mm_ends σ3) (fun (x2 : Int32 × MSt) => some (x2.1, x2.2)) := by
          show mm_writesJson_b12 (mm_writesJson_L12 f') (nI (i + 1)) σ3 = _
          unfold mm_writesJson_b12
          rw [hth σ3 W3.1.1, if_pos (nI_le (by omega) (by omega))]
        have W3' : WS σ3 ts js [] [] := W3
        rw [show (0 : Int32) = nI 0 from rfl, s1, show mm_writesJson_b169 (mm_writesJson_L12 G) (nI 0) σ2 = _ from x3, wb_end W3', s2]
      have Q3 := R2.trans R3
      obtain ⟨r, σ4, e4, o4⟩ := m_ends (M2.1.1.fr Q3.1) (by rw [Q3.1.2.1, G3.2.1]; exact hrm) hrm6 (Q3.2.2.trans M2.2.1.2.1) ((Q3.2.1.trans G2.2).trans h0.1.2) (show MFs σ3 js from W3.1.2) (by omega)
      rw [← e2, hrun, bd_of e4, bd_of rfl]
      exact ⟨r, σ4, rfl, MOut.of (G3.trans Q3.1) o4⟩
    · rw [if_neg c] at ex' ⊢
      exact bad 1 q _ (by decide) ex' ((BadS_mF σ' 1 q).fr G3)
theorem st_toJson {τ : TSt} {σ : MSt} (h : Inv τ σ) : ∃ (r : Int32) (τ' : TSt) (σ' : MSt), tt_toJson 42 τ = some (r, τ') ∧ mm_toJson σ = some (r, σ') ∧ Inv τ' σ' := by
  obtain ⟨tp, wr, dr, d, rm, h1, h2, h3, h4, h5, h6, h7, h8⟩ := id h
  have hT : TpM σ tp := ⟨h6.1, h1.2, h1.1.2.2, h6.2⟩
  obtain ⟨r, τ', e1, o1⟩ := t_toJson (t := tp) h1 h3.1 h3.2 h2.1 h2.2 h4.1 h4.2.2 h5.1 h5.2.2
  obtain ⟨r', σ', e2, o2⟩ := m_toJson hT h4.2.1 h4.2.2 h5.2.1 h5.2.2
  have z := out_inv h (fun bs hb => Nat.le_trans (fin_len hb) h5.2.2) o1 o2
  exact ⟨r, τ', σ', e1, by rw [z.1]; exact e2, z.2⟩
