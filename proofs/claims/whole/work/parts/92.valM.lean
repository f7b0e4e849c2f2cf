/-! PURE W: a JSON text, read by the reference -/
def VA (f : Nat) (was : Int32) (σ : MSt) : Option MSt := bd (mm_value σ) (aft (mm_readsJson_L6 f) was)
def VOK (t : List Nat) (D : Nat) (σ : MSt) (p : Nat) (T : List Th) (L st : List Nat) (r : Rd (List Tok × Nat)) : Prop := match r with
  | .inl kq => ∀ f, t.length + 1 - p ≤ f → ∃ σ', VA f (nI st.length) σ = some σ' ∧ BadS σ σ' kq
  | .inr y => ∃ σ', MS t D σ' (sB t y.2) (T ++ thL L.length y.1) (L ++ ltL y.1) st ∧ MG σ σ' ∧ ∀ f, t.length + 1 - p ≤ f → ∃ f' g', t.length + 2 - sB t y.2 ≤ f' ∧ t.length + 2 - sB t y.2 ≤ g' ∧ VA f (nI st.length) σ = BB f' g' σ'
def VL (t : List Nat) (D d : Nat) : Prop := ∀ (σ : MSt) (p : Nat) (T : List Th) (L st : List Nat), MS t D σ p T L st → st.length + d = D → VOK t D σ p T L st (sVal t d p)
theorem MS.at {t : List Nat} {D : Nat} {σ : MSt} {p p' : Nat} {T : List Th} {L st : List Nat} (h : MS t D σ p T L st) (h1 : p ≤ p') (h2 : p' ≤ t.length) : MS t D (ms_at σ (nI p')) p' T L st := by
  obtain ⟨h0, hR, hO, hTl, hLl, hp⟩ := id h
  exact h.q (MLq.at σ _).1 ⟨by rw [mG_at_at], by rw [mG_fault_at]; exact hR.2.1, hR.2.2.1.lq (MLq.at _ _), hR.2.2.2.at _⟩ (by omega) (by omega) h2
theorem v_sca {t : List Nat} {D : Nat} {σ : MSt} {p : Nat} {T : List Th} {L st : List Nat} (h : MS t D σ p T L st) (c2 : ¬ gL t p = 91) (c3 : ¬ gL t p = 123) : VOK t D σ p T L st (sSca t p) := by
  obtain ⟨⟨hT, hD⟩, hR, hO, hTl, hLl, hp⟩ := id h
  have hle := hT.2.1
  have r := m_sca hT hR hp hTl hLl c2 c3
  cases hr : sSca t p with
  | inl kq =>
    rw [hr] at r
    obtain ⟨σ', ex, g⟩ := r
    refine fun f _ => ⟨σ', ?_, g⟩
    unfold VA
    rw [ex, bd_of rfl]
    unfold aft
    rw [if_neg (show ¬ false = true by decide)]
  | inr y =>
    obtain ⟨ts, q⟩ := y
    have gb := sSca_bd hT.2.2.1 hle hp hr
    have gq := gb.2.2.1
    have gl := gb.2.2.2.1
    have hb := sB_le gq
    rw [hr] at r
    obtain ⟨σ1, ex, q1, r1⟩ := r
    have M1 : MS t D σ1 q (T ++ thL L.length ts) (L ++ ltL ts) st := h.q q1 r1 (by rw [List.length_append, thL_len]; omega) (by rw [List.length_append]; omega) gq
    refine ⟨ms_at σ1 (nI (sB t q)), M1.at hb.1 hb.2, q1.g.trans (MLq.at σ1 _).1.g, fun f hf => ⟨f, FU, by show t.length + 2 - sB t q ≤ f; omega, by show t.length + 2 - sB t q ≤ 100000; omega, ?_⟩⟩
    unfold VA
    rw [ex, bd_of rfl]
    unfold aft
    rw [if_pos rfl, if_pos (show mf_open σ1 ≤ nI st.length by rw [M1.2.2.1.1]; exact nI_le (Nat.le_refl _) (by have := hO.2.1; omega))]
    exact b45_eq M1.1.1 gq r1.1
theorem sKey_len {t : List Nat} (ht : ∀ x ∈ t, x < 256) (hle : t.length ≤ 4000) {p : Nat} (hp : p ≤ t.length) {ts : List Tok} {q : Nat} (h : sKey t true p = .inr (ts, q)) : sB t p ≤ q ∧ ts.length + (ltL ts).length ≤ q - sB t p := by
  have hb := sB_le hp
  unfold sKey at h
  rw [if_pos rfl] at h
  by_cases c : gL t (sB t p) = 34
  · rw [if_pos c] at h
    cases hs : sStr t (sB t p) with
    | inl k => rw [hs] at h; cases h
    | inr y =>
      obtain ⟨bs, q1⟩ := y
      have g := sStr_bd ht hle (gL_lit (v := 34) (by decide) rfl c) hs
      have hb2 := sB_le g.2.1.2.1
      have g3 := g.2.1.2.2.1
      rw [hs] at h
      simp only [] at h
      split at h
      · obtain ⟨e1, e2⟩ := Prod.mk.inj (Sum.inr.inj h)
        subst e2
        subst e1
        exact ⟨by omega, by omega⟩
      · cases h
  · rw [if_neg c] at h; cases h
theorem v_part {t : List Nat} {D d : Nat} (hV : VL t D d) {isMap : Bool} : ∀ (m : Nat) (σ : MSt) (p0 c l0 : Nat) (T0 ts : List Th) (L st : List Nat), t.length - p0 < m → p0 ≤ t.length → MS t D σ (sB t p0) (T0 ++ (srt isMap, c, l0) :: ts) L (st ++ [T0.length]) → st.length + 1 + d = D → match sPts t (sVal t d) isMap m p0 with
    | .inl kq => ∀ f, t.length + 2 - sB t p0 ≤ f → ∃ σ', mm_readsJson_L6 f 1 σ = some σ' ∧ BadS σ σ' kq
    | .inr y => ∃ σ', MS t D σ' (sB t y.2.2) (T0 ++ (srt isMap, c + y.2.1, l0) :: (ts ++ thL L.length y.1)) (L ++ ltL y.1) st ∧ MG σ σ' ∧ ∀ f, t.length + 2 - sB t p0 ≤ f → ∃ f' g', t.length + 2 - sB t y.2.2 ≤ f' ∧ t.length + 2 - sB t y.2.2 ≤ g' ∧ mm_readsJson_L6 f 1 σ = BB f' g' σ' := by
  intro m
  induction m with
  | zero => intro σ p0 c l0 T0 ts L st h; omega
  | succ m ih =>
    intro σ p0 c l0 T0 ts L st hm hp0 h hst
    obtain ⟨σ1, e1, q1, r1, m1⟩ := item_top h
    obtain ⟨⟨hT, hD⟩, hR, hO, hTl, hLl, hp⟩ := id h
    have hle := hT.2.1
    have ht := hT.2.2.1
    have hl : (st ++ [T0.length]).length = st.length + 1 := by rw [List.length_append]; rfl
    have hlen : ∀ x : Th, (T0 ++ x :: ts).length = T0.length + (ts.length + 1) := fun x => by rw [List.length_append]; rfl
    have M1 : MS t D σ1 (sB t p0) (T0 ++ (srt isMap, c + 1, l0) :: ts) L (st ++ [T0.length]) := h.q q1 r1 (by rw [hlen] at hTl ⊢; exact hTl) hLl hp
    rw [hlen] at hTl
    have b0 := sB_le hp0
    have hst2 : (st ++ [T0.length]).length + d = D := by rw [hl]; exact hst
    have hO1 : mf_open σ = nI (st ++ [T0.length]).length := hO.1
    -- behind the key
    have main : ∀ (ks : List Tok) (p1 : Nat) (σ2 : MSt), Bd t p0 ks p1 → sB t p0 ≤ sB t p1 → MS t D σ2 (sB t p1) ((T0 ++ (srt isMap, c + 1, l0) :: ts) ++ thL L.length ks) (L ++ ltL ks) (st ++ [T0.length]) → MG σ σ2 → (∀ f, mm_readsJson_L6 (f + 1) 1 σ = VA f (nI (st ++ [T0.length]).length) σ2) → match (match sVal t d (sB t p1) with
      | .inl k => .inl k
      | .inr vp => if gL t (sB t vp.2) = cls isMap then .inr (ks ++ vp.1, 1, sB t vp.2 + 1) else if gL t (sB t vp.2) = 44 then (match sPts t (sVal t d) isMap m (sB t vp.2 + 1) with
        | .inl k => .inl k
        | .inr y => .inr (ks ++ vp.1 ++ y.1, y.2.1 + 1, y.2.2)) else .inl (1, sB t vp.2) : Rd (List Tok × Nat × Nat)) with
      | .inl kq => ∀ f, t.length + 2 - sB t p0 ≤ f → ∃ σ', mm_readsJson_L6 f 1 σ = some σ' ∧ BadS σ σ' kq
      | .inr y => ∃ σ', MS t D σ' (sB t y.2.2) (T0 ++ (srt isMap, c + y.2.1, l0) :: (ts ++ thL L.length y.1)) (L ++ ltL y.1) st ∧ MG σ σ' ∧ ∀ f, t.length + 2 - sB t p0 ≤ f → ∃ f' g', t.length + 2 - sB t y.2.2 ≤ f' ∧ t.length + 2 - sB t y.2.2 ≤ g' ∧ mm_readsJson_L6 f 1 σ = BB f' g' σ' := by
      intro ks p1 σ2 hK hmono M2 G2 hrun
      have b1 := sB_le hK.2.1
      have hv := hV σ2 (sB t p1) _ _ _ M2 hst2
      cases hvv : sVal t d (sB t p1) with
      | inl kq =>
        rw [hvv] at hv
        intro f hf
        obtain ⟨f, rfl⟩ : ∃ g, f = g + 1 := ⟨f - 1, by omega⟩
        obtain ⟨σ', ex, g⟩ := hv f (by omega)
        exact ⟨σ', by rw [hrun, ex], g.fr G2.1⟩
      | inr vp =>
        obtain ⟨vs, p2⟩ := vp
        have gb := sVal_bd ht hle d _ b1.2 vs p2 hvv
        have gq := gb.2.2.1
        have b2 := sB_le gq
        have l2 := gb.1
        rw [hvv] at hv
        obtain ⟨σ3, M3, G3, run3'⟩ := hv
        have run3 : ∀ f, t.length + 1 - sB t p1 ≤ f → ∃ f' g', t.length + 2 - sB t p2 ≤ f' ∧ t.length + 2 - sB t p2 ≤ g' ∧ VA f (nI (st ++ [T0.length]).length) σ2 = BB f' g' σ3 := run3'
        have eT : (T0 ++ (srt isMap, c + 1, l0) :: ts) ++ thL L.length ks ++ thL (L ++ ltL ks).length vs = T0 ++ (srt isMap, c + 1, l0) :: (ts ++ thL L.length (ks ++ vs)) := by
          rw [thL_app, List.length_append]
          simp
        have eL : L ++ ltL ks ++ ltL vs = L ++ ltL (ks ++ vs) := by rw [ltL_app, List.append_assoc]
        have M3' : MS t D σ3 (sB t p2) (T0 ++ (srt isMap, c + 1, l0) :: (ts ++ thL L.length (ks ++ vs))) (L ++ ltL (ks ++ vs)) (st ++ [T0.length]) := by
          rw [← eT, ← eL]
          exact M3
        obtain ⟨⟨T3, D3⟩, R3, O3, Tl3, Ll3, P3⟩ := id M3'
        have hlen3 : (T0 ++ (srt isMap, c + 1, l0) :: (ts ++ thL L.length (ks ++ vs))).length = T0.length + ((ts ++ thL L.length (ks ++ vs)).length + 1) := by rw [List.length_append]; rfl
        rw [hlen3] at Tl3
        have s3 := (R3.2.2.1.2 T0.length (by rw [hlen3]; omega)).1
        rw [gT_mid] at s3
        have stp : ∀ f g, BB f (g + 1) σ3 = _ := fun f g => go_step (f := f) (g := g) T3 R3.2.1 P3 R3.1 O3 (by omega) s3
        show match (if gL t (sB t p2) = cls isMap then .inr (ks ++ vs, 1, sB t p2 + 1) else if gL t (sB t p2) = 44 then (match sPts t (sVal t d) isMap m (sB t p2 + 1) with
          | .inl k => .inl k
          | .inr y => .inr (ks ++ vs ++ y.1, y.2.1 + 1, y.2.2)) else .inl (1, sB t p2) : Rd (List Tok × Nat × Nat)) with
          | .inl kq => _
          | .inr y => _
        by_cases c1 : gL t (sB t p2) = cls isMap
        · have hc1 := cls_in ht hle c1
          have b3 := sB_le (t := t) (p := sB t p2 + 1) (by omega)
          rw [if_pos c1]
          have MO4 : MO (ms_open σ3 (nI st.length)) st := by
            refine ⟨by rw [mG_open_open], by have := O3.2.1; omega, fun i hi => ?_⟩
            have := O3.2.2 i (by omega)
            rw [mG_openThing_open, this, getD_app hi]
          have M4 : MS t D (ms_open σ3 (nI st.length)) (sB t p2) (T0 ++ (srt isMap, c + 1, l0) :: (ts ++ thL L.length (ks ++ vs))) (L ++ ltL (ks ++ vs)) st := by
            refine ⟨?_, ?_, MO4, by rw [hlen3]; exact Tl3, Ll3, P3⟩
            · unfold TpM
              simp only [mG_thrown_open, mG_tape_open, mG_taped_open, mG_depth_open, mG_room_open, mG_written_open, mG_writtenMany_open, mG_errorPlace_open, mG_sorts_open, mG_numbers_open, mG_places_open, mG_things_open, mG_letters_open, mG_lettersMany_open, mG_openThing_open, mG_openLeft_open, mG_open_open, mG_at_open, mG_fault_open, mG_fresh_open, mG_freshMany_open, mG_figures_open]
              exact ⟨T3, D3⟩
            · unfold MR MTh MLt
              simp only [mG_thrown_open, mG_tape_open, mG_taped_open, mG_depth_open, mG_room_open, mG_written_open, mG_writtenMany_open, mG_errorPlace_open, mG_sorts_open, mG_numbers_open, mG_places_open, mG_things_open, mG_letters_open, mG_lettersMany_open, mG_openThing_open, mG_openLeft_open, mG_open_open, mG_at_open, mG_fault_open, mG_fresh_open, mG_freshMany_open, mG_figures_open]
              exact R3
          refine ⟨_, M4.at (p' := sB t (sB t p2 + 1)) (by omega) b3.2, (G2.trans G3).trans ⟨?_, ?_⟩, fun f hf => ?_⟩
          · unfold MFr
            simp only [mG_thrown_open, mG_tape_open, mG_taped_open, mG_depth_open, mG_room_open, mG_written_open, mG_writtenMany_open, mG_errorPlace_open, mG_sorts_open, mG_numbers_open, mG_places_open, mG_things_open, mG_letters_open, mG_lettersMany_open, mG_openThing_open, mG_openLeft_open, mG_open_open, mG_at_open, mG_fault_open, mG_fresh_open, mG_freshMany_open, mG_figures_open, mG_thrown_at, mG_tape_at, mG_taped_at, mG_depth_at, mG_room_at, mG_written_at, mG_writtenMany_at, mG_errorPlace_at, mG_sorts_at, mG_numbers_at, mG_places_at, mG_things_at, mG_letters_at, mG_lettersMany_at, mG_openThing_at, mG_openLeft_at, mG_open_at, mG_at_at, mG_fault_at, mG_fresh_at, mG_freshMany_at, mG_figures_at, and_self]
          · simp only [mG_thrown_open, mG_tape_open, mG_taped_open, mG_depth_open, mG_room_open, mG_written_open, mG_writtenMany_open, mG_errorPlace_open, mG_sorts_open, mG_numbers_open, mG_places_open, mG_things_open, mG_letters_open, mG_lettersMany_open, mG_openThing_open, mG_openLeft_open, mG_open_open, mG_at_open, mG_fault_open, mG_fresh_open, mG_freshMany_open, mG_figures_open, mG_thrown_at, mG_tape_at, mG_taped_at, mG_depth_at, mG_room_at, mG_written_at, mG_writtenMany_at, mG_errorPlace_at, mG_sorts_at, mG_numbers_at, mG_places_at, mG_things_at, mG_letters_at, mG_lettersMany_at, mG_openThing_at, mG_openLeft_at, mG_open_at, mG_at_at, mG_fault_at, mG_fresh_at, mG_freshMany_at, mG_figures_at]
          · obtain ⟨f, rfl⟩ : ∃ g, f = g + 1 := ⟨f - 1, by omega⟩
            obtain ⟨f', g', z1, z2, z3⟩ := run3 f (by omega)
            obtain ⟨g', rfl⟩ : ∃ g, g' = g + 1 := ⟨g' - 1, by omega⟩
            refine ⟨f', g', by show t.length + 2 - sB t (sB t p2 + 1) ≤ f'; omega, by show t.length + 2 - sB t (sB t p2 + 1) ≤ g'; omega, ?_⟩
            rw [hrun, z3, stp, if_pos c1]
        rw [if_neg c1]
        by_cases c2 : gL t (sB t p2) = 44
        · have hc2 := gL_lit (v := 44) (by decide) rfl c2
          have b3 := sB_le (t := t) (p := sB t p2 + 1) (by omega)
          rw [if_pos c2]
          have M4 := M3'.at (p' := sB t (sB t p2 + 1)) (by omega) b3.2
          have r := ih _ (sB t p2 + 1) (c + 1) l0 T0 _ _ st (by omega) (by omega) M4 hst
          have GG := (G2.trans G3).trans (MLq.at σ3 (nI (sB t (sB t p2 + 1)))).1.g
          cases hr : sPts t (sVal t d) isMap m (sB t p2 + 1) with
          | inl kq =>
            rw [hr] at r
            intro f hf
            obtain ⟨f, rfl⟩ : ∃ g, f = g + 1 := ⟨f - 1, by omega⟩
            obtain ⟨f', g', z1, z2, z3⟩ := run3 f (by omega)
            obtain ⟨g', rfl⟩ : ∃ g, g' = g + 1 := ⟨g' - 1, by omega⟩
            obtain ⟨σ', ex, g⟩ := r f' (by omega)
            refine ⟨σ', ?_, g.fr GG.1⟩
            rw [hrun, z3, stp, if_neg c1, if_pos c2, ex]
          | inr y =>
            obtain ⟨ys, n1, q⟩ := y
            rw [hr] at r
            obtain ⟨σ4, M5, G5, run5⟩ := r
            refine ⟨σ4, ?_, GG.trans G5, fun f hf => ?_⟩
            · have e1 : c + 1 + n1 = c + (n1 + 1) := by omega
              have e2 : ts ++ thL L.length (ks ++ vs) ++ thL (L ++ ltL (ks ++ vs)).length ys = ts ++ thL L.length (ks ++ vs ++ ys) := by rw [thL_app (ks ++ vs) ys, List.length_append, List.append_assoc]
              have e3 : L ++ ltL (ks ++ vs) ++ ltL ys = L ++ ltL (ks ++ vs ++ ys) := by rw [ltL_app (ks ++ vs) ys, List.append_assoc]
              show MS t D σ4 (sB t q) (T0 ++ (srt isMap, c + (n1 + 1), l0) :: (ts ++ thL L.length (ks ++ vs ++ ys))) (L ++ ltL (ks ++ vs ++ ys)) st
              rw [← e1, ← e2, ← e3]
              exact M5
            · obtain ⟨f, rfl⟩ : ∃ g, f = g + 1 := ⟨f - 1, by omega⟩
              obtain ⟨f', g', z1, z2, z3⟩ := run3 f (by omega)
              obtain ⟨g', rfl⟩ : ∃ g, g' = g + 1 := ⟨g' - 1, by omega⟩
              obtain ⟨f2, g2, w1, w2, w3⟩ := run5 f' (by omega)
              refine ⟨f2, g2, w1, w2, ?_⟩
              rw [hrun, z3, stp, if_neg c1, if_pos c2, w3]
        · rw [if_neg c2]
          intro f hf
          obtain ⟨f, rfl⟩ : ∃ g, f = g + 1 := ⟨f - 1, by omega⟩
          obtain ⟨f', g', z1, z2, z3⟩ := run3 f (by omega)
          obtain ⟨g', rfl⟩ : ∃ g, g' = g + 1 := ⟨g' - 1, by omega⟩
          obtain ⟨f', rfl⟩ : ∃ g, f' = g + 1 := ⟨f' - 1, by omega⟩
          have hB := BadS_mF σ3 1 (sB t p2)
          refine ⟨mF σ3 1 (nI (sB t p2)), ?_, hB.fr (G2.trans G3).1⟩
          rw [hrun, z3, stp, if_neg c1, if_neg c2]
          exact L6_bad f' (by
            have := hB.2.1
            rw [show mf_fault (mF σ3 1 (nI (sB t p2))) = nI 1 from this]
            decide)
    unfold sPts
    cases isMap with
    | false =>
      refine main [] p0 σ1 (Bd.nil hp0) (Nat.le_refl _) ?_ q1.g (fun f => ?_)
      · show MS t D σ1 (sB t p0) (_ ++ []) (L ++ []) _
        rw [List.append_nil, List.append_nil]
        exact M1
      · rw [L6_item, e1, hO1]
        unfold mm_item_b27 mm_item_b41
        rw [bd_of m1]
        simp only []
        rw [if_neg (by decide), bd_eta2]
        rfl
    | true =>
      have hk := m_key M1.1.1 M1.2.1 hp0 M1.2.2.2.1 M1.2.2.2.2.1
      have e27 : ∀ x, mm_key σ1 = some x → mm_item σ = if x.1 = true then mm_value x.2 else some (false, x.2) := by
        intro x hx
        rw [e1]
        unfold mm_item_b27 mm_item_b41
        rw [bd_of m1]
        simp only []
        rw [if_pos trivial, bd_of hx, bd_eta2]
      cases hkk : sKey t true p0 with
      | inl kq =>
        rw [hkk] at hk
        obtain ⟨σ', ex, g⟩ := hk
        intro f hf
        obtain ⟨f, rfl⟩ : ∃ g, f = g + 1 := ⟨f - 1, by omega⟩
        refine ⟨σ', ?_, BadS.fr q1.1 g⟩
        rw [L6_item, e27 _ ex, if_neg (show ¬ false = true by decide), bd_of rfl]
        unfold aft
        rw [if_neg (show ¬ false = true by decide)]
      | inr kp =>
        obtain ⟨ks, p1⟩ := kp
        have g1 := sKey_bd ht hle hp0 hkk
        have b1 := sB_le g1.2.1
        have g3 := g1.2.2.1
        rw [hkk] at hk
        obtain ⟨hmono, σ2, ex, q2, r2⟩ := hk
        have hmono2 : sB t p0 ≤ p1 := hmono
        have hks : ks.length + (ltL ks).length ≤ sB t p1 - sB t p0 := by
          have := sKey_len ht hle hp0 hkk
          omega
        refine main ks p1 σ2 g1 (by omega) (M1.q q2 r2 ?_ ?_ b1.2) (q1.g.trans q2.g) (fun f => ?_)
        · rw [List.length_append, hlen, thL_len]
          omega
        · rw [List.length_append]
          omega
        · rw [L6_item, e27 _ ex, if_pos rfl, hO1]
          rfl
theorem v_open {t : List Nat} {D d : Nat} {isMap : Bool} {σ : MSt} {p : Nat} {T : List Th} {L st : List Nat} (h : MS t D σ p T L st) (hst : st.length + (d + 1) = D) (hD40 : D ≤ 40) (hp : p < t.length) : ∃ σ1, mm_opens (nI (srt isMap)) σ = some (true, σ1) ∧ MS t D σ1 (p + 1) (T ++ [(srt isMap, 0, L.length)]) L (st ++ [T.length]) ∧ MG σ σ1 := by
  obtain ⟨⟨hT, hD⟩, hR, hO, hTl, hLl, hp'⟩ := id h
  have hle := hT.2.1
  have ht := hT.2.2.1
  obtain ⟨σa, ea⟩ : ∃ σa, σa = mT σ (nI (srt isMap)) 0 := ⟨_, rfl⟩
  have q : MQu σ σa := by rw [ea]; exact MQu_mT σ (nI (srt isMap)) 0
  have hl : (st ++ [T.length]).length = st.length + 1 := by rw [List.length_append]; rfl
  have H : MTh σa (T ++ [(srt isMap, 0, L.length)]) := by rw [ea]; exact MTh_mT hR.2.2.1 hR.2.2.2 (by omega) (srt isMap) 0
  have K : MLt σa L := by rw [ea]; exact MLt_mT hR.2.2.2 (nI (srt isMap)) 0
  have T1 := hT.fr q.1
  have D1 : mf_depth σa = nI D := by rw [q.1.1.2.2]; exact hD
  have F1 : mf_fault σa = 0 := by rw [ea, fault_mT]; exact hR.2.1
  have A1 : mf_at σa = nI p := by rw [ea, at_mT]; exact hR.1
  have O1 : mf_open σa = nI st.length := by rw [q.2.1.1]; exact hO.1
  have hop : mm_opens (nI (srt isMap)) σ = some (true, ms_at (ms_open (ms_openThing σa (upd (mf_openThing σ) st.length (nI T.length))) (nI (st.length + 1))) (nI (p + 1))) := by
    unfold mm_opens
    rw [hO.1, hD, if_neg (fun z => by have := (nI_eq (by omega) (by omega)).mp z; omega), bd_of (thing_eq _ _ (by rw [hR.2.2.1.1]; exact vp_in_nI (by omega) (by decide))), ck_in (vp_in_nI (by omega) (by decide)), hR.2.2.1.1, ← ea]
    simp only []
    rw [q.2.1.2.1, O1, A1, nI_1, nI_1, nI_1, nI_clamp (by omega), show nI (T.length + 1) - 1 = nI T.length from pk_sub (b := 1) (by omega)]
  have hQ : mf_openThing σa = mf_openThing σ := q.2.1.2.1
  have hG := q.g
  clear ea
  refine ⟨_, hop, ?_, hG.trans ⟨?_, ?_⟩⟩
  · refine ⟨⟨?_, ?_⟩, ⟨?_, ?_, ?_, ?_⟩, ⟨?_, ?_, ?_⟩, ?_, ?_, ?_⟩
    · unfold TpM; simp only [mG_thrown_at, mG_tape_at, mG_taped_at, mG_depth_at, mG_room_at, mG_written_at, mG_writtenMany_at, mG_errorPlace_at, mG_sorts_at, mG_numbers_at, mG_places_at, mG_things_at, mG_letters_at, mG_lettersMany_at, mG_openThing_at, mG_openLeft_at, mG_open_at, mG_at_at, mG_fault_at, mG_fresh_at, mG_freshMany_at, mG_figures_at, mG_thrown_open, mG_tape_open, mG_taped_open, mG_depth_open, mG_room_open, mG_written_open, mG_writtenMany_open, mG_errorPlace_open, mG_sorts_open, mG_numbers_open, mG_places_open, mG_things_open, mG_letters_open, mG_lettersMany_open, mG_openThing_open, mG_openLeft_open, mG_open_open, mG_at_open, mG_fault_open, mG_fresh_open, mG_freshMany_open, mG_figures_open, mG_thrown_openThing, mG_tape_openThing, mG_taped_openThing, mG_depth_openThing, mG_room_openThing, mG_written_openThing, mG_writtenMany_openThing, mG_errorPlace_openThing, mG_sorts_openThing, mG_numbers_openThing, mG_places_openThing, mG_things_openThing, mG_letters_openThing, mG_lettersMany_openThing, mG_openThing_openThing, mG_openLeft_openThing, mG_open_openThing, mG_at_openThing, mG_fault_openThing, mG_fresh_openThing, mG_freshMany_openThing, mG_figures_openThing]; exact T1
    · simp only [mG_thrown_at, mG_tape_at, mG_taped_at, mG_depth_at, mG_room_at, mG_written_at, mG_writtenMany_at, mG_errorPlace_at, mG_sorts_at, mG_numbers_at, mG_places_at, mG_things_at, mG_letters_at, mG_lettersMany_at, mG_openThing_at, mG_openLeft_at, mG_open_at, mG_at_at, mG_fault_at, mG_fresh_at, mG_freshMany_at, mG_figures_at, mG_thrown_open, mG_tape_open, mG_taped_open, mG_depth_open, mG_room_open, mG_written_open, mG_writtenMany_open, mG_errorPlace_open, mG_sorts_open, mG_numbers_open, mG_places_open, mG_things_open, mG_letters_open, mG_lettersMany_open, mG_openThing_open, mG_openLeft_open, mG_open_open, mG_at_open, mG_fault_open, mG_fresh_open, mG_freshMany_open, mG_figures_open, mG_thrown_openThing, mG_tape_openThing, mG_taped_openThing, mG_depth_openThing, mG_room_openThing, mG_written_openThing, mG_writtenMany_openThing, mG_errorPlace_openThing, mG_sorts_openThing, mG_numbers_openThing, mG_places_openThing, mG_things_openThing, mG_letters_openThing, mG_lettersMany_openThing, mG_openThing_openThing, mG_openLeft_openThing, mG_open_openThing, mG_at_openThing, mG_fault_openThing, mG_fresh_openThing, mG_freshMany_openThing, mG_figures_openThing]; exact D1
    · rw [mG_at_at]
    · simp only [mG_thrown_at, mG_tape_at, mG_taped_at, mG_depth_at, mG_room_at, mG_written_at, mG_writtenMany_at, mG_errorPlace_at, mG_sorts_at, mG_numbers_at, mG_places_at, mG_things_at, mG_letters_at, mG_lettersMany_at, mG_openThing_at, mG_openLeft_at, mG_open_at, mG_at_at, mG_fault_at, mG_fresh_at, mG_freshMany_at, mG_figures_at, mG_thrown_open, mG_tape_open, mG_taped_open, mG_depth_open, mG_room_open, mG_written_open, mG_writtenMany_open, mG_errorPlace_open, mG_sorts_open, mG_numbers_open, mG_places_open, mG_things_open, mG_letters_open, mG_lettersMany_open, mG_openThing_open, mG_openLeft_open, mG_open_open, mG_at_open, mG_fault_open, mG_fresh_open, mG_freshMany_open, mG_figures_open, mG_thrown_openThing, mG_tape_openThing, mG_taped_openThing, mG_depth_openThing, mG_room_openThing, mG_written_openThing, mG_writtenMany_openThing, mG_errorPlace_openThing, mG_sorts_openThing, mG_numbers_openThing, mG_places_openThing, mG_things_openThing, mG_letters_openThing, mG_lettersMany_openThing, mG_openThing_openThing, mG_openLeft_openThing, mG_open_openThing, mG_at_openThing, mG_fault_openThing, mG_fresh_openThing, mG_freshMany_openThing, mG_figures_openThing]; exact F1
    · unfold MTh; simp only [mG_thrown_at, mG_tape_at, mG_taped_at, mG_depth_at, mG_room_at, mG_written_at, mG_writtenMany_at, mG_errorPlace_at, mG_sorts_at, mG_numbers_at, mG_places_at, mG_things_at, mG_letters_at, mG_lettersMany_at, mG_openThing_at, mG_openLeft_at, mG_open_at, mG_at_at, mG_fault_at, mG_fresh_at, mG_freshMany_at, mG_figures_at, mG_thrown_open, mG_tape_open, mG_taped_open, mG_depth_open, mG_room_open, mG_written_open, mG_writtenMany_open, mG_errorPlace_open, mG_sorts_open, mG_numbers_open, mG_places_open, mG_things_open, mG_letters_open, mG_lettersMany_open, mG_openThing_open, mG_openLeft_open, mG_open_open, mG_at_open, mG_fault_open, mG_fresh_open, mG_freshMany_open, mG_figures_open, mG_thrown_openThing, mG_tape_openThing, mG_taped_openThing, mG_depth_openThing, mG_room_openThing, mG_written_openThing, mG_writtenMany_openThing, mG_errorPlace_openThing, mG_sorts_openThing, mG_numbers_openThing, mG_places_openThing, mG_things_openThing, mG_letters_openThing, mG_lettersMany_openThing, mG_openThing_openThing, mG_openLeft_openThing, mG_open_openThing, mG_at_openThing, mG_fault_openThing, mG_fresh_openThing, mG_freshMany_openThing, mG_figures_openThing]; exact H
    · unfold MLt; simp only [mG_thrown_at, mG_tape_at, mG_taped_at, mG_depth_at, mG_room_at, mG_written_at, mG_writtenMany_at, mG_errorPlace_at, mG_sorts_at, mG_numbers_at, mG_places_at, mG_things_at, mG_letters_at, mG_lettersMany_at, mG_openThing_at, mG_openLeft_at, mG_open_at, mG_at_at, mG_fault_at, mG_fresh_at, mG_freshMany_at, mG_figures_at, mG_thrown_open, mG_tape_open, mG_taped_open, mG_depth_open, mG_room_open, mG_written_open, mG_writtenMany_open, mG_errorPlace_open, mG_sorts_open, mG_numbers_open, mG_places_open, mG_things_open, mG_letters_open, mG_lettersMany_open, mG_openThing_open, mG_openLeft_open, mG_open_open, mG_at_open, mG_fault_open, mG_fresh_open, mG_freshMany_open, mG_figures_open, mG_thrown_openThing, mG_tape_openThing, mG_taped_openThing, mG_depth_openThing, mG_room_openThing, mG_written_openThing, mG_writtenMany_openThing, mG_errorPlace_openThing, mG_sorts_openThing, mG_numbers_openThing, mG_places_openThing, mG_things_openThing, mG_letters_openThing, mG_lettersMany_openThing, mG_openThing_openThing, mG_openLeft_openThing, mG_open_openThing, mG_at_openThing, mG_fault_openThing, mG_fresh_openThing, mG_freshMany_openThing, mG_figures_openThing]; exact K
    · simp only [mG_thrown_at, mG_tape_at, mG_taped_at, mG_depth_at, mG_room_at, mG_written_at, mG_writtenMany_at, mG_errorPlace_at, mG_sorts_at, mG_numbers_at, mG_places_at, mG_things_at, mG_letters_at, mG_lettersMany_at, mG_openThing_at, mG_openLeft_at, mG_open_at, mG_at_at, mG_fault_at, mG_fresh_at, mG_freshMany_at, mG_figures_at, mG_thrown_open, mG_tape_open, mG_taped_open, mG_depth_open, mG_room_open, mG_written_open, mG_writtenMany_open, mG_errorPlace_open, mG_sorts_open, mG_numbers_open, mG_places_open, mG_things_open, mG_letters_open, mG_lettersMany_open, mG_openThing_open, mG_openLeft_open, mG_open_open, mG_at_open, mG_fault_open, mG_fresh_open, mG_freshMany_open, mG_figures_open, mG_thrown_openThing, mG_tape_openThing, mG_taped_openThing, mG_depth_openThing, mG_room_openThing, mG_written_openThing, mG_writtenMany_openThing, mG_errorPlace_openThing, mG_sorts_openThing, mG_numbers_openThing, mG_places_openThing, mG_things_openThing, mG_letters_openThing, mG_lettersMany_openThing, mG_openThing_openThing, mG_openLeft_openThing, mG_open_openThing, mG_at_openThing, mG_fault_openThing, mG_fresh_openThing, mG_freshMany_openThing, mG_figures_openThing]; rw [hl]
    · rw [hl]; omega
    · intro i hi
      rw [hl] at hi
      simp only [mG_thrown_at, mG_tape_at, mG_taped_at, mG_depth_at, mG_room_at, mG_written_at, mG_writtenMany_at, mG_errorPlace_at, mG_sorts_at, mG_numbers_at, mG_places_at, mG_things_at, mG_letters_at, mG_lettersMany_at, mG_openThing_at, mG_openLeft_at, mG_open_at, mG_at_at, mG_fault_at, mG_fresh_at, mG_freshMany_at, mG_figures_at, mG_thrown_open, mG_tape_open, mG_taped_open, mG_depth_open, mG_room_open, mG_written_open, mG_writtenMany_open, mG_errorPlace_open, mG_sorts_open, mG_numbers_open, mG_places_open, mG_things_open, mG_letters_open, mG_lettersMany_open, mG_openThing_open, mG_openLeft_open, mG_open_open, mG_at_open, mG_fault_open, mG_fresh_open, mG_freshMany_open, mG_figures_open, mG_thrown_openThing, mG_tape_openThing, mG_taped_openThing, mG_depth_openThing, mG_room_openThing, mG_written_openThing, mG_writtenMany_openThing, mG_errorPlace_openThing, mG_sorts_openThing, mG_numbers_openThing, mG_places_openThing, mG_things_openThing, mG_letters_openThing, mG_lettersMany_openThing, mG_openThing_openThing, mG_openLeft_openThing, mG_open_openThing, mG_at_openThing, mG_fault_openThing, mG_fresh_openThing, mG_freshMany_openThing, mG_figures_openThing]
      rw [getD_snoc hi]
      by_cases e : i = st.length
      · rw [if_pos e, e, pk_us]
      · rw [if_neg e, pk_un e, hO.2.2 i (by omega)]
    · rw [List.length_append, List.length_singleton]; omega
    · omega
    · omega
  · unfold MFr
    simp only [mG_thrown_at, mG_tape_at, mG_taped_at, mG_depth_at, mG_room_at, mG_written_at, mG_writtenMany_at, mG_errorPlace_at, mG_sorts_at, mG_numbers_at, mG_places_at, mG_things_at, mG_letters_at, mG_lettersMany_at, mG_openThing_at, mG_openLeft_at, mG_open_at, mG_at_at, mG_fault_at, mG_fresh_at, mG_freshMany_at, mG_figures_at, mG_thrown_open, mG_tape_open, mG_taped_open, mG_depth_open, mG_room_open, mG_written_open, mG_writtenMany_open, mG_errorPlace_open, mG_sorts_open, mG_numbers_open, mG_places_open, mG_things_open, mG_letters_open, mG_lettersMany_open, mG_openThing_open, mG_openLeft_open, mG_open_open, mG_at_open, mG_fault_open, mG_fresh_open, mG_freshMany_open, mG_figures_open, mG_thrown_openThing, mG_tape_openThing, mG_taped_openThing, mG_depth_openThing, mG_room_openThing, mG_written_openThing, mG_writtenMany_openThing, mG_errorPlace_openThing, mG_sorts_openThing, mG_numbers_openThing, mG_places_openThing, mG_things_openThing, mG_letters_openThing, mG_lettersMany_openThing, mG_openThing_openThing, mG_openLeft_openThing, mG_open_openThing, mG_at_openThing, mG_fault_openThing, mG_fresh_openThing, mG_freshMany_openThing, mG_figures_openThing, and_self]
  · simp only [mG_thrown_at, mG_tape_at, mG_taped_at, mG_depth_at, mG_room_at, mG_written_at, mG_writtenMany_at, mG_errorPlace_at, mG_sorts_at, mG_numbers_at, mG_places_at, mG_things_at, mG_letters_at, mG_lettersMany_at, mG_openThing_at, mG_openLeft_at, mG_open_at, mG_at_at, mG_fault_at, mG_fresh_at, mG_freshMany_at, mG_figures_at, mG_thrown_open, mG_tape_open, mG_taped_open, mG_depth_open, mG_room_open, mG_written_open, mG_writtenMany_open, mG_errorPlace_open, mG_sorts_open, mG_numbers_open, mG_places_open, mG_things_open, mG_letters_open, mG_lettersMany_open, mG_openThing_open, mG_openLeft_open, mG_open_open, mG_at_open, mG_fault_open, mG_fresh_open, mG_freshMany_open, mG_figures_open, mG_thrown_openThing, mG_tape_openThing, mG_taped_openThing, mG_depth_openThing, mG_room_openThing, mG_written_openThing, mG_writtenMany_openThing, mG_errorPlace_openThing, mG_sorts_openThing, mG_numbers_openThing, mG_places_openThing, mG_things_openThing, mG_letters_openThing, mG_lettersMany_openThing, mG_openThing_openThing, mG_openLeft_openThing, mG_open_openThing, mG_at_openThing, mG_fault_openThing, mG_fresh_openThing, mG_freshMany_openThing, mG_figures_openThing]
