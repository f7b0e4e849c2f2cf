/-! PURE JJ: the reference's loop over CBOR, step by step -/
def CS (t : List Nat) (D : Nat) (σ : MSt) (p : Nat) (T : List Th) (L st lf : List Nat) : Prop := MS t D σ p T L st ∧ lf.length = st.length ∧ ∀ i, i < lf.length → mf_openLeft σ i = lN (lf.getD i 0)
/-- one less is left of what is open -/
def DL (lf lf' : List Nat) : Prop := (lf = [] ∧ lf' = []) ∨ ∃ l0 n, lf = l0 ++ [n + 1] ∧ lf' = l0 ++ [n]
def CB (f g : Nat) (σ : MSt) : Option MSt := mm_readsCbor_L185 (mm_readsCbor_L2 f) g σ
theorem MS.left {t : List Nat} {D : Nat} {σ : MSt} {p : Nat} {T : List Th} {L st : List Nat} (h : MS t D σ p T L st) (x : Nat → Int64) : MS t D (ms_openLeft σ x) p T L st := by
  unfold MS TpM MR MTh MLt MO
  simp only [mG_thrown_openLeft, mG_tape_openLeft, mG_taped_openLeft, mG_depth_openLeft, mG_room_openLeft, mG_written_openLeft, mG_writtenMany_openLeft, mG_errorPlace_openLeft, mG_sorts_openLeft, mG_numbers_openLeft, mG_places_openLeft, mG_things_openLeft, mG_letters_openLeft, mG_lettersMany_openLeft, mG_openThing_openLeft, mG_openLeft_openLeft, mG_open_openLeft, mG_at_openLeft, mG_fault_openLeft, mG_fresh_openLeft, mG_freshMany_openLeft, mG_figures_openLeft]
  exact h
theorem MG.left (σ : MSt) (x : Nat → Int64) : MG σ (ms_openLeft σ x) := by
  unfold MG MFr
  simp only [mG_thrown_openLeft, mG_tape_openLeft, mG_taped_openLeft, mG_depth_openLeft, mG_room_openLeft, mG_written_openLeft, mG_writtenMany_openLeft, mG_errorPlace_openLeft, mG_sorts_openLeft, mG_numbers_openLeft, mG_places_openLeft, mG_things_openLeft, mG_letters_openLeft, mG_lettersMany_openLeft, mG_openThing_openLeft, mG_openLeft_openLeft, mG_open_openLeft, mG_at_openLeft, mG_fault_openLeft, mG_fresh_openLeft, mG_freshMany_openLeft, mG_figures_openLeft, and_self]
section LPC
variable {t : List Nat} {D : Nat} {σ : MSt} {p : Nat} {T : List Th} {L st lf lf' : List Nat}
theorem CS.top {b n : Nat} (h : CS t D σ p T L (st ++ [b]) (lf ++ [n])) : mf_open σ = nI (st.length + 1) ∧ st.length + 1 ≤ 40 ∧ mf_openThing σ st.length = nI b ∧ mf_openLeft σ st.length = lN n ∧ lf.length = st.length := by
  obtain ⟨⟨h1, h2, h3, h4⟩, h5, h6⟩ := h
  obtain ⟨o1, o2, o3⟩ := h3
  rw [len_snoc] at o1 o2 o3 h5
  rw [len_snoc] at h5 h6
  have e : lf.length = st.length := by omega
  refine ⟨o1, o2, ?_, ?_, e⟩
  · rw [o3 st.length (by omega), getD_snocN]
  · rw [← e, h6 lf.length (by omega), getD_snocN]
theorem cb_pop {b f g : Nat} (h : CS t D σ p T L (st ++ [b]) (lf ++ [0])) : CB f (g + 1) σ = CB f g (ms_open σ (nI st.length)) ∧ CS t D (ms_open σ (nI st.length)) p T L st lf ∧ MG σ (ms_open σ (nI st.length)) := by
  obtain ⟨t1, t2, t3, t4, t5⟩ := h.top
  obtain ⟨⟨h1, h2, h3, h4⟩, h5, h6⟩ := id h
  refine ⟨?_, ⟨⟨?_, ?_, ⟨?_, by omega, fun i hi => ?_⟩, h4⟩, t5, fun i hi => ?_⟩, ?_, ?_⟩
  · show mm_readsCbor_b185 _ (mm_readsCbor_L185 _ g) σ = _
    unfold mm_readsCbor_b185
    rw [t1, if_neg (nI_np (by omega) (by omega)), show nI (st.length + 1) - 1 = nI st.length from pk_sub (b := 1) (by omega), ck_in (vp_in_nI (by omega) (by decide)), nI_clamp (by omega), t4, if_pos (show lN 0 = (0 : Int64) from rfl)]
    rfl
  · unfold TpM
    simp only [mG_thrown_open, mG_tape_open, mG_taped_open, mG_depth_open, mG_room_open, mG_written_open, mG_writtenMany_open, mG_errorPlace_open, mG_sorts_open, mG_numbers_open, mG_places_open, mG_things_open, mG_letters_open, mG_lettersMany_open, mG_openThing_open, mG_openLeft_open, mG_open_open, mG_at_open, mG_fault_open, mG_fresh_open, mG_freshMany_open, mG_figures_open]
    exact h1
  · unfold MR MTh MLt
    simp only [mG_thrown_open, mG_tape_open, mG_taped_open, mG_depth_open, mG_room_open, mG_written_open, mG_writtenMany_open, mG_errorPlace_open, mG_sorts_open, mG_numbers_open, mG_places_open, mG_things_open, mG_letters_open, mG_lettersMany_open, mG_openThing_open, mG_openLeft_open, mG_open_open, mG_at_open, mG_fault_open, mG_fresh_open, mG_freshMany_open, mG_figures_open]
    exact h2
  · rw [mG_open_open]
  · rw [mG_openThing_open, h3.2.2 i (by rw [len_snoc]; omega), getD_app hi]
  · rw [mG_openLeft_open, h6 i (by rw [len_snoc]; omega), getD_app hi]
  · unfold MFr
    simp only [mG_thrown_open, mG_tape_open, mG_taped_open, mG_depth_open, mG_room_open, mG_written_open, mG_writtenMany_open, mG_errorPlace_open, mG_sorts_open, mG_numbers_open, mG_places_open, mG_things_open, mG_letters_open, mG_lettersMany_open, mG_openThing_open, mG_openLeft_open, mG_open_open, mG_at_open, mG_fault_open, mG_fresh_open, mG_freshMany_open, mG_figures_open, and_self]
  · simp only [mG_thrown_open, mG_tape_open, mG_taped_open, mG_depth_open, mG_room_open, mG_written_open, mG_writtenMany_open, mG_errorPlace_open, mG_sorts_open, mG_numbers_open, mG_places_open, mG_things_open, mG_letters_open, mG_lettersMany_open, mG_openThing_open, mG_openLeft_open, mG_open_open, mG_at_open, mG_fault_open, mG_fresh_open, mG_freshMany_open, mG_figures_open]
theorem cb_go {b n f g : Nat} (h : CS t D σ p T L (st ++ [b]) (lf ++ [n])) (hn : 0 < n) (hn2 : n < 2 ^ 31) : CB f (g + 1) σ = mm_readsCbor_L2 f 1 σ := by
  obtain ⟨t1, t2, t3, t4, t5⟩ := h.top
  show mm_readsCbor_b185 _ (mm_readsCbor_L185 _ g) σ = _
  unfold mm_readsCbor_b185 mm_readsCbor_b221
  rw [t1, if_neg (nI_np (by omega) (by omega)), show nI (st.length + 1) - 1 = nI st.length from pk_sub (b := 1) (by omega), ck_in (vp_in_nI (by omega) (by decide)), nI_clamp (by omega), t4, if_neg (lN_ne0 hn (by omega)), if_neg (nI_np (by omega) (by omega))]
theorem cb_end {f g : Nat} (h : CS t D σ p T L [] []) : CB f (g + 1) σ = mm_readsCbor_L2 f 0 σ := by
  show mm_readsCbor_b185 _ (mm_readsCbor_L185 _ g) σ = _
  unfold mm_readsCbor_b185 mm_readsCbor_b221
  rw [h.1.2.2.1.1, if_pos (show nI ([] : List Nat).length ≤ (0 : Int32) by decide), if_pos (show nI ([] : List Nat).length ≤ (0 : Int32) by decide)]
theorem key_none (h : CS t D σ p T L [] []) : mm_isKey σ = some (false, σ) := by
  unfold mm_isKey
  rw [bd_of (isMap_none h.1.2.2.1)]
  rfl
theorem key_top {b n : Nat} {isMap : Bool} (h : CS t D σ p T L (st ++ [b]) (lf ++ [n])) (hb : b < 4200) (hs : mf_sorts σ b = nI (srt isMap)) (hn : n < 2 ^ 31) : mm_isKey σ = some (isMap && decide (n % 2 = 0), σ) := by
  obtain ⟨t1, t2, t3, t4, t5⟩ := h.top
  unfold mm_isKey
  rw [bd_of (isMap_top h.1.2.2.1 hb hs)]
  simp only []
  cases isMap with
  | false => rfl
  | true =>
    rw [if_pos rfl, t1, show nI (st.length + 1) - 1 = nI st.length from pk_sub (b := 1) (by omega), ck_in (vp_in_nI (by omega) (by decide)), nI_clamp (by omega), t4, wb_a1 (by omega)]
    by_cases c : n % 2 = 0
    · rw [c, if_pos (show lN 0 = (0 : Int64) from rfl)]
      rfl
    · rw [show n % 2 = 1 by omega, if_neg (show ¬ lN 1 = (0 : Int64) by decide)]
      rfl
/-- one head in the reference's loop -/
theorem c_tok {key : Bool} {d : Nat} (h : CS t D σ p T L st lf) (hdl : DL lf lf') (hk : mm_isKey σ = some (key, σ)) (hd : st.length + d = D) (hD : D ≤ 40) (hn : ∀ l0 n, lf = l0 ++ [n] → n < 2 ^ 31) : match sTk t key d p with
    | .inl kq => ∀ f, ∃ σ', mm_readsCbor_L2 (f + 1) 1 σ = some σ' ∧ BadS σ σ' kq
    | .inr y => ∃ σ2, (∀ f, mm_readsCbor_L2 (f + 1) 1 σ = mm_readsCbor_b69 (mm_readsCbor_L2 f) (nI T.length) σ2) ∧ CS t D σ2 y.2 (T ++ thL L.length [y.1]) (L ++ ltL [y.1]) st lf' ∧ MG σ σ2 := by
  obtain ⟨hM, hl, hlf⟩ := id h
  obtain ⟨⟨hT, hDp⟩, hR, hO, hTl, hLl, hp⟩ := id hM
  have hle := hT.2.1
  have ht := hT.2.2.1
  by_cases c : p < t.length
  · have step : ∀ f, mm_readsCbor_L2 (f + 1) 1 σ = bd (mm_head (bI key) σ) (fun (x6 : Bool × MSt) => (if x6.1 = true then lt ((mf_things x6.2) - (1 : Int32)) (fun (v8 : Int32) => (if (mf_open x6.2) ≤ 0 then mm_readsCbor_b69 (mm_readsCbor_L2 f) v8 x6.2 else ck ((mf_open x6.2) - (1 : Int32)) 64 (ck ((mf_open x6.2) - (1 : Int32)) 64 (mm_readsCbor_b69 (mm_readsCbor_L2 f) v8 (ms_openLeft x6.2 (vp_updL (mf_openLeft x6.2) (((mf_open x6.2) - (1 : Int32))).toNatClampNeg (((mf_openLeft x6.2) (((mf_open x6.2) - (1 : Int32))).toNatClampNeg) - (1 : Int64)))))))) else some x6.2)) := by
      intro f
      show mm_readsCbor_b2 (mm_readsCbor_L2 f) 1 σ = _
      unfold mm_readsCbor_b2
      rw [if_neg (show ¬ (1 : Int32) = 0 by decide), hR.1, hT.1, if_pos (nI_lt c (by omega)), bd_of hk]
    have r := m_head (key := key) hT hR c hTl hLl hO.1 hDp hd hD
    cases hs : sTk t key d p with
    | inl kq =>
      rw [hs] at r
      obtain ⟨σ', ex, g⟩ := r
      intro f
      refine ⟨σ', ?_, g⟩
      rw [step, bd_of ex]
      rfl
    | inr y =>
      obtain ⟨x, q⟩ := y
      obtain ⟨b1, b2, b3, b4, b5, b6, b7, b8⟩ := sTk_bd ht hs
      have bq := b2.2.1
      have bl : 1 + (x.2.2 ++ []).length ≤ q - p := b2.2.2.1
      rw [List.append_nil] at bl
      rw [hs] at r
      obtain ⟨σ1, ex, q1, r1⟩ := r
      have M1 : MS t D σ1 q (T ++ thL L.length [x]) (L ++ ltL [x]) st := hM.q q1 r1 (by rw [List.length_append, thL_len]; show T.length + 1 ≤ q; omega) (by rw [List.length_append]; show L.length + (x.2.2 ++ []).length ≤ q; rw [List.append_nil]; omega) bq
      have hth : mf_things σ1 - (1 : Int32) = nI T.length := by
        rw [r1.2.2.1.1, List.length_append, thL_len]
        exact pk_sub (a := T.length + 1) (b := 1) (by omega)
      have ol : mf_openLeft σ1 = mf_openLeft σ := q1.2.1.2.2
      rcases hdl with ⟨e1, e2⟩ | ⟨l0, n, e1, e2⟩
      · subst e1
        subst e2
        have hst : st = [] := List.eq_nil_of_length_eq_zero hl.symm
        subst hst
        refine ⟨σ1, fun f => ?_, ⟨M1, rfl, fun i hi => absurd hi (Nat.not_lt_zero _)⟩, q1.g⟩
        rw [step, bd_of ex]
        simp only [lt]
        rw [if_pos trivial, hth, q1.2.1.1, hO.1, if_pos (show nI ([] : List Nat).length ≤ (0 : Int32) by decide)]
      · subst e1
        subst e2
        rw [len_snoc] at hl hlf
        have ho : mf_open σ1 = nI (l0.length + 1) := by rw [q1.2.1.1, hO.1, ← hl]
        have hol : mf_openLeft σ1 l0.length = lN (n + 1) := by rw [ol, hlf l0.length (by omega), getD_snocN]
        have o40 := hO.2.1
        refine ⟨ms_openLeft σ1 (vp_updL (mf_openLeft σ1) l0.length (lN n)), fun f => ?_, ⟨M1.left _, by rw [len_snoc]; exact hl, fun i hi => ?_⟩, q1.g.trans (MG.left _ _)⟩
        · rw [step, bd_of ex]
          simp only [lt]
          rw [if_pos trivial, hth, ho, if_neg (nI_np (by omega) (by omega)), show nI (l0.length + 1) - 1 = nI l0.length from pk_sub (b := 1) (by omega), ck_in (vp_in_nI (by omega) (by decide)), ck_in (vp_in_nI (by omega) (by decide)), nI_clamp (by omega), hol, lN_pred (by omega), Nat.add_sub_cancel]
        · rw [len_snoc] at hi
          rw [mG_openLeft_openLeft]
          by_cases e : i = l0.length
          · rw [e, pk_uLs, getD_snocN]
          · rw [pk_uLn e, ol, hlf i (by omega), getD_app (by omega), getD_app (by omega)]
  · have ep : p = t.length := by omega
    have hs : sTk t key d p = .inl (1, t.length) := sTk_l (by unfold sHd; rw [if_pos (by omega)])
    rw [hs]
    intro f
    refine ⟨mF σ (nI 1) (nI t.length), ?_, BadS_mF σ 1 t.length⟩
    show mm_readsCbor_b2 (mm_readsCbor_L2 f) 1 σ = _
    unfold mm_readsCbor_b2
    rw [if_neg (show ¬ (1 : Int32) = 0 by decide), hR.1, hT.1, if_neg (nI_nlt (by omega) (by omega)), bd_of (wrong_eq hR.2.1 _ _)]
    rfl
theorem c_sca {it f ty : Nat} (hit : it < 4200) (hs : mf_sorts σ it = nI ty) (hty : ty < 8) (h4 : ty ≠ 4) (h5 : ty ≠ 5) : mm_readsCbor_b69 (mm_readsCbor_L2 f) (nI it) σ = CB f FU σ := by
  unfold mm_readsCbor_b69
  rw [ck_in (vp_in_nI hit (by decide)), ck_in (vp_in_nI hit (by decide)), nI_clamp (by omega), hs, if_neg (show ¬ nI ty = (4 : Int32) from fun z => h4 ((nI_eq (b := 4) (by omega) (by decide)).mp z)), if_neg (show ¬ nI ty = (5 : Int32) from fun z => h5 ((nI_eq (b := 5) (by omega) (by decide)).mp z))]
  rfl
theorem c_b89 {it : Nat} {k2 : Int32 → MSt → Option MSt} {isMap : Bool} (hit : it < 4200) (hs : mf_sorts σ it = nI (srt isMap)) : mm_readsCbor_b69 k2 (nI it) σ = mm_readsCbor_b89 k2 (nI it) σ := by
  unfold mm_readsCbor_b69
  rw [ck_in (vp_in_nI hit (by decide)), ck_in (vp_in_nI hit (by decide)), nI_clamp (by omega), hs]
  cases isMap with
  | true => rw [if_neg (by decide), if_pos (by decide)]
  | false => rw [if_pos (by decide)]
theorem c_box0 {it f : Nat} {isMap : Bool} (hit : it < 4200) (hs : mf_sorts σ it = nI (srt isMap)) (hn : mf_numbers σ it = lN 0) : mm_readsCbor_b69 (mm_readsCbor_L2 f) (nI it) σ = CB f FU σ := by
  rw [c_b89 hit hs]
  unfold mm_readsCbor_b89
  rw [ck_in (vp_in_nI hit (by decide)), nI_clamp (by omega), hn, if_pos (show lN 0 = (0 : Int64) from rfl)]
  rfl
/-- how many are left of an array or a map with n parts -/
def lft (isMap : Bool) (n : Nat) : Nat := if isMap = true then 2 * n else n
theorem c_push {it v : Nat} {isMap : Bool} (h : CS t D σ p T L st lf) (hst : st.length < 40) (hit : it < 4200) (hs : mf_sorts σ it = nI (srt isMap)) (hn : mf_numbers σ it = lN v) (hv0 : 0 < v) (hv : v < 2 ^ 64) : ∃ σ3, (∀ f, mm_readsCbor_b69 (mm_readsCbor_L2 f) (nI it) σ = CB f FU σ3) ∧ CS t D σ3 p T L (st ++ [it]) (lf ++ [lft isMap (if v ≤ 100000 then v else 100000)]) ∧ MG σ σ3 := by
  obtain ⟨hM, hl, hlf⟩ := id h
  obtain ⟨⟨hT, hDp⟩, hR, hO, hTl, hLl, hp⟩ := id hM
  obtain ⟨nn, enn⟩ : ∃ nn, nn = if v ≤ 100000 then v else 100000 := ⟨_, rfl⟩
  rw [← enn]
  have hnn : nn ≤ 100000 := by rw [enn]; split <;> omega
  obtain ⟨σ1, e1⟩ : ∃ σ1, σ1 = ms_openThing σ (upd (mf_openThing σ) st.length (nI it)) := ⟨_, rfl⟩
  have h146 : ∀ f, mm_readsCbor_b69 (mm_readsCbor_L2 f) (nI it) σ = mm_readsCbor_b146 (mm_readsCbor_L2 f) (nI it) (lN nn) σ1 := by
    intro f
    rw [c_b89 hit hs]
    unfold mm_readsCbor_b89
    have ne : ¬ lN v = (0 : Int64) := by
      intro z
      have := congrArg Int64.toInt z
      rw [lN_ti hv] at this
      split at this
      · have h0 : (v : Int) = 0 := this
        omega
      · have h0 : (v : Int) - 2 ^ 64 = 0 := this
        omega
    rw [ck_in (vp_in_nI hit (by decide)), nI_clamp (by omega), hn, if_neg ne, hO.1, ck_in (vp_in_nI (by omega) (by decide)), ck_in (vp_in_nI hit (by decide)), nI_clamp (by omega), ← e1, ck_in (vp_in_nI hit (by decide)), ck_in (vp_in_nI hit (by decide)), enn]
    by_cases c : v < 2 ^ 63
    · rw [if_neg (lN_nneg c)]
      by_cases c2 : v ≤ 100000
      · rw [if_pos (show lN v ≤ (100000 : Int64) from (pk_lLE (b := 100000) c (by decide)).mpr c2), if_pos c2]
      · rw [if_neg (show ¬ lN v ≤ (100000 : Int64) from fun z => c2 ((pk_lLE (b := 100000) c (by decide)).mp z)), if_neg c2]
        rfl
    · rw [if_pos (lN_neg (by omega) hv), if_neg (by omega)]
      rfl
  have s1 : mf_sorts σ1 it = nI (srt isMap) := by rw [e1, mG_sorts_openThing]; exact hs
  have o1 : mf_open σ1 = nI st.length := by rw [e1, mG_open_openThing]; exact hO.1
  have l1 : mf_openLeft σ1 = mf_openLeft σ := by rw [e1, mG_openLeft_openThing]
  refine ⟨ms_open (ms_openLeft σ1 (vp_updL (mf_openLeft σ1) st.length (lN (lft isMap nn)))) (nI (st.length + 1)), fun f => ?_, ⟨⟨⟨?_, ?_⟩, ?_, ⟨?_, ?_, fun i hi => ?_⟩, hTl, hLl, hp⟩, ?_, fun i hi => ?_⟩, ?_, ?_⟩
  · rw [h146]
    unfold mm_readsCbor_b146 mm_readsCbor_b174
    rw [ck_in (vp_in_nI hit (by decide)), nI_clamp (by omega), s1, o1, ck_in (vp_in_nI (by omega) (by decide)), ck_in (vp_in_nI (by omega) (by decide)), nI_1, nI_clamp (by omega)]
    cases isMap with
    | true =>
      rw [if_pos (by decide), show (2 : Int64) * lN nn = lN (lft true nn) from lN_mul 2 nn]
      rfl
    | false =>
      rw [if_neg (by decide)]
      rfl
  · rw [e1]
    unfold TpM
    simp only [mG_thrown_open, mG_tape_open, mG_taped_open, mG_depth_open, mG_room_open, mG_written_open, mG_writtenMany_open, mG_errorPlace_open, mG_sorts_open, mG_numbers_open, mG_places_open, mG_things_open, mG_letters_open, mG_lettersMany_open, mG_openThing_open, mG_openLeft_open, mG_open_open, mG_at_open, mG_fault_open, mG_fresh_open, mG_freshMany_open, mG_figures_open, mG_thrown_openLeft, mG_tape_openLeft, mG_taped_openLeft, mG_depth_openLeft, mG_room_openLeft, mG_written_openLeft, mG_writtenMany_openLeft, mG_errorPlace_openLeft, mG_sorts_openLeft, mG_numbers_openLeft, mG_places_openLeft, mG_things_openLeft, mG_letters_openLeft, mG_lettersMany_openLeft, mG_openThing_openLeft, mG_openLeft_openLeft, mG_open_openLeft, mG_at_openLeft, mG_fault_openLeft, mG_fresh_openLeft, mG_freshMany_openLeft, mG_figures_openLeft, mG_thrown_openThing, mG_tape_openThing, mG_taped_openThing, mG_depth_openThing, mG_room_openThing, mG_written_openThing, mG_writtenMany_openThing, mG_errorPlace_openThing, mG_sorts_openThing, mG_numbers_openThing, mG_places_openThing, mG_things_openThing, mG_letters_openThing, mG_lettersMany_openThing, mG_openThing_openThing, mG_openLeft_openThing, mG_open_openThing, mG_at_openThing, mG_fault_openThing, mG_fresh_openThing, mG_freshMany_openThing, mG_figures_openThing]
    exact hT
  · rw [e1]
    simp only [mG_thrown_open, mG_tape_open, mG_taped_open, mG_depth_open, mG_room_open, mG_written_open, mG_writtenMany_open, mG_errorPlace_open, mG_sorts_open, mG_numbers_open, mG_places_open, mG_things_open, mG_letters_open, mG_lettersMany_open, mG_openThing_open, mG_openLeft_open, mG_open_open, mG_at_open, mG_fault_open, mG_fresh_open, mG_freshMany_open, mG_figures_open, mG_thrown_openLeft, mG_tape_openLeft, mG_taped_openLeft, mG_depth_openLeft, mG_room_openLeft, mG_written_openLeft, mG_writtenMany_openLeft, mG_errorPlace_openLeft, mG_sorts_openLeft, mG_numbers_openLeft, mG_places_openLeft, mG_things_openLeft, mG_letters_openLeft, mG_lettersMany_openLeft, mG_openThing_openLeft, mG_openLeft_openLeft, mG_open_openLeft, mG_at_openLeft, mG_fault_openLeft, mG_fresh_openLeft, mG_freshMany_openLeft, mG_figures_openLeft, mG_thrown_openThing, mG_tape_openThing, mG_taped_openThing, mG_depth_openThing, mG_room_openThing, mG_written_openThing, mG_writtenMany_openThing, mG_errorPlace_openThing, mG_sorts_openThing, mG_numbers_openThing, mG_places_openThing, mG_things_openThing, mG_letters_openThing, mG_lettersMany_openThing, mG_openThing_openThing, mG_openLeft_openThing, mG_open_openThing, mG_at_openThing, mG_fault_openThing, mG_fresh_openThing, mG_freshMany_openThing, mG_figures_openThing]
    exact hDp
  · rw [e1]
    unfold MR MTh MLt
    simp only [mG_thrown_open, mG_tape_open, mG_taped_open, mG_depth_open, mG_room_open, mG_written_open, mG_writtenMany_open, mG_errorPlace_open, mG_sorts_open, mG_numbers_open, mG_places_open, mG_things_open, mG_letters_open, mG_lettersMany_open, mG_openThing_open, mG_openLeft_open, mG_open_open, mG_at_open, mG_fault_open, mG_fresh_open, mG_freshMany_open, mG_figures_open, mG_thrown_openLeft, mG_tape_openLeft, mG_taped_openLeft, mG_depth_openLeft, mG_room_openLeft, mG_written_openLeft, mG_writtenMany_openLeft, mG_errorPlace_openLeft, mG_sorts_openLeft, mG_numbers_openLeft, mG_places_openLeft, mG_things_openLeft, mG_letters_openLeft, mG_lettersMany_openLeft, mG_openThing_openLeft, mG_openLeft_openLeft, mG_open_openLeft, mG_at_openLeft, mG_fault_openLeft, mG_fresh_openLeft, mG_freshMany_openLeft, mG_figures_openLeft, mG_thrown_openThing, mG_tape_openThing, mG_taped_openThing, mG_depth_openThing, mG_room_openThing, mG_written_openThing, mG_writtenMany_openThing, mG_errorPlace_openThing, mG_sorts_openThing, mG_numbers_openThing, mG_places_openThing, mG_things_openThing, mG_letters_openThing, mG_lettersMany_openThing, mG_openThing_openThing, mG_openLeft_openThing, mG_open_openThing, mG_at_openThing, mG_fault_openThing, mG_fresh_openThing, mG_freshMany_openThing, mG_figures_openThing]
    exact hR
  · rw [mG_open_open, len_snoc]
  · rw [len_snoc]; omega
  · rw [len_snoc] at hi
    rw [mG_openThing_open, mG_openThing_openLeft, e1, mG_openThing_openThing, getD_snoc hi]
    by_cases e : i = st.length
    · rw [if_pos e, e, pk_us]
    · rw [if_neg e, pk_un e, hO.2.2 i (by omega)]
  · rw [len_snoc, len_snoc, hl]
  · rw [len_snoc] at hi
    rw [mG_openLeft_open, mG_openLeft_openLeft, l1, getD_snoc hi]
    by_cases e : i = lf.length
    · rw [if_pos e, e, hl, pk_uLs]
    · rw [if_neg e, pk_uLn (by omega), hlf i (by omega)]
  · rw [e1]
    unfold MFr
    simp only [mG_thrown_open, mG_tape_open, mG_taped_open, mG_depth_open, mG_room_open, mG_written_open, mG_writtenMany_open, mG_errorPlace_open, mG_sorts_open, mG_numbers_open, mG_places_open, mG_things_open, mG_letters_open, mG_lettersMany_open, mG_openThing_open, mG_openLeft_open, mG_open_open, mG_at_open, mG_fault_open, mG_fresh_open, mG_freshMany_open, mG_figures_open, mG_thrown_openLeft, mG_tape_openLeft, mG_taped_openLeft, mG_depth_openLeft, mG_room_openLeft, mG_written_openLeft, mG_writtenMany_openLeft, mG_errorPlace_openLeft, mG_sorts_openLeft, mG_numbers_openLeft, mG_places_openLeft, mG_things_openLeft, mG_letters_openLeft, mG_lettersMany_openLeft, mG_openThing_openLeft, mG_openLeft_openLeft, mG_open_openLeft, mG_at_openLeft, mG_fault_openLeft, mG_fresh_openLeft, mG_freshMany_openLeft, mG_figures_openLeft, mG_thrown_openThing, mG_tape_openThing, mG_taped_openThing, mG_depth_openThing, mG_room_openThing, mG_written_openThing, mG_writtenMany_openThing, mG_errorPlace_openThing, mG_sorts_openThing, mG_numbers_openThing, mG_places_openThing, mG_things_openThing, mG_letters_openThing, mG_lettersMany_openThing, mG_openThing_openThing, mG_openLeft_openThing, mG_open_openThing, mG_at_openThing, mG_fault_openThing, mG_fresh_openThing, mG_freshMany_openThing, mG_figures_openThing, and_self]
  · rw [e1]
    simp only [mG_thrown_open, mG_tape_open, mG_taped_open, mG_depth_open, mG_room_open, mG_written_open, mG_writtenMany_open, mG_errorPlace_open, mG_sorts_open, mG_numbers_open, mG_places_open, mG_things_open, mG_letters_open, mG_lettersMany_open, mG_openThing_open, mG_openLeft_open, mG_open_open, mG_at_open, mG_fault_open, mG_fresh_open, mG_freshMany_open, mG_figures_open, mG_thrown_openLeft, mG_tape_openLeft, mG_taped_openLeft, mG_depth_openLeft, mG_room_openLeft, mG_written_openLeft, mG_writtenMany_openLeft, mG_errorPlace_openLeft, mG_sorts_openLeft, mG_numbers_openLeft, mG_places_openLeft, mG_things_openLeft, mG_letters_openLeft, mG_lettersMany_openLeft, mG_openThing_openLeft, mG_openLeft_openLeft, mG_open_openLeft, mG_at_openLeft, mG_fault_openLeft, mG_fresh_openLeft, mG_freshMany_openLeft, mG_figures_openLeft, mG_thrown_openThing, mG_tape_openThing, mG_taped_openThing, mG_depth_openThing, mG_room_openThing, mG_written_openThing, mG_writtenMany_openThing, mG_errorPlace_openThing, mG_sorts_openThing, mG_numbers_openThing, mG_places_openThing, mG_things_openThing, mG_letters_openThing, mG_lettersMany_openThing, mG_openThing_openThing, mG_openLeft_openThing, mG_open_openThing, mG_at_openThing, mG_fault_openThing, mG_fresh_openThing, mG_freshMany_openThing, mG_figures_openThing]
end LPC
