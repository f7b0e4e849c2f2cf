/-! PURE MM: the reference's loop that writes JSON, step by step -/
def WS (σ : MSt) (ts : List Tok) (l st lf : List Nat) : Prop := (MTs σ ts ∧ MFs σ l) ∧ MO σ st ∧ lf.length = st.length ∧ ∀ i, i < lf.length → mf_openLeft σ i = lN (lf.getD i 0)
def MWr (σ σ' : MSt) : Prop := MFr σ σ' ∧ mf_errorPlace σ' = mf_errorPlace σ ∧ mf_fault σ' = mf_fault σ
theorem MWr.rfl' (σ : MSt) : MWr σ σ := ⟨MFr_rfl σ, rfl, rfl⟩
theorem MWr.trans {a b c : MSt} (h : MWr a b) (g : MWr b c) : MWr a c := ⟨h.1.trans g.1, g.2.1.trans h.2.1, g.2.2.trans h.2.2⟩
theorem MWq.r {a b : MSt} (h : MWq a b) : MWr a b := h.1
theorem WS.w {σ σ' : MSt} {ts : List Tok} {l l' st lf : List Nat} (h : WS σ ts l st lf) (q : MWq σ σ') (hF : MFs σ' l') : WS σ' ts l' st lf := by
  obtain ⟨⟨h1, h2⟩, ⟨o1, o2, o3⟩, h4, h5⟩ := h
  obtain ⟨q1, q2, q3, qa, qb, qc⟩ := id q
  exact ⟨⟨h1.w q, hF⟩, ⟨by rw [qa]; exact o1, o2, fun i hi => by rw [qb]; exact o3 i hi⟩, h4, fun i hi => by rw [qc]; exact h5 i hi⟩
def WB (f g a1 : Nat) (σ : MSt) : Option (Int32 × MSt) := mm_writesJson_L174 (mm_writesJson_L12 f) g (nI a1) σ
section SPJ
variable {σ : MSt} {ts : List Tok} {l st lf : List Nat}
theorem WS.top {b n : Nat} (h : WS σ ts l (st ++ [b]) (lf ++ [n])) : mf_open σ = nI (st.length + 1) ∧ st.length + 1 ≤ 40 ∧ mf_openThing σ st.length = nI b ∧ mf_openLeft σ st.length = lN n ∧ lf.length = st.length := by
  obtain ⟨h1, ⟨o1, o2, o3⟩, h5, h6⟩ := h
  rw [len_snoc] at o1 o2 o3 h5
  rw [len_snoc] at h5 h6
  have e : lf.length = st.length := by omega
  refine ⟨o1, o2, ?_, ?_, e⟩
  · rw [o3 st.length (by omega), getD_snocN]
  · rw [← e, h6 lf.length (by omega), getD_snocN]
theorem MTs_open {σ : MSt} {ts : List Tok} (h : MTs σ ts) (v : Int32) : MTs (ms_open σ v) ts := by
  unfold MTs MTh MLt
  simp only [mG_thrown_open, mG_tape_open, mG_taped_open, mG_depth_open, mG_room_open, mG_written_open, mG_writtenMany_open, mG_errorPlace_open, mG_sorts_open, mG_numbers_open, mG_places_open, mG_things_open, mG_letters_open, mG_lettersMany_open, mG_openThing_open, mG_openLeft_open, mG_open_open, mG_at_open, mG_fault_open, mG_fresh_open, mG_freshMany_open, mG_figures_open]
  exact h
theorem MTs_left {σ : MSt} {ts : List Tok} (h : MTs σ ts) (v : Nat → Int64) : MTs (ms_openLeft σ v) ts := by
  unfold MTs MTh MLt
  simp only [mG_thrown_openLeft, mG_tape_openLeft, mG_taped_openLeft, mG_depth_openLeft, mG_room_openLeft, mG_written_openLeft, mG_writtenMany_openLeft, mG_errorPlace_openLeft, mG_sorts_openLeft, mG_numbers_openLeft, mG_places_openLeft, mG_things_openLeft, mG_letters_openLeft, mG_lettersMany_openLeft, mG_openThing_openLeft, mG_openLeft_openLeft, mG_open_openLeft, mG_at_openLeft, mG_fault_openLeft, mG_fresh_openLeft, mG_freshMany_openLeft, mG_figures_openLeft]
  exact h
theorem MTs_othing {σ : MSt} {ts : List Tok} (h : MTs σ ts) (v : Nat → Int32) : MTs (ms_openThing σ v) ts := by
  unfold MTs MTh MLt
  simp only [mG_thrown_openThing, mG_tape_openThing, mG_taped_openThing, mG_depth_openThing, mG_room_openThing, mG_written_openThing, mG_writtenMany_openThing, mG_errorPlace_openThing, mG_sorts_openThing, mG_numbers_openThing, mG_places_openThing, mG_things_openThing, mG_letters_openThing, mG_lettersMany_openThing, mG_openThing_openThing, mG_openLeft_openThing, mG_open_openThing, mG_at_openThing, mG_fault_openThing, mG_fresh_openThing, mG_freshMany_openThing, mG_figures_openThing]
  exact h
theorem wb_pop {b : Nat} {isMap : Bool} (h : WS σ ts l (st ++ [b]) (lf ++ [0])) (hb : b < 4200) (hs : mf_sorts σ b = nI (srt isMap)) (hl : l.length ≤ 300000) : ∃ σ', (∀ f g a1, WB f (g + 1) a1 σ = WB f g a1 σ') ∧ WS σ' ts (l ++ [clC isMap]) st lf ∧ MWr σ σ' := by
  obtain ⟨t1, t2, t3, t4, t5⟩ := h.top
  obtain ⟨⟨h1, h2⟩, ⟨o1, o2, o3⟩, h5, h6⟩ := id h
  obtain ⟨σ1, e1⟩ : ∃ σ1, σ1 = ms_open σ (nI st.length) := ⟨_, rfl⟩
  have W1 : WS σ1 ts l st lf := by
    refine ⟨⟨by rw [e1]; exact MTs_open h1 _, ?_⟩, ⟨by rw [e1, mG_open_open], by omega, fun i hi => ?_⟩, t5, fun i hi => ?_⟩
    · rw [e1]
      unfold MFs
      simp only [mG_thrown_open, mG_tape_open, mG_taped_open, mG_depth_open, mG_room_open, mG_written_open, mG_writtenMany_open, mG_errorPlace_open, mG_sorts_open, mG_numbers_open, mG_places_open, mG_things_open, mG_letters_open, mG_lettersMany_open, mG_openThing_open, mG_openLeft_open, mG_open_open, mG_at_open, mG_fault_open, mG_fresh_open, mG_freshMany_open, mG_figures_open]
      exact h2
    · rw [e1, mG_openThing_open, o3 i (by rw [len_snoc]; omega), getD_app hi]
    · rw [e1, mG_openLeft_open, h6 i (by rw [len_snoc]; omega), getD_app hi]
  have R1 : MWr σ σ1 := by
    rw [e1]
    unfold MWr MFr
    simp only [mG_thrown_open, mG_tape_open, mG_taped_open, mG_depth_open, mG_room_open, mG_written_open, mG_writtenMany_open, mG_errorPlace_open, mG_sorts_open, mG_numbers_open, mG_places_open, mG_things_open, mG_letters_open, mG_lettersMany_open, mG_openThing_open, mG_openLeft_open, mG_open_open, mG_at_open, mG_fault_open, mG_fresh_open, mG_freshMany_open, mG_figures_open, and_self]
  obtain ⟨σ2, e2, q2, l2⟩ := m_putN W1.1.2 (by omega) (n := clC isMap) (by cases isMap <;> decide) rfl
  refine ⟨σ2, fun f g a1 => ?_, W1.w q2 l2, R1.trans q2.r⟩
  show mm_writesJson_b174 (mm_writesJson_L12 f) (mm_writesJson_L174 (mm_writesJson_L12 f) g) (nI a1) σ = _
  unfold mm_writesJson_b174 mm_writesJson_b233
  rw [t1, if_neg (nI_np (by omega) (by omega)), show nI (st.length + 1) - 1 = nI st.length from pk_sub (b := 1) (by omega), ck_in (vp_in_nI (by omega) (by decide)), nI_clamp (by omega), t4, if_pos (show lN 0 = (0 : Int64) from rfl), ck_in (vp_in_nI (by omega) (by decide)), t3, ck_in (vp_in_nI hb (by decide)), nI_clamp (by omega), hs, ← e1]
  cases isMap with
  | true =>
    rw [if_pos (by decide), bd_of (show mm_put (125 : Int32) σ1 = some σ2 from e2)]
    rfl
  | false =>
    rw [if_neg (by decide), bd_of (show mm_put (93 : Int32) σ1 = some σ2 from e2)]
    rfl
theorem wb_go {b n f g a1 : Nat} (h : WS σ ts l (st ++ [b]) (lf ++ [n])) (hn : 0 < n) (hn2 : n < 2 ^ 31) : WB f (g + 1) a1 σ = mm_writesJson_L12 f (nI (a1 + 1)) σ := by
  obtain ⟨t1, t2, t3, t4, t5⟩ := h.top
  show mm_writesJson_b174 (mm_writesJson_L12 f) (mm_writesJson_L174 (mm_writesJson_L12 f) g) (nI a1) σ = _
  unfold mm_writesJson_b174
  rw [t1, if_neg (nI_np (by omega) (by omega)), show nI (st.length + 1) - 1 = nI st.length from pk_sub (b := 1) (by omega), ck_in (vp_in_nI (by omega) (by decide)), nI_clamp (by omega), t4, if_neg (lN_ne0 hn (by omega)), lt_app, nI_1]
theorem wb_end {f g a1 : Nat} (h : WS σ ts l [] []) : WB f (g + 1) a1 σ = mm_writesJson_L12 f (nI (a1 + 1)) σ := by
  show mm_writesJson_b174 (mm_writesJson_L12 f) (mm_writesJson_L174 (mm_writesJson_L12 f) g) (nI a1) σ = _
  unfold mm_writesJson_b174
  rw [h.2.1.1, if_pos (show nI ([] : List Nat).length ≤ (0 : Int32) by decide), lt_app, nI_1]
/-- what stands ahead of a part -/
def sep (isMap : Bool) (n N : Nat) : List Nat := if isMap = true ∧ n % 2 = 1 then [58] else if n = lft isMap N then [] else [44]
theorem w_b154 {b n it : Nat} (h : WS σ ts l (st ++ [b]) (lf ++ [n + 1])) (hn : n + 1 < 2 ^ 31) : ∃ σ', (∀ f, mm_writesJson_b154 (mm_writesJson_L12 f) (nI it) σ = mm_writesJson_b169 (mm_writesJson_L12 f) (nI it) σ') ∧ WS σ' ts l (st ++ [b]) (lf ++ [n]) ∧ MWr σ σ' := by
  obtain ⟨t1, t2, t3, t4, t5⟩ := h.top
  obtain ⟨⟨h1, h2⟩, ⟨o1, o2, o3⟩, h5, h6⟩ := id h
  rw [len_snoc] at h6
  refine ⟨ms_openLeft σ (vp_updL (mf_openLeft σ) st.length (lN n)), fun f => ?_, ⟨⟨MTs_left h1 _, ?_⟩, ⟨by rw [mG_open_openLeft]; exact o1, o2, fun i hi => by rw [mG_openThing_openLeft]; exact o3 i hi⟩, by rw [len_snoc, len_snoc, t5], fun i hi => ?_⟩, ?_⟩
  · unfold mm_writesJson_b154
    rw [t1, show nI (st.length + 1) - 1 = nI st.length from pk_sub (b := 1) (by omega), ck_in (vp_in_nI (by omega) (by decide)), ck_in (vp_in_nI (by omega) (by decide)), nI_clamp (by omega), t4, lN_pred (by omega), Nat.add_sub_cancel]
  · unfold MFs
    simp only [mG_thrown_openLeft, mG_tape_openLeft, mG_taped_openLeft, mG_depth_openLeft, mG_room_openLeft, mG_written_openLeft, mG_writtenMany_openLeft, mG_errorPlace_openLeft, mG_sorts_openLeft, mG_numbers_openLeft, mG_places_openLeft, mG_things_openLeft, mG_letters_openLeft, mG_lettersMany_openLeft, mG_openThing_openLeft, mG_openLeft_openLeft, mG_open_openLeft, mG_at_openLeft, mG_fault_openLeft, mG_fresh_openLeft, mG_freshMany_openLeft, mG_figures_openLeft]
    exact h2
  · rw [len_snoc] at hi
    rw [mG_openLeft_openLeft]
    by_cases e : i = lf.length
    · rw [e, t5, pk_uLs, ← t5, getD_snocN]
    · rw [pk_uLn (by omega), h6 i (by omega), getD_app (by omega), getD_app (by omega)]
  · unfold MWr MFr
    simp only [mG_thrown_openLeft, mG_tape_openLeft, mG_taped_openLeft, mG_depth_openLeft, mG_room_openLeft, mG_written_openLeft, mG_writtenMany_openLeft, mG_errorPlace_openLeft, mG_sorts_openLeft, mG_numbers_openLeft, mG_places_openLeft, mG_things_openLeft, mG_letters_openLeft, mG_lettersMany_openLeft, mG_openThing_openLeft, mG_openLeft_openLeft, mG_open_openLeft, mG_at_openLeft, mG_fault_openLeft, mG_fresh_openLeft, mG_freshMany_openLeft, mG_figures_openLeft, and_self]
theorem w_sep {b n N it : Nat} {isMap : Bool} (h : WS σ ts l (st ++ [b]) (lf ++ [n + 1])) (hn : n + 1 < 2 ^ 30) (hN : N < 2 ^ 30) (hb : b < 4200) (hs : mf_sorts σ b = nI (srt isMap)) (hnu : mf_numbers σ b = lN N) (hit : it < ts.length) (hl : l.length ≤ 300000) : ∃ σ', (∀ f, mm_writesJson_L12 (f + 1) (nI it) σ = mm_writesJson_b169 (mm_writesJson_L12 f) (nI it) σ') ∧ WS σ' ts (l ++ sep isMap (n + 1) N) (st ++ [b]) (lf ++ [n]) ∧ MWr σ σ' := by
  obtain ⟨t1, t2, t3, t4, t5⟩ := h.top
  obtain ⟨⟨h1, h2⟩, ⟨o1, o2, o3⟩, h5, h6⟩ := id h
  have h4000 := h1.2.2.2
  have hth : mf_things σ = nI ts.length := by rw [h1.1.1, thL_len]
  have hck : ∀ {α : Type} (y : Option α), ck (nI st.length) 64 y = y := fun y => ck_in (vp_in_nI (by omega) (by decide))
  have hckb : ∀ {α : Type} (y : Option α), ck (nI b) 4200 y = y := fun y => ck_in (vp_in_nI hb (by decide))
  have e1 : nI (st.length + 1) - (1 : Int32) = nI st.length := pk_sub (b := 1) (by omega)
  have h54 : ∀ f, mm_writesJson_L12 (f + 1) (nI it) σ = mm_writesJson_b54 (mm_writesJson_L12 f) (nI it) (nI b) (bI isMap) σ := by
    intro f
    show mm_writesJson_b12 (mm_writesJson_L12 f) (nI it) σ = _
    unfold mm_writesJson_b12
    rw [hth, if_neg (nI_ge (by omega) (by omega)), t1, if_neg (nI_np (by omega) (by omega)), e1, hck, lt_app, nI_clamp (by omega), t3, hckb, nI_clamp (by omega), hs]
    cases isMap with
    | true => rw [if_pos (by decide)]; rfl
    | false => rw [if_neg (by decide)]; rfl
  obtain ⟨vl, evl⟩ : ∃ vl : Bool, vl = (isMap && decide ((n + 1) % 2 = 1)) := ⟨_, rfl⟩
  have h82 : ∀ f, mm_writesJson_b54 (mm_writesJson_L12 f) (nI it) (nI b) (bI isMap) σ = mm_writesJson_b82 (mm_writesJson_L12 f) (nI it) (nI b) (bI isMap) (bI vl) σ := by
    intro f
    unfold mm_writesJson_b54
    rw [evl]
    cases isMap with
    | false => rw [if_pos (by decide)]; rfl
    | true =>
      rw [if_neg (by decide), t1, e1, hck, nI_clamp (by omega), t4, wb_a1 (by omega)]
      by_cases c : (n + 1) % 2 = 1
      · rw [c, if_pos (show lN 1 = (1 : Int64) from rfl)]
        rfl
      · rw [show (n + 1) % 2 = 0 by omega, if_neg (show ¬ lN 0 = (1 : Int64) by decide)]
        rfl
  obtain ⟨fs, efs⟩ : ∃ fs : Bool, fs = decide (n + 1 = lft isMap N) := ⟨_, rfl⟩
  have hlN : lft isMap N < 2 ^ 31 := by unfold lft; split <;> omega
  have h127 : ∀ f, mm_writesJson_b82 (mm_writesJson_L12 f) (nI it) (nI b) (bI isMap) (bI vl) σ = mm_writesJson_b127 (mm_writesJson_L12 f) (nI it) (bI vl) (bI fs) σ := by
    intro f
    have h118 : mm_writesJson_b82 (mm_writesJson_L12 f) (nI it) (nI b) (bI isMap) (bI vl) σ = mm_writesJson_b118 (mm_writesJson_L12 f) (nI it) (bI vl) (lN (lft isMap N)) (lN (n + 1)) σ := by
      unfold mm_writesJson_b82
      rw [t1, e1, hck, hckb, hckb, nI_clamp (by omega), nI_clamp (by omega), t4, hnu]
      cases isMap with
      | true => rw [if_neg (by decide), show (2 : Int64) * lN N = lN (lft true N) from lN_mul 2 N]
      | false => rw [if_pos (by decide)]; rfl
    rw [h118]
    unfold mm_writesJson_b118
    rw [efs]
    by_cases c : n + 1 = lft isMap N
    · rw [if_pos (show lN (n + 1) = lN (lft isMap N) by rw [c]), decide_eq_true c]
      rfl
    · rw [if_neg (fun z => c ((pk_lEQ (by omega) (by omega)).mp z)), decide_eq_false c]
      rfl
  have put : ∀ k, k < 256 → ∃ σ', (∀ f, bd (mm_put (nI k) σ) (fun (x28 : MSt) => mm_writesJson_b154 (mm_writesJson_L12 f) (nI it) x28) = mm_writesJson_b169 (mm_writesJson_L12 f) (nI it) σ') ∧ WS σ' ts (l ++ [k]) (st ++ [b]) (lf ++ [n]) ∧ MWr σ σ' := by
    intro k hk
    obtain ⟨σ1, g1, q1, l1⟩ := m_putN h2 (by omega) hk rfl
    obtain ⟨σ2, g2, w2, r2⟩ := w_b154 (it := it) (h.w q1 l1) (by omega)
    exact ⟨σ2, fun f => by rw [bd_of g1, g2], w2, q1.r.trans r2⟩
  unfold sep
  cases hvl : vl with
  | true =>
    rw [hvl] at evl
    have c : isMap = true ∧ (n + 1) % 2 = 1 := by
      have z := evl.symm
      rw [Bool.and_eq_true, decide_eq_true_eq] at z
      exact z
    rw [if_pos c]
    obtain ⟨σ2, g2, w2, r2⟩ := put 58 (by decide)
    refine ⟨σ2, fun f => ?_, w2, r2⟩
    rw [h54, h82, h127, hvl, ← g2]
    unfold mm_writesJson_b127
    rw [if_neg (by decide)]
    rfl
  | false =>
    rw [hvl] at evl
    have c : ¬ (isMap = true ∧ (n + 1) % 2 = 1) := by
      intro z
      have w : (isMap && decide ((n + 1) % 2 = 1)) = true := by rw [Bool.and_eq_true, decide_eq_true_eq]; exact z
      rw [w] at evl
      exact absurd evl (by decide)
    rw [if_neg c]
    by_cases c2 : n + 1 = lft isMap N
    · have hfs : fs = true := by rw [efs, decide_eq_true c2]
      rw [if_pos c2, List.append_nil]
      obtain ⟨σ2, g2, w2, r2⟩ := w_b154 (it := it) h (by omega)
      refine ⟨σ2, fun f => ?_, w2, r2⟩
      rw [h54, h82, h127, hvl, hfs, ← g2]
      unfold mm_writesJson_b127
      rw [if_pos (by decide), if_neg (by decide)]
    · have hfs : fs = false := by rw [efs, decide_eq_false c2]
      rw [if_neg c2]
      obtain ⟨σ2, g2, w2, r2⟩ := put 44 (by decide)
      refine ⟨σ2, fun f => ?_, w2, r2⟩
      rw [h54, h82, h127, hvl, hfs, ← g2]
      unfold mm_writesJson_b127
      rw [if_pos (by decide), if_pos (by decide)]
      rfl
theorem w_sca {pre rest : List Tok} {x : Tok} (h : WS σ (pre ++ x :: rest) l st lf) (hx : x.1 = 0 ∨ x.1 = 1 ∨ x.1 = 3 ∨ x.1 = 7) (h7 : x.1 = 7 → x.2.1 = 20 ∨ x.2.1 = 21 ∨ x.2.1 = 22) (hl : l.length ≤ 200000) : ∃ σ', (∀ f, mm_writesJson_b169 (mm_writesJson_L12 f) (nI pre.length) σ = WB f FU pre.length σ') ∧ WS σ' (pre ++ x :: rest) (l ++ jTk x) st lf ∧ MWr σ σ' := by
  obtain ⟨σ1, e1, q1, l1⟩ := m_thing h.1.1 hx h7 h.1.2 hl
  refine ⟨σ1, fun f => ?_, h.w q1 l1, q1.r⟩
  unfold mm_writesJson_b169
  rw [bd_of e1]
  rfl
theorem w_push {pre rest : List Tok} {isMap : Bool} {N : Nat} (h : WS σ (pre ++ (srt isMap, N, []) :: rest) l st lf) (hst : st.length < 40) (hN : N < 2 ^ 30) (hl : l.length ≤ 200000) : ∃ σ', (∀ f, mm_writesJson_b169 (mm_writesJson_L12 f) (nI pre.length) σ = WB f FU pre.length σ') ∧ WS σ' (pre ++ (srt isMap, N, []) :: rest) (l ++ [opC isMap]) (st ++ [pre.length]) (lf ++ [lft isMap N]) ∧ MWr σ σ' := by
  obtain ⟨m0, m1', m2', m3, m4, m5, m6, m7⟩ := h.1.1.mid
  have m1 : mf_sorts σ pre.length = nI (srt isMap) := m1'
  have m2 : mf_numbers σ pre.length = lN N := m2'
  have hit : pre.length < 4200 := by omega
  have hck : ∀ {α : Type} (y : Option α), ck (nI pre.length) 4200 y = y := fun y => ck_in (vp_in_nI hit (by decide))
  obtain ⟨σ1, e1, q1, l1⟩ := m_putN h.1.2 (by omega) (n := opC isMap) (by cases isMap <;> decide) rfl
  have W1 := h.w q1 l1
  obtain ⟨⟨h1, h2⟩, ⟨o1, o2, o3⟩, h5, h6⟩ := id W1
  have s1 : mf_sorts σ1 pre.length = nI (srt isMap) := by rw [q1.2.1.1]; exact m1
  have n1 : mf_numbers σ1 pre.length = lN N := by rw [q1.2.1.2.1]; exact m2
  obtain ⟨σ2, e2⟩ : ∃ σ2, σ2 = ms_openThing σ1 (upd (mf_openThing σ1) st.length (nI pre.length)) := ⟨_, rfl⟩
  obtain ⟨σ3, e3⟩ : ∃ σ3, σ3 = ms_open (ms_openLeft σ2 (vp_updL (mf_openLeft σ2) st.length (lN (lft isMap N)))) (nI (st.length + 1)) := ⟨_, rfl⟩
  have o2' : mf_open σ2 = nI st.length := by rw [e2, mG_open_openThing]; exact o1
  have l2' : mf_openLeft σ2 = mf_openLeft σ1 := by rw [e2, mG_openLeft_openThing]
  have h157 : mm_putsThing (nI pre.length) σ = mm_putsThing_b157 (nI pre.length) (nI (opC isMap)) σ := by
    have h139 : mm_putsThing (nI pre.length) σ = mm_putsThing_b139 (nI pre.length) σ := by
      unfold mm_putsThing
      simp only [hck]
      rw [nI_clamp (by omega), m1]
      cases isMap with
      | true => rw [if_neg (by decide), if_neg (by decide), if_neg (by decide), if_neg (by decide), if_neg (by decide), if_pos (by decide)]
      | false => rw [if_neg (by decide), if_neg (by decide), if_neg (by decide), if_neg (by decide), if_pos (by decide)]
    rw [h139]
    unfold mm_putsThing_b139
    rw [hck, nI_clamp (by omega), m1]
    cases isMap with
    | true => rw [if_pos (by decide)]; rfl
    | false => rw [if_neg (by decide)]; rfl
  have hput : mm_putsThing (nI pre.length) σ = some σ3 := by
    rw [h157]
    unfold mm_putsThing_b157 mm_putsThing_b207
    rw [bd_of e1, hck, hck, hck, o1, ck_in (vp_in_nI (by omega) (by decide)), nI_clamp (by omega), nI_clamp (by omega), s1, n1, ← e2, o2', ck_in (vp_in_nI (by omega) (by decide)), ck_in (vp_in_nI (by omega) (by decide)), nI_1, e3]
    cases isMap with
    | true => rw [if_pos (by decide), show (2 : Int64) * lN N = lN (lft true N) from lN_mul 2 N]
    | false => rw [if_neg (by decide)]; rfl
  refine ⟨σ3, fun f => ?_, ⟨⟨?_, ?_⟩, ⟨?_, ?_, fun i hi => ?_⟩, ?_, fun i hi => ?_⟩, q1.r.trans ?_⟩
  · unfold mm_writesJson_b169
    rw [bd_of hput]
    rfl
  · rw [e3, e2]
    exact MTs_open (MTs_left (MTs_othing h1 _) _) _
  · rw [e3, e2]
    unfold MFs
    simp only [mG_thrown_open, mG_tape_open, mG_taped_open, mG_depth_open, mG_room_open, mG_written_open, mG_writtenMany_open, mG_errorPlace_open, mG_sorts_open, mG_numbers_open, mG_places_open, mG_things_open, mG_letters_open, mG_lettersMany_open, mG_openThing_open, mG_openLeft_open, mG_open_open, mG_at_open, mG_fault_open, mG_fresh_open, mG_freshMany_open, mG_figures_open, mG_thrown_openLeft, mG_tape_openLeft, mG_taped_openLeft, mG_depth_openLeft, mG_room_openLeft, mG_written_openLeft, mG_writtenMany_openLeft, mG_errorPlace_openLeft, mG_sorts_openLeft, mG_numbers_openLeft, mG_places_openLeft, mG_things_openLeft, mG_letters_openLeft, mG_lettersMany_openLeft, mG_openThing_openLeft, mG_openLeft_openLeft, mG_open_openLeft, mG_at_openLeft, mG_fault_openLeft, mG_fresh_openLeft, mG_freshMany_openLeft, mG_figures_openLeft, mG_thrown_openThing, mG_tape_openThing, mG_taped_openThing, mG_depth_openThing, mG_room_openThing, mG_written_openThing, mG_writtenMany_openThing, mG_errorPlace_openThing, mG_sorts_openThing, mG_numbers_openThing, mG_places_openThing, mG_things_openThing, mG_letters_openThing, mG_lettersMany_openThing, mG_openThing_openThing, mG_openLeft_openThing, mG_open_openThing, mG_at_openThing, mG_fault_openThing, mG_fresh_openThing, mG_freshMany_openThing, mG_figures_openThing]
    exact h2
  · rw [e3, mG_open_open, len_snoc]
  · rw [len_snoc]; omega
  · rw [len_snoc] at hi
    rw [e3, mG_openThing_open, mG_openThing_openLeft, e2, mG_openThing_openThing, getD_snoc hi]
    by_cases e : i = st.length
    · rw [if_pos e, e, pk_us]
    · rw [if_neg e, pk_un e, o3 i (by omega)]
  · rw [len_snoc, len_snoc, h5]
  · rw [len_snoc] at hi
    rw [e3, mG_openLeft_open, mG_openLeft_openLeft, l2', getD_snoc hi]
    by_cases e : i = lf.length
    · rw [if_pos e, e, h5, pk_uLs]
    · rw [if_neg e, pk_uLn (by omega), h6 i (by omega)]
  · rw [e3, e2]
    unfold MWr MFr
    simp only [mG_thrown_open, mG_tape_open, mG_taped_open, mG_depth_open, mG_room_open, mG_written_open, mG_writtenMany_open, mG_errorPlace_open, mG_sorts_open, mG_numbers_open, mG_places_open, mG_things_open, mG_letters_open, mG_lettersMany_open, mG_openThing_open, mG_openLeft_open, mG_open_open, mG_at_open, mG_fault_open, mG_fresh_open, mG_freshMany_open, mG_figures_open, mG_thrown_openLeft, mG_tape_openLeft, mG_taped_openLeft, mG_depth_openLeft, mG_room_openLeft, mG_written_openLeft, mG_writtenMany_openLeft, mG_errorPlace_openLeft, mG_sorts_openLeft, mG_numbers_openLeft, mG_places_openLeft, mG_things_openLeft, mG_letters_openLeft, mG_lettersMany_openLeft, mG_openThing_openLeft, mG_openLeft_openLeft, mG_open_openLeft, mG_at_openLeft, mG_fault_openLeft, mG_fresh_openLeft, mG_freshMany_openLeft, mG_figures_openLeft, mG_thrown_openThing, mG_tape_openThing, mG_taped_openThing, mG_depth_openThing, mG_room_openThing, mG_written_openThing, mG_writtenMany_openThing, mG_errorPlace_openThing, mG_sorts_openThing, mG_numbers_openThing, mG_places_openThing, mG_things_openThing, mG_letters_openThing, mG_lettersMany_openThing, mG_openThing_openThing, mG_openLeft_openThing, mG_open_openThing, mG_at_openThing, mG_fault_openThing, mG_fresh_openThing, mG_freshMany_openThing, mG_figures_openThing, and_self]
end SPJ
