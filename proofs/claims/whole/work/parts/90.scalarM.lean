/-! PURE U: things in the reference; strings, words, numbers -/
abbrev Th : Type := Nat × Nat × Nat
def gT (T : List Th) (i : Nat) : Th := T.getD i (0, 0, 0)
theorem gT_app {T U : List Th} {i : Nat} (h : i < T.length) : gT (T ++ U) i = gT T i := by
  unfold gT
  rw [List.getD_eq_getElem?_getD, List.getD_eq_getElem?_getD, List.getElem?_append_left h]
theorem gT_mid (T U : List Th) (x : Th) : gT (T ++ x :: U) T.length = x := by
  unfold gT
  rw [List.getD_eq_getElem?_getD, List.getElem?_append_right (Nat.le_refl _), Nat.sub_self]
  rfl
theorem gT_ne {T U : List Th} {x y : Th} {i : Nat} (h : i ≠ T.length) : gT (T ++ x :: U) i = gT (T ++ y :: U) i := by
  rcases Nat.lt_or_ge i T.length with c | c
  · rw [gT_app c, gT_app c]
  · unfold gT
    rw [List.getD_eq_getElem?_getD, List.getD_eq_getElem?_getD, List.getElem?_append_right c, List.getElem?_append_right c]
    obtain ⟨k, hk⟩ : ∃ k, i - T.length = k + 1 := ⟨i - T.length - 1, by omega⟩
    rw [hk]
    rfl
/-- the things are T -/
def MTh (σ : MSt) (T : List Th) : Prop := mf_things σ = nI T.length ∧ ∀ i, i < T.length → mf_sorts σ i = nI (gT T i).1 ∧ mf_numbers σ i = lN (gT T i).2.1 ∧ mf_places σ i = nI (gT T i).2.2
def MR (σ : MSt) (p : Nat) (T : List Th) (L : List Nat) : Prop := mf_at σ = nI p ∧ mf_fault σ = 0 ∧ MTh σ T ∧ MLt σ L
theorem MTh.lq {σ σ' : MSt} {T : List Th} (h : MTh σ T) (g : MLq σ σ') : MTh σ' T := by
  obtain ⟨g0, g1, g2, g3, g4, g5⟩ := g
  exact ⟨by rw [g2]; exact h.1, fun i hi => by rw [g3, g4, g5]; exact h.2 i hi⟩
theorem MTh_mT {σ : MSt} {T : List Th} {L : List Nat} (h : MTh σ T) (hL : MLt σ L) (hT : T.length < 4200) (s n : Nat) : MTh (mT σ (nI s) (lN n)) (T ++ [(s, n, L.length)]) := by
  have hc : (mf_things σ).toNatClampNeg = T.length := by rw [h.1, nI_clamp (by omega)]
  unfold MTh mT
  simp only [mG_thrown_sorts, mG_tape_sorts, mG_taped_sorts, mG_depth_sorts, mG_room_sorts, mG_written_sorts, mG_writtenMany_sorts, mG_errorPlace_sorts, mG_sorts_sorts, mG_numbers_sorts, mG_places_sorts, mG_things_sorts, mG_letters_sorts, mG_lettersMany_sorts, mG_openThing_sorts, mG_openLeft_sorts, mG_open_sorts, mG_at_sorts, mG_fault_sorts, mG_fresh_sorts, mG_freshMany_sorts, mG_figures_sorts, mG_thrown_numbers, mG_tape_numbers, mG_taped_numbers, mG_depth_numbers, mG_room_numbers, mG_written_numbers, mG_writtenMany_numbers, mG_errorPlace_numbers, mG_sorts_numbers, mG_numbers_numbers, mG_places_numbers, mG_things_numbers, mG_letters_numbers, mG_lettersMany_numbers, mG_openThing_numbers, mG_openLeft_numbers, mG_open_numbers, mG_at_numbers, mG_fault_numbers, mG_fresh_numbers, mG_freshMany_numbers, mG_figures_numbers, mG_thrown_places, mG_tape_places, mG_taped_places, mG_depth_places, mG_room_places, mG_written_places, mG_writtenMany_places, mG_errorPlace_places, mG_sorts_places, mG_numbers_places, mG_places_places, mG_things_places, mG_letters_places, mG_lettersMany_places, mG_openThing_places, mG_openLeft_places, mG_open_places, mG_at_places, mG_fault_places, mG_fresh_places, mG_freshMany_places, mG_figures_places, mG_thrown_things, mG_tape_things, mG_taped_things, mG_depth_things, mG_room_things, mG_written_things, mG_writtenMany_things, mG_errorPlace_things, mG_sorts_things, mG_numbers_things, mG_places_things, mG_things_things, mG_letters_things, mG_lettersMany_things, mG_openThing_things, mG_openLeft_things, mG_open_things, mG_at_things, mG_fault_things, mG_fresh_things, mG_freshMany_things, mG_figures_things]
  refine ⟨by rw [h.1, nI_1, List.length_append]; rfl, fun i hi => ?_⟩
  rw [List.length_append, List.length_singleton] at hi
  rw [hc]
  by_cases e : i = T.length
  · subst e
    rw [pk_us, pk_us, pk_uLs, gT_mid, hL.1]
    exact ⟨rfl, rfl, rfl⟩
  · rw [pk_un e, pk_un e, pk_uLn e, gT_app (by omega)]
    exact h.2 i (by omega)
theorem MLt_mT {σ : MSt} {L : List Nat} (hL : MLt σ L) (s : Int32) (n : Int64) : MLt (mT σ s n) L := by
  unfold MLt mT
  simp only [mG_thrown_sorts, mG_tape_sorts, mG_taped_sorts, mG_depth_sorts, mG_room_sorts, mG_written_sorts, mG_writtenMany_sorts, mG_errorPlace_sorts, mG_sorts_sorts, mG_numbers_sorts, mG_places_sorts, mG_things_sorts, mG_letters_sorts, mG_lettersMany_sorts, mG_openThing_sorts, mG_openLeft_sorts, mG_open_sorts, mG_at_sorts, mG_fault_sorts, mG_fresh_sorts, mG_freshMany_sorts, mG_figures_sorts, mG_thrown_numbers, mG_tape_numbers, mG_taped_numbers, mG_depth_numbers, mG_room_numbers, mG_written_numbers, mG_writtenMany_numbers, mG_errorPlace_numbers, mG_sorts_numbers, mG_numbers_numbers, mG_places_numbers, mG_things_numbers, mG_letters_numbers, mG_lettersMany_numbers, mG_openThing_numbers, mG_openLeft_numbers, mG_open_numbers, mG_at_numbers, mG_fault_numbers, mG_fresh_numbers, mG_freshMany_numbers, mG_figures_numbers, mG_thrown_places, mG_tape_places, mG_taped_places, mG_depth_places, mG_room_places, mG_written_places, mG_writtenMany_places, mG_errorPlace_places, mG_sorts_places, mG_numbers_places, mG_places_places, mG_things_places, mG_letters_places, mG_lettersMany_places, mG_openThing_places, mG_openLeft_places, mG_open_places, mG_at_places, mG_fault_places, mG_fresh_places, mG_freshMany_places, mG_figures_places, mG_thrown_things, mG_tape_things, mG_taped_things, mG_depth_things, mG_room_things, mG_written_things, mG_writtenMany_things, mG_errorPlace_things, mG_sorts_things, mG_numbers_things, mG_places_things, mG_things_things, mG_letters_things, mG_lettersMany_things, mG_openThing_things, mG_openLeft_things, mG_open_things, mG_at_things, mG_fault_things, mG_fresh_things, mG_freshMany_things, mG_figures_things]
  exact hL
theorem MQu_mT (σ : MSt) (s : Int32) (n : Int64) : MQu σ (mT σ s n) := by
  unfold MQu MFr mT
  simp only [mG_thrown_sorts, mG_tape_sorts, mG_taped_sorts, mG_depth_sorts, mG_room_sorts, mG_written_sorts, mG_writtenMany_sorts, mG_errorPlace_sorts, mG_sorts_sorts, mG_numbers_sorts, mG_places_sorts, mG_things_sorts, mG_letters_sorts, mG_lettersMany_sorts, mG_openThing_sorts, mG_openLeft_sorts, mG_open_sorts, mG_at_sorts, mG_fault_sorts, mG_fresh_sorts, mG_freshMany_sorts, mG_figures_sorts, mG_thrown_numbers, mG_tape_numbers, mG_taped_numbers, mG_depth_numbers, mG_room_numbers, mG_written_numbers, mG_writtenMany_numbers, mG_errorPlace_numbers, mG_sorts_numbers, mG_numbers_numbers, mG_places_numbers, mG_things_numbers, mG_letters_numbers, mG_lettersMany_numbers, mG_openThing_numbers, mG_openLeft_numbers, mG_open_numbers, mG_at_numbers, mG_fault_numbers, mG_fresh_numbers, mG_freshMany_numbers, mG_figures_numbers, mG_thrown_places, mG_tape_places, mG_taped_places, mG_depth_places, mG_room_places, mG_written_places, mG_writtenMany_places, mG_errorPlace_places, mG_sorts_places, mG_numbers_places, mG_places_places, mG_things_places, mG_letters_places, mG_lettersMany_places, mG_openThing_places, mG_openLeft_places, mG_open_places, mG_at_places, mG_fault_places, mG_fresh_places, mG_freshMany_places, mG_figures_places, mG_thrown_things, mG_tape_things, mG_taped_things, mG_depth_things, mG_room_things, mG_written_things, mG_writtenMany_things, mG_errorPlace_things, mG_sorts_things, mG_numbers_things, mG_places_things, mG_things_things, mG_letters_things, mG_lettersMany_things, mG_openThing_things, mG_openLeft_things, mG_open_things, mG_at_things, mG_fault_things, mG_fresh_things, mG_freshMany_things, mG_figures_things, and_self]
theorem at_mT (σ : MSt) (s : Int32) (n : Int64) : mf_at (mT σ s n) = mf_at σ := by
  unfold mT
  simp only [mG_thrown_sorts, mG_tape_sorts, mG_taped_sorts, mG_depth_sorts, mG_room_sorts, mG_written_sorts, mG_writtenMany_sorts, mG_errorPlace_sorts, mG_sorts_sorts, mG_numbers_sorts, mG_places_sorts, mG_things_sorts, mG_letters_sorts, mG_lettersMany_sorts, mG_openThing_sorts, mG_openLeft_sorts, mG_open_sorts, mG_at_sorts, mG_fault_sorts, mG_fresh_sorts, mG_freshMany_sorts, mG_figures_sorts, mG_thrown_numbers, mG_tape_numbers, mG_taped_numbers, mG_depth_numbers, mG_room_numbers, mG_written_numbers, mG_writtenMany_numbers, mG_errorPlace_numbers, mG_sorts_numbers, mG_numbers_numbers, mG_places_numbers, mG_things_numbers, mG_letters_numbers, mG_lettersMany_numbers, mG_openThing_numbers, mG_openLeft_numbers, mG_open_numbers, mG_at_numbers, mG_fault_numbers, mG_fresh_numbers, mG_freshMany_numbers, mG_figures_numbers, mG_thrown_places, mG_tape_places, mG_taped_places, mG_depth_places, mG_room_places, mG_written_places, mG_writtenMany_places, mG_errorPlace_places, mG_sorts_places, mG_numbers_places, mG_places_places, mG_things_places, mG_letters_places, mG_lettersMany_places, mG_openThing_places, mG_openLeft_places, mG_open_places, mG_at_places, mG_fault_places, mG_fresh_places, mG_freshMany_places, mG_figures_places, mG_thrown_things, mG_tape_things, mG_taped_things, mG_depth_things, mG_room_things, mG_written_things, mG_writtenMany_things, mG_errorPlace_things, mG_sorts_things, mG_numbers_things, mG_places_things, mG_things_things, mG_letters_things, mG_lettersMany_things, mG_openThing_things, mG_openLeft_things, mG_open_things, mG_at_things, mG_fault_things, mG_fresh_things, mG_freshMany_things, mG_figures_things]
theorem fault_mT (σ : MSt) (s : Int32) (n : Int64) : mf_fault (mT σ s n) = mf_fault σ := by
  unfold mT
  simp only [mG_thrown_sorts, mG_tape_sorts, mG_taped_sorts, mG_depth_sorts, mG_room_sorts, mG_written_sorts, mG_writtenMany_sorts, mG_errorPlace_sorts, mG_sorts_sorts, mG_numbers_sorts, mG_places_sorts, mG_things_sorts, mG_letters_sorts, mG_lettersMany_sorts, mG_openThing_sorts, mG_openLeft_sorts, mG_open_sorts, mG_at_sorts, mG_fault_sorts, mG_fresh_sorts, mG_freshMany_sorts, mG_figures_sorts, mG_thrown_numbers, mG_tape_numbers, mG_taped_numbers, mG_depth_numbers, mG_room_numbers, mG_written_numbers, mG_writtenMany_numbers, mG_errorPlace_numbers, mG_sorts_numbers, mG_numbers_numbers, mG_places_numbers, mG_things_numbers, mG_letters_numbers, mG_lettersMany_numbers, mG_openThing_numbers, mG_openLeft_numbers, mG_open_numbers, mG_at_numbers, mG_fault_numbers, mG_fresh_numbers, mG_freshMany_numbers, mG_figures_numbers, mG_thrown_places, mG_tape_places, mG_taped_places, mG_depth_places, mG_room_places, mG_written_places, mG_writtenMany_places, mG_errorPlace_places, mG_sorts_places, mG_numbers_places, mG_places_places, mG_things_places, mG_letters_places, mG_lettersMany_places, mG_openThing_places, mG_openLeft_places, mG_open_places, mG_at_places, mG_fault_places, mG_fresh_places, mG_freshMany_places, mG_figures_places, mG_thrown_things, mG_tape_things, mG_taped_things, mG_depth_things, mG_room_things, mG_written_things, mG_writtenMany_things, mG_errorPlace_things, mG_sorts_things, mG_numbers_things, mG_places_things, mG_things_things, mG_letters_things, mG_lettersMany_things, mG_openThing_things, mG_openLeft_things, mG_open_things, mG_at_things, mG_fault_things, mG_fresh_things, mG_freshMany_things, mG_figures_things]
/-- the things of a row, their letters from l on -/
def thL : Nat → List Tok → List Th
  | _, [] => []
  | l, x :: ts => (x.1, x.2.1, l) :: thL (l + x.2.2.length) ts
theorem thL_len : ∀ (ts : List Tok) (l : Nat), (thL l ts).length = ts.length := by
  intro ts
  induction ts with
  | nil => intro l; rfl
  | cons x ts ih => intro l; show (thL _ ts).length + 1 = _; rw [ih]; rfl
theorem thL_app : ∀ (a b : List Tok) (l : Nat), thL l (a ++ b) = thL l a ++ thL (l + (ltL a).length) b := by
  intro a
  induction a with
  | nil => intro b l; rfl
  | cons x a ih =>
    intro b l
    show (x.1, x.2.1, l) :: thL _ (a ++ b) = (x.1, x.2.1, l) :: (thL _ a ++ thL _ b)
    rw [ih]
    show _ = (x.1, x.2.1, l) :: (thL _ a ++ thL (l + (x.2.2 ++ ltL a).length) b)
    rw [List.length_append, Nat.add_assoc]
/-- what reading a scalar comes to in the reference -/
def MSc (σ : MSt) (T : List Th) (L : List Nat) (r : Rd (List Tok × Nat)) (x : Option (Bool × MSt)) : Prop := match r with
  | .inl kq => MBad σ kq.1 kq.2 x
  | .inr y => ∃ σ', x = some (true, σ') ∧ MQu σ σ' ∧ MR σ' y.2 (T ++ thL L.length y.1) (L ++ ltL y.1)
section SCM
variable {t : List Nat} {σ : MSt} {p : Nat} {T : List Th} {L : List Nat}
theorem m_string (hT : TpM σ t) (h : MR σ p T L) (hp : p < t.length) (hTl : T.length ≤ p) (hLl : L.length ≤ p) : MSc σ T L (mapR (fun y => ([(3, y.1.length, y.1)], y.2)) (sStr t p)) (mm_string σ) := by
  have hle := hT.2.1
  obtain ⟨h1, h2, h3, h4⟩ := h
  unfold mm_string
  rw [bd_of (thing_eq _ _ (by rw [h3.1]; exact vp_in_nI (by omega) (by decide))), h3.1]
  simp only []
  rw [at_mT, h1, nI_1, nI_1, show nI (T.length + 1) - 1 = nI T.length from pk_sub (b := 1) (by omega)]
  obtain ⟨σ1, e1⟩ : ∃ σ1, σ1 = ms_at (mT σ (3 : Int32) (0 : Int64)) (nI (p + 1)) := ⟨_, rfl⟩
  rw [← e1]
  have H1 : MTh σ1 (T ++ [(3, 0, L.length)]) := by rw [e1]; exact (MTh_mT h3 h4 (by omega) 3 0).lq (MLq.at _ _)
  have L1 : MLt σ1 L := by rw [e1]; exact (MLt_mT h4 3 0).at _
  have Q1 : MQu σ σ1 := by rw [e1]; exact (MQu_mT σ 3 0).trans (MLq.at _ _).1
  have A1 : mf_at σ1 = nI (p + 1) := by rw [e1, mG_at_at]
  have F1 : mf_fault σ1 = 0 := by rw [e1, mG_fault_at, fault_mT]; exact h2
  have pl : mf_places σ1 T.length = nI L.length := by
    have := (H1.2 T.length (by rw [List.length_append, List.length_singleton]; omega)).2.2
    rw [gT_mid] at this
    exact this
  have r := m_str_loop (t := t) (b := T.length) (l0 := L.length) (by omega) 4002 FU σ1 (p + 1) L (by omega) (by decide) (by omega) (hT.fr Q1.1) F1 A1 L1 (by omega) pl (Nat.le_refl _)
  show MSc σ T L (mapR _ (sStrF t 4002 (p + 1))) _
  cases hr : sStrF t 4002 (p + 1) with
  | inl kq =>
    rw [hr] at r
    exact MBad.fr Q1.1 r
  | inr y =>
    obtain ⟨bs, q⟩ := y
    rw [hr] at r
    obtain ⟨σ2, e2, q2, l2⟩ := r
    rw [e2]
    refine ⟨_, rfl, ?_, ?_, ?_, ?_, ?_⟩
    · refine (Q1.trans q2.1).trans ?_
      unfold MQu MFr
      simp only [mG_thrown_numbers, mG_tape_numbers, mG_taped_numbers, mG_depth_numbers, mG_room_numbers, mG_written_numbers, mG_writtenMany_numbers, mG_errorPlace_numbers, mG_sorts_numbers, mG_numbers_numbers, mG_places_numbers, mG_things_numbers, mG_letters_numbers, mG_lettersMany_numbers, mG_openThing_numbers, mG_openLeft_numbers, mG_open_numbers, mG_at_numbers, mG_fault_numbers, mG_fresh_numbers, mG_freshMany_numbers, mG_figures_numbers, mG_thrown_at, mG_tape_at, mG_taped_at, mG_depth_at, mG_room_at, mG_written_at, mG_writtenMany_at, mG_errorPlace_at, mG_sorts_at, mG_numbers_at, mG_places_at, mG_things_at, mG_letters_at, mG_lettersMany_at, mG_openThing_at, mG_openLeft_at, mG_open_at, mG_at_at, mG_fault_at, mG_fresh_at, mG_freshMany_at, mG_figures_at, and_self]
    · simp only [mG_thrown_numbers, mG_tape_numbers, mG_taped_numbers, mG_depth_numbers, mG_room_numbers, mG_written_numbers, mG_writtenMany_numbers, mG_errorPlace_numbers, mG_sorts_numbers, mG_numbers_numbers, mG_places_numbers, mG_things_numbers, mG_letters_numbers, mG_lettersMany_numbers, mG_openThing_numbers, mG_openLeft_numbers, mG_open_numbers, mG_at_numbers, mG_fault_numbers, mG_fresh_numbers, mG_freshMany_numbers, mG_figures_numbers, mG_thrown_at, mG_tape_at, mG_taped_at, mG_depth_at, mG_room_at, mG_written_at, mG_writtenMany_at, mG_errorPlace_at, mG_sorts_at, mG_numbers_at, mG_places_at, mG_things_at, mG_letters_at, mG_lettersMany_at, mG_openThing_at, mG_openLeft_at, mG_open_at, mG_at_at, mG_fault_at, mG_fresh_at, mG_freshMany_at, mG_figures_at]
    · simp only [mG_thrown_numbers, mG_tape_numbers, mG_taped_numbers, mG_depth_numbers, mG_room_numbers, mG_written_numbers, mG_writtenMany_numbers, mG_errorPlace_numbers, mG_sorts_numbers, mG_numbers_numbers, mG_places_numbers, mG_things_numbers, mG_letters_numbers, mG_lettersMany_numbers, mG_openThing_numbers, mG_openLeft_numbers, mG_open_numbers, mG_at_numbers, mG_fault_numbers, mG_fresh_numbers, mG_freshMany_numbers, mG_figures_numbers, mG_thrown_at, mG_tape_at, mG_taped_at, mG_depth_at, mG_room_at, mG_written_at, mG_writtenMany_at, mG_errorPlace_at, mG_sorts_at, mG_numbers_at, mG_places_at, mG_things_at, mG_letters_at, mG_lettersMany_at, mG_openThing_at, mG_openLeft_at, mG_open_at, mG_at_at, mG_fault_at, mG_fresh_at, mG_freshMany_at, mG_figures_at]
      exact q2.2.1.trans F1
    · have H2 := H1.lq q2
      unfold MTh
      simp only [mG_thrown_numbers, mG_tape_numbers, mG_taped_numbers, mG_depth_numbers, mG_room_numbers, mG_written_numbers, mG_writtenMany_numbers, mG_errorPlace_numbers, mG_sorts_numbers, mG_numbers_numbers, mG_places_numbers, mG_things_numbers, mG_letters_numbers, mG_lettersMany_numbers, mG_openThing_numbers, mG_openLeft_numbers, mG_open_numbers, mG_at_numbers, mG_fault_numbers, mG_fresh_numbers, mG_freshMany_numbers, mG_figures_numbers, mG_thrown_at, mG_tape_at, mG_taped_at, mG_depth_at, mG_room_at, mG_written_at, mG_writtenMany_at, mG_errorPlace_at, mG_sorts_at, mG_numbers_at, mG_places_at, mG_things_at, mG_letters_at, mG_lettersMany_at, mG_openThing_at, mG_openLeft_at, mG_open_at, mG_at_at, mG_fault_at, mG_fresh_at, mG_freshMany_at, mG_figures_at]
      refine ⟨?_, ?_⟩
      · rw [H2.1, List.length_append]
        show _ = nI (T ++ [(3, bs.length, L.length)]).length
        rw [List.length_append]
        rfl
      · intro i hi
        have hi2 : i < (T ++ [((3 : Nat), (0 : Nat), L.length)]).length := by
          have : i < (T ++ [((3 : Nat), bs.length, L.length)]).length := hi
          rw [List.length_append, List.length_singleton] at this ⊢
          exact this
        have g := H2.2 i hi2
        show mf_sorts σ2 i = nI (gT (T ++ [(3, bs.length, L.length)]) i).1 ∧ _ = lN (gT (T ++ [(3, bs.length, L.length)]) i).2.1 ∧ mf_places σ2 i = nI (gT (T ++ [(3, bs.length, L.length)]) i).2.2
        by_cases e : i = T.length
        · subst e
          rw [gT_mid] at g ⊢
          rw [pk_uLs, show L.length + bs.length - L.length = bs.length by omega]
          exact ⟨g.1, rfl, g.2.2⟩
        · rw [pk_uLn e, ← q2.2.2.2.2.1, gT_ne (y := (3, 0, L.length)) e]
          exact g
    · unfold MLt
      simp only [mG_thrown_numbers, mG_tape_numbers, mG_taped_numbers, mG_depth_numbers, mG_room_numbers, mG_written_numbers, mG_writtenMany_numbers, mG_errorPlace_numbers, mG_sorts_numbers, mG_numbers_numbers, mG_places_numbers, mG_things_numbers, mG_letters_numbers, mG_lettersMany_numbers, mG_openThing_numbers, mG_openLeft_numbers, mG_open_numbers, mG_at_numbers, mG_fault_numbers, mG_fresh_numbers, mG_freshMany_numbers, mG_figures_numbers, mG_thrown_at, mG_tape_at, mG_taped_at, mG_depth_at, mG_room_at, mG_written_at, mG_writtenMany_at, mG_errorPlace_at, mG_sorts_at, mG_numbers_at, mG_places_at, mG_things_at, mG_letters_at, mG_lettersMany_at, mG_openThing_at, mG_openLeft_at, mG_open_at, mG_at_at, mG_fault_at, mG_fresh_at, mG_freshMany_at, mG_figures_at]
      show MLt σ2 (L ++ (bs ++ []))
      rw [List.append_nil]
      exact l2
theorem m_word_loop {sI w : Nat} (hs : sI < 3) (hw : w < 256) : ∀ (m k f : Nat) (σ : MSt), k + m = sLn sI → m < f → p + k ≤ t.length → TpM σ t → MR σ (p + k) T L → T.length < 4200 → MSc σ T L (mapR (fun q => ([(7, w, [])], q)) (sWdm t sI p m k)) (mm_word_L2 sI f (nI w) (nI k) σ) := by
  have hc := word_ch sI hs
  intro m
  induction m with
  | zero =>
    intro k f σ hk hf hpk hT h hTl
    obtain ⟨f, rfl⟩ : ∃ g, f = g + 1 := ⟨f - 1, by omega⟩
    obtain ⟨h1, h2, h3, h4⟩ := h
    show MSc σ T L _ (mm_word_b2 sI _ _ _ σ)
    unfold mm_word_b2
    rw [hc.2.1, if_pos (nI_le (by omega) (by omega)), nI_l (by omega), bd_of (thing_eq _ _ (by rw [h3.1]; exact vp_in_nI hTl (by decide)))]
    refine ⟨_, rfl, MQu_mT _ _ _, by rw [at_mT]; exact h1, by rw [fault_mT]; exact h2, MTh_mT h3 h4 hTl 7 w, ?_⟩
    show MLt _ (L ++ ([] ++ []))
    rw [List.append_nil, List.append_nil]
    exact MLt_mT h4 _ _
  | succ m ih =>
    intro k f σ hk hf hpk hT h hTl
    obtain ⟨f, rfl⟩ : ∃ g, f = g + 1 := ⟨f - 1, by omega⟩
    obtain ⟨h1, h2, h3, h4⟩ := id h
    have hle := hT.2.1
    show MSc σ T L _ (mm_word_b2 sI (mm_word_L2 sI f) _ _ σ)
    unfold mm_word_b2 sWdm
    rw [hc.2.1, if_neg (nI_ge (by omega) (by omega)), bd_of (here_eq hT (by omega) h1), ck_in (vp_in_nI (by omega) (by omega))]
    simp only [lt]
    by_cases c : gL t (p + k) = sCh sI (nI k)
    · have g := hc.2.2 k (by omega)
      have := gL_lit g.1 g.2 c
      rw [if_pos c, if_pos c, nI_1, h1, nI_1]
      have r := ih (k + 1) f (ms_at σ (nI (p + (k + 1)))) (by omega) (by omega) (by omega) (hT.at _) ⟨by rw [mG_at_at], by rw [mG_fault_at]; exact h2, h3.lq (MLq.at _ _), h4.at _⟩ hTl
      cases hr : sWdm t sI p m (k + 1) with
      | inl kq =>
        rw [hr] at r
        exact MBad.fr (MFr_at σ _) r
      | inr q =>
        rw [hr] at r
        obtain ⟨σ2, e2, q2, g2⟩ := r
        exact ⟨σ2, e2, (MLq.at σ _).1.trans q2, g2⟩
    · rw [if_neg c, if_neg c, bd_of (stuck_eq h2), h1]
      exact MBad.of (k := 1) (MFr_rfl σ) rfl
theorem m_word {sI w : Nat} (hs : sI < 3) (hw : w < 256) (hT : TpM σ t) (h : MR σ p T L) (hp : p ≤ t.length) (hTl : T.length < 4200) : MSc σ T L (mapR (fun q => ([(7, w, [])], q)) (sWd t sI p)) (mm_word sI (nI w) σ) := by
  have := (word_ch sI hs).1
  exact m_word_loop hs hw (sLn sI) 0 FU σ (by omega) (by show _ < 100000; omega) hp hT h hTl
theorem m_num (hT : TpM σ t) (h : MR σ p T L) (hp : p ≤ t.length) (hTl : T.length < 4200) : MSc σ T L (mapR (fun y => ([(y.1.1, y.1.2, [])], y.2)) (sNum t p)) (mm_number σ) := by
  obtain ⟨h1, h2, h3, h4⟩ := h
  have r := m_number hT h2 (by rw [h3.1]; exact vp_in_nI hTl (by decide)) hp h1
  cases hr : sNum t p with
  | inl kq =>
    rw [hr] at r
    exact r
  | inr y =>
    rw [hr] at r
    rw [show mm_number σ = _ from r]
    refine ⟨_, rfl, (MLq.at σ _).1.trans (MQu_mT _ _ _), by rw [at_mT, mG_at_at], by rw [fault_mT, mG_fault_at]; exact h2, MTh_mT (h3.lq (MLq.at _ _)) (h4.at _) hTl _ _, ?_⟩
    show MLt _ (L ++ ([] ++ []))
    rw [List.append_nil, List.append_nil]
    exact MLt_mT (h4.at _) _ _
theorem m_sca (hT : TpM σ t) (h : MR σ p T L) (hp : p ≤ t.length) (hTl : T.length ≤ p) (hLl : L.length ≤ p) (c2 : ¬ gL t p = 91) (c3 : ¬ gL t p = 123) : MSc σ T L (sSca t p) (mm_value σ) := by
  have hle := hT.2.1
  unfold mm_value sSca
  rw [bd_of (here_eq hT (by omega) h.1)]
  simp only [bd_eta]
  by_cases c1 : gL t p = 34
  · rw [if_pos c1, if_pos c1]
    exact m_string hT h (gL_lit (v := 34) (by decide) rfl c1) hTl hLl
  rw [if_neg c1, if_neg c1, if_neg c2, if_neg c3]
  by_cases c4 : gL t p = 102
  · rw [if_pos c4, if_pos c4]
    exact m_word (sI := 0) (w := 20) (by decide) (by decide) hT h hp (by omega)
  rw [if_neg c4, if_neg c4]
  by_cases c5 : gL t p = 116
  · rw [if_pos c5, if_pos c5]
    exact m_word (sI := 1) (w := 21) (by decide) (by decide) hT h hp (by omega)
  rw [if_neg c5, if_neg c5]
  by_cases c6 : gL t p = 110
  · rw [if_pos c6, if_pos c6]
    exact m_word (sI := 2) (w := 22) (by decide) (by decide) hT h hp (by omega)
  rw [if_neg c6, if_neg c6]
  have num : MSc σ T L (mapR (fun y => ([(y.1.1, y.1.2, [])], y.2)) (sNum t p)) (mm_value_b99 σ) := by
    unfold mm_value_b99
    rw [bd_eta]
    exact m_num hT h hp (by omega)
  by_cases c7 : gL t p = 45
  · rw [if_pos c7, if_pos (Or.inl c7)]
    exact num
  rw [if_neg c7, bd_of (mm_isDigit_eq _ _)]
  simp only []
  by_cases c8 : isDg (gL t p) = true
  · rw [if_pos c8, if_pos (Or.inr c8)]
    exact num
  · rw [if_neg c8, if_neg (fun z => z.elim c7 c8), stuck_eq h.2.1, h.1]
    exact MBad.of (k := 1) (MFr_rfl σ) rfl
end SCM
