/-! PURE HH: toJson of the class -/
theorem hFt_k (ty a : Nat) (key : Bool) : hFt ty a key ≤ 6 := by
  unfold hFt
  repeat' split
  all_goals omega
theorem sHd_k (t : List Nat) (key : Bool) (p : Nat) : kOk (sHd t key p) := by
  unfold sHd
  split
  · exact kOk.lit (by decide)
  split
  · rename_i c
    exact kOk.lit ⟨by omega, hFt_k _ _ _⟩
  split
  · exact kOk.lit (by decide)
  split
  · exact kOk.ok
  split
  · exact kOk.ok
  · exact kOk.lit (by decide)
theorem sTk_k (t : List Nat) (key : Bool) (d p : Nat) : kOk (sTk t key d p) := by
  unfold sTk
  cases hh : sHd t key p with
  | inl k => exact fun kq e => sHd_k t key p kq (hh.trans (congrArg Sum.inl (Sum.inl.inj e)))
  | inr y =>
    simp only []
    split
    · exact kOk.lit (by decide)
    split
    · unfold sTx
      split
      · rename_i h
        split at h
        · rw [← Sum.inl.inj h]; exact kOk.lit (by decide)
        · split at h
          · rw [← Sum.inl.inj h]; exact kOk.lit (by decide)
          · cases h
      · exact kOk.ok
    · exact kOk.ok
theorem sKy_k (t : List Nat) (isMap : Bool) (d p : Nat) : kOk (sKy t isMap d p) := by
  cases isMap with
  | false => exact kOk.ok
  | true =>
    cases hk : sTk t true d p with
    | inl k => rw [sKy_l hk]; exact fun kq e => sTk_k t true d p kq (hk.trans (congrArg Sum.inl (Sum.inl.inj e)))
    | inr y =>
      obtain ⟨x, q⟩ := y
      rw [sKy_t hk]
      exact kOk.ok
theorem sIts_kk {t : List Nat} {item : Nat → Rd ((List Tok × List Nat) × Nat)} {d : Nat} {isMap : Bool} (hv : ∀ p, kOk (item p)) : ∀ n fst p, kOk (sIts t item d isMap n fst p) := by
  intro n
  induction n with
  | zero => intro fst p; exact kOk.ok
  | succ n ih =>
    intro fst p
    cases hk : sKy t isMap d p with
    | inl k => rw [sIts_k hk]; exact fun kq e => sKy_k t isMap d p kq (hk.trans (congrArg Sum.inl (Sum.inl.inj e)))
    | inr kp =>
      obtain ⟨⟨ks, kj⟩, p1⟩ := kp
      cases hi : item p1 with
      | inl k => rw [sIts_v hk hi]; exact fun kq e => hv p1 kq (hi.trans (congrArg Sum.inl (Sum.inl.inj e)))
      | inr vp =>
        obtain ⟨⟨vs, vj⟩, p2⟩ := vp
        cases hr : sIts t item d isMap n false p2 with
        | inl k => rw [sIts_r hk hi hr]; exact fun kq e => ih false p2 kq (hr.trans (congrArg Sum.inl (Sum.inl.inj e)))
        | inr y =>
          obtain ⟨⟨ys, yj⟩, q⟩ := y
          rw [sIts_o hk hi hr]
          exact kOk.ok
theorem sIt_k {t : List Nat} (ht : ∀ x ∈ t, x < 256) : ∀ d p, kOk (sIt t d p) := by
  have hl : ∀ d p k, sTk t false d p = .inl k → kOk (sIt t d p) := by
    intro d p k hk
    rw [sIt_l hk]
    exact fun kq e => sTk_k t false d p kq (hk.trans (congrArg Sum.inl (Sum.inl.inj e)))
  intro d
  induction d with
  | zero =>
    intro p
    cases hk : sTk t false 0 p with
    | inl k => exact hl 0 p k hk
    | inr y =>
      obtain ⟨x, q0⟩ := y
      have b5 := (sTk_bd ht hk).2.2.2.2.1
      rw [sIt_s hk (fun z => b5 (Or.inl z) rfl) (fun z => b5 (Or.inr z) rfl)]
      exact kOk.ok
  | succ d ih =>
    intro p
    cases hk : sTk t false (d + 1) p with
    | inl k => exact hl (d + 1) p k hk
    | inr y =>
      obtain ⟨x, q0⟩ := y
      by_cases c : x.1 = 4 ∨ x.1 = 5
      · obtain ⟨isMap, e⟩ := srt_of c
        obtain ⟨ty, v, ls⟩ := x
        have e' : ty = srt isMap := e
        subst e'
        rw [sIt_b hk]
        unfold sBx
        cases hr : sIts t (sIt t d) d isMap v true q0 with
        | inl k => exact fun kq e => sIts_kk ih v true q0 kq (hr.trans (congrArg Sum.inl (Sum.inl.inj e)))
        | inr z => exact kOk.ok
      · rw [sIt_s hk (fun z => c (Or.inl z)) (fun z => c (Or.inr z))]
        exact kOk.ok
theorem c2k_bad {d k q : Nat} {τ1 : TSt} (hk : 1 ≤ k ∧ k ≤ 6) : tt_c2k d τ1 (nI k, nI q) = some (-(nI k), ts_faultPlace τ1 (nI q)) := by
  unfold tt_c2k
  exact if_neg (nI_ne0 (by omega) (by omega))
theorem c2k_ok {d : Nat} {τ1 : TSt} : tt_c2k d τ1 ((0 : Int32), (-1 : Int32)) = tt_c3k d (ts_faultPlace τ1 (-1 : Int32)) := by
  unfold tt_c2k
  exact if_pos rfl
/-- the second reading writes -/
theorem c3k_ok {υ : TSt} {t wr : List Nat} {d q : Nat} {ts : List Tok} {js : List Nat} (hT : TpR (tf_tape υ) t) (hw : RowL 6000 (tf_written υ) wr) (hwl : wr.length ≤ 6000) (hd : tf_depth υ = nI d) (hd40 : d ≤ 40) (hr : sIt t d 0 = .inr ((ts, js), q)) : ∃ υ', tt_c3k 42 υ = some (nI js.length, υ') ∧ RowL 6000 (tf_written υ') js ∧ (tf_depth υ' = tf_depth υ ∧ tf_room υ' = tf_room υ ∧ tf_tape υ' = tf_tape υ) ∧ tf_measure υ' = tf_measure υ ∧ tf_faultPlace υ' = tf_faultPlace υ := by
  have hle := hT.2
  have ht := hT.1.2.2
  obtain ⟨e1, g1⟩ := rr_cut_row hw (by omega) (n := 0) (Nat.zero_le _)
  rw [List.take_zero] at g1
  unfold tt_c3k
  rw [bd_of (show rr_cutTo 6000 (0 : Int32) (tf_written υ) = some (rs_sz (tf_written υ) (nI 0)) from e1)]
  obtain ⟨w, ew⟩ : ∃ w, w = rs_sz (tf_written υ) (nI 0) := ⟨_, rfl⟩
  rw [← ew] at g1 ⊢
  obtain ⟨σ0, e0⟩ : ∃ σ0, σ0 = kS2 (ts_written υ w) (tf_depth υ, (0 : Int32), (0 : Int32), (-1 : Int32), (0 : Int32), (0 : Int64)) := ⟨_, rfl⟩
  have t0 : kf_tape σ0 = tf_tape υ := by rw [e0]; rfl
  have hv := k_item hd40 ht hle d 42 0 (by omega) (by omega) σ0 0 [] (by rw [t0]; exact hT) (by rw [e0]; exact hd) (by rw [e0]; rfl) (Nat.zero_le _) (by rw [e0]; exact g1) (by show 0 + _ ≤ _; omega)
  rw [← e0]
  rw [hr] at hv
  obtain ⟨Y, ex, Q1, P1', g2⟩ := hv
  have g3 : RowL 6000 (kf_target Y) js := g2
  have q1 : kf_tape Y = tf_tape υ := by rw [Q1.1.1, t0]
  rw [bd_of (show kk_readItem 6000 42 (0 : Int32) σ0 = some (true, Y) from ex)]
  have a1 : tf_written (kT2 (ts_written υ w) Y) = kf_target Y := by
    unfold kT2
    simp only [tG_depth_depth, tG_depth_room, tG_depth_faultPlace, tG_depth_tape, tG_depth_written, tG_depth_measure, tG_room_depth, tG_room_room, tG_room_faultPlace, tG_room_tape, tG_room_written, tG_room_measure, tG_faultPlace_depth, tG_faultPlace_room, tG_faultPlace_faultPlace, tG_faultPlace_tape, tG_faultPlace_written, tG_faultPlace_measure, tG_tape_depth, tG_tape_room, tG_tape_faultPlace, tG_tape_tape, tG_tape_written, tG_tape_measure, tG_written_depth, tG_written_room, tG_written_faultPlace, tG_written_tape, tG_written_written, tG_written_measure, tG_measure_depth, tG_measure_room, tG_measure_faultPlace, tG_measure_tape, tG_measure_written, tG_measure_measure]
  refine ⟨kT2 (ts_written υ w) Y, ?_, ?_, ⟨?_, ?_, ?_⟩, ?_, ?_⟩
  · show some (rf_sz (tf_written (kT2 (ts_written υ w) Y)), kT2 (ts_written υ w) Y) = _
    rw [a1, g3.1]
  · rw [a1]; exact g3
  · unfold kT2; simp only [tG_depth_depth, tG_depth_room, tG_depth_faultPlace, tG_depth_tape, tG_depth_written, tG_depth_measure, tG_room_depth, tG_room_room, tG_room_faultPlace, tG_room_tape, tG_room_written, tG_room_measure, tG_faultPlace_depth, tG_faultPlace_room, tG_faultPlace_faultPlace, tG_faultPlace_tape, tG_faultPlace_written, tG_faultPlace_measure, tG_tape_depth, tG_tape_room, tG_tape_faultPlace, tG_tape_tape, tG_tape_written, tG_tape_measure, tG_written_depth, tG_written_room, tG_written_faultPlace, tG_written_tape, tG_written_written, tG_written_measure, tG_measure_depth, tG_measure_room, tG_measure_faultPlace, tG_measure_tape, tG_measure_written, tG_measure_measure]
  · unfold kT2; simp only [tG_depth_depth, tG_depth_room, tG_depth_faultPlace, tG_depth_tape, tG_depth_written, tG_depth_measure, tG_room_depth, tG_room_room, tG_room_faultPlace, tG_room_tape, tG_room_written, tG_room_measure, tG_faultPlace_depth, tG_faultPlace_room, tG_faultPlace_faultPlace, tG_faultPlace_tape, tG_faultPlace_written, tG_faultPlace_measure, tG_tape_depth, tG_tape_room, tG_tape_faultPlace, tG_tape_tape, tG_tape_written, tG_tape_measure, tG_written_depth, tG_written_room, tG_written_faultPlace, tG_written_tape, tG_written_written, tG_written_measure, tG_measure_depth, tG_measure_room, tG_measure_faultPlace, tG_measure_tape, tG_measure_written, tG_measure_measure]
  · unfold kT2; simp only [tG_depth_depth, tG_depth_room, tG_depth_faultPlace, tG_depth_tape, tG_depth_written, tG_depth_measure, tG_room_depth, tG_room_room, tG_room_faultPlace, tG_room_tape, tG_room_written, tG_room_measure, tG_faultPlace_depth, tG_faultPlace_room, tG_faultPlace_faultPlace, tG_faultPlace_tape, tG_faultPlace_written, tG_faultPlace_measure, tG_tape_depth, tG_tape_room, tG_tape_faultPlace, tG_tape_tape, tG_tape_written, tG_tape_measure, tG_written_depth, tG_written_room, tG_written_faultPlace, tG_written_tape, tG_written_written, tG_written_measure, tG_measure_depth, tG_measure_room, tG_measure_faultPlace, tG_measure_tape, tG_measure_written, tG_measure_measure]; exact q1
  · unfold kT2; simp only [tG_depth_depth, tG_depth_room, tG_depth_faultPlace, tG_depth_tape, tG_depth_written, tG_depth_measure, tG_room_depth, tG_room_room, tG_room_faultPlace, tG_room_tape, tG_room_written, tG_room_measure, tG_faultPlace_depth, tG_faultPlace_room, tG_faultPlace_faultPlace, tG_faultPlace_tape, tG_faultPlace_written, tG_faultPlace_measure, tG_tape_depth, tG_tape_room, tG_tape_faultPlace, tG_tape_tape, tG_tape_written, tG_tape_measure, tG_written_depth, tG_written_room, tG_written_faultPlace, tG_written_tape, tG_written_written, tG_written_measure, tG_measure_depth, tG_measure_room, tG_measure_faultPlace, tG_measure_tape, tG_measure_written, tG_measure_measure]
  · unfold kT2; simp only [tG_depth_depth, tG_depth_room, tG_depth_faultPlace, tG_depth_tape, tG_depth_written, tG_depth_measure, tG_room_depth, tG_room_room, tG_room_faultPlace, tG_room_tape, tG_room_written, tG_room_measure, tG_faultPlace_depth, tG_faultPlace_room, tG_faultPlace_faultPlace, tG_faultPlace_tape, tG_faultPlace_written, tG_faultPlace_measure, tG_tape_depth, tG_tape_room, tG_tape_faultPlace, tG_tape_tape, tG_tape_written, tG_tape_measure, tG_written_depth, tG_written_room, tG_written_faultPlace, tG_written_tape, tG_written_written, tG_written_measure, tG_measure_depth, tG_measure_room, tG_measure_faultPlace, tG_measure_tape, tG_measure_written, tG_measure_measure]
theorem t_goodK {τ τ1 : TSt} {t wr : List Nat} {d rm q : Nat} {ts : List Tok} {js : List Nat} (hT : TpR (tf_tape τ) t) (hw : RowL 6000 (tf_written τ) wr) (hwl : wr.length ≤ 6000) (hd : tf_depth τ = nI d) (hd40 : d ≤ 40) (hrm : tf_room τ = nI rm) (hrm6 : rm ≤ 6000) (h1 : tf_depth τ1 = tf_depth τ ∧ tf_room τ1 = tf_room τ ∧ tf_tape τ1 = tf_tape τ) (h2 : tf_written τ1 = tf_written τ) (hR : RowL 0 (tf_measure τ1) js) (ho : js.length ≤ 100000) (hr : sIt t d 0 = .inr ((ts, js), q)) : ∃ r τ', tt_c2k 42 τ1 (rf1 (1 : Int32) τ1 (0 : Int32) (-1 : Int32)) = some (r, τ') ∧ TOut τ (if js.length ≤ rm then .inr js else .inl (5, t.length)) r τ' := by
  have hle := hT.2
  unfold rf1
  rw [if_neg (show ¬ (1 : Int32) = 0 by decide), hR.1, h1.2.1, hrm]
  by_cases c : js.length ≤ rm
  · rw [if_pos c, if_pos (nI_le c (by omega)), c2k_ok]
    obtain ⟨υ', f1, f2, f3, f4, f5⟩ := c3k_ok (υ := ts_faultPlace τ1 (-1 : Int32)) (t := t) (wr := wr) (by simp only [tG_depth_depth, tG_depth_room, tG_depth_faultPlace, tG_depth_tape, tG_depth_written, tG_depth_measure, tG_room_depth, tG_room_room, tG_room_faultPlace, tG_room_tape, tG_room_written, tG_room_measure, tG_faultPlace_depth, tG_faultPlace_room, tG_faultPlace_faultPlace, tG_faultPlace_tape, tG_faultPlace_written, tG_faultPlace_measure, tG_tape_depth, tG_tape_room, tG_tape_faultPlace, tG_tape_tape, tG_tape_written, tG_tape_measure, tG_written_depth, tG_written_room, tG_written_faultPlace, tG_written_tape, tG_written_written, tG_written_measure, tG_measure_depth, tG_measure_room, tG_measure_faultPlace, tG_measure_tape, tG_measure_written, tG_measure_measure]; rw [h1.2.2]; exact hT) (by simp only [tG_depth_depth, tG_depth_room, tG_depth_faultPlace, tG_depth_tape, tG_depth_written, tG_depth_measure, tG_room_depth, tG_room_room, tG_room_faultPlace, tG_room_tape, tG_room_written, tG_room_measure, tG_faultPlace_depth, tG_faultPlace_room, tG_faultPlace_faultPlace, tG_faultPlace_tape, tG_faultPlace_written, tG_faultPlace_measure, tG_tape_depth, tG_tape_room, tG_tape_faultPlace, tG_tape_tape, tG_tape_written, tG_tape_measure, tG_written_depth, tG_written_room, tG_written_faultPlace, tG_written_tape, tG_written_written, tG_written_measure, tG_measure_depth, tG_measure_room, tG_measure_faultPlace, tG_measure_tape, tG_measure_written, tG_measure_measure]; rw [h2]; exact hw) hwl (by simp only [tG_depth_depth, tG_depth_room, tG_depth_faultPlace, tG_depth_tape, tG_depth_written, tG_depth_measure, tG_room_depth, tG_room_room, tG_room_faultPlace, tG_room_tape, tG_room_written, tG_room_measure, tG_faultPlace_depth, tG_faultPlace_room, tG_faultPlace_faultPlace, tG_faultPlace_tape, tG_faultPlace_written, tG_faultPlace_measure, tG_tape_depth, tG_tape_room, tG_tape_faultPlace, tG_tape_tape, tG_tape_written, tG_tape_measure, tG_written_depth, tG_written_room, tG_written_faultPlace, tG_written_tape, tG_written_written, tG_written_measure, tG_measure_depth, tG_measure_room, tG_measure_faultPlace, tG_measure_tape, tG_measure_written, tG_measure_measure]; rw [h1.1]; exact hd) hd40 hr
    refine ⟨_, υ', f1, ⟨?_, ?_, ?_⟩, ⟨js, ?_, by omega⟩, rfl, f2, ?_⟩
    · rw [f3.1]; simp only [tG_depth_depth, tG_depth_room, tG_depth_faultPlace, tG_depth_tape, tG_depth_written, tG_depth_measure, tG_room_depth, tG_room_room, tG_room_faultPlace, tG_room_tape, tG_room_written, tG_room_measure, tG_faultPlace_depth, tG_faultPlace_room, tG_faultPlace_faultPlace, tG_faultPlace_tape, tG_faultPlace_written, tG_faultPlace_measure, tG_tape_depth, tG_tape_room, tG_tape_faultPlace, tG_tape_tape, tG_tape_written, tG_tape_measure, tG_written_depth, tG_written_room, tG_written_faultPlace, tG_written_tape, tG_written_written, tG_written_measure, tG_measure_depth, tG_measure_room, tG_measure_faultPlace, tG_measure_tape, tG_measure_written, tG_measure_measure]; exact h1.1
    · rw [f3.2.1]; simp only [tG_depth_depth, tG_depth_room, tG_depth_faultPlace, tG_depth_tape, tG_depth_written, tG_depth_measure, tG_room_depth, tG_room_room, tG_room_faultPlace, tG_room_tape, tG_room_written, tG_room_measure, tG_faultPlace_depth, tG_faultPlace_room, tG_faultPlace_faultPlace, tG_faultPlace_tape, tG_faultPlace_written, tG_faultPlace_measure, tG_tape_depth, tG_tape_room, tG_tape_faultPlace, tG_tape_tape, tG_tape_written, tG_tape_measure, tG_written_depth, tG_written_room, tG_written_faultPlace, tG_written_tape, tG_written_written, tG_written_measure, tG_measure_depth, tG_measure_room, tG_measure_faultPlace, tG_measure_tape, tG_measure_written, tG_measure_measure]; exact h1.2.1
    · rw [f3.2.2]; simp only [tG_depth_depth, tG_depth_room, tG_depth_faultPlace, tG_depth_tape, tG_depth_written, tG_depth_measure, tG_room_depth, tG_room_room, tG_room_faultPlace, tG_room_tape, tG_room_written, tG_room_measure, tG_faultPlace_depth, tG_faultPlace_room, tG_faultPlace_faultPlace, tG_faultPlace_tape, tG_faultPlace_written, tG_faultPlace_measure, tG_tape_depth, tG_tape_room, tG_tape_faultPlace, tG_tape_tape, tG_tape_written, tG_tape_measure, tG_written_depth, tG_written_room, tG_written_faultPlace, tG_written_tape, tG_written_written, tG_written_measure, tG_measure_depth, tG_measure_room, tG_measure_faultPlace, tG_measure_tape, tG_measure_written, tG_measure_measure]; exact h1.2.2
    · rw [f4]; simp only [tG_depth_depth, tG_depth_room, tG_depth_faultPlace, tG_depth_tape, tG_depth_written, tG_depth_measure, tG_room_depth, tG_room_room, tG_room_faultPlace, tG_room_tape, tG_room_written, tG_room_measure, tG_faultPlace_depth, tG_faultPlace_room, tG_faultPlace_faultPlace, tG_faultPlace_tape, tG_faultPlace_written, tG_faultPlace_measure, tG_tape_depth, tG_tape_room, tG_tape_faultPlace, tG_tape_tape, tG_tape_written, tG_tape_measure, tG_written_depth, tG_written_room, tG_written_faultPlace, tG_written_tape, tG_written_written, tG_written_measure, tG_measure_depth, tG_measure_room, tG_measure_faultPlace, tG_measure_tape, tG_measure_written, tG_measure_measure]; exact hR
    · rw [f5]; simp only [tG_depth_depth, tG_depth_room, tG_depth_faultPlace, tG_depth_tape, tG_depth_written, tG_depth_measure, tG_room_depth, tG_room_room, tG_room_faultPlace, tG_room_tape, tG_room_written, tG_room_measure, tG_faultPlace_depth, tG_faultPlace_room, tG_faultPlace_faultPlace, tG_faultPlace_tape, tG_faultPlace_written, tG_faultPlace_measure, tG_tape_depth, tG_tape_room, tG_tape_faultPlace, tG_tape_tape, tG_tape_written, tG_tape_measure, tG_written_depth, tG_written_room, tG_written_faultPlace, tG_written_tape, tG_written_written, tG_written_measure, tG_measure_depth, tG_measure_room, tG_measure_faultPlace, tG_measure_tape, tG_measure_written, tG_measure_measure]
  · rw [if_neg c, if_neg (nI_ge (by omega) (by omega)), h1.2.2, hT.1.1]
    exact ⟨_, _, c2k_bad (k := 5) (q := t.length) (by decide), t_bad h1 h2 hR ho⟩
theorem t_toJson {τ : TSt} {t dr wr : List Nat} {d rm : Nat} (hT : TpR (tf_tape τ) t) (hdr : RowL 0 (tf_measure τ) dr) (hdl : dr.length < 2 ^ 30) (hw : RowL 6000 (tf_written τ) wr) (hwl : wr.length ≤ 6000) (hd : tf_depth τ = nI d) (hd40 : d ≤ 40) (hrm : tf_room τ = nI rm) (hrm6 : rm ≤ 6000) : ∃ r τ', tt_toJson 42 τ = some (r, τ') ∧ TOut τ (fin t rm (mapR (fun y => (y.1.2, y.2)) (sIt t d 0))) r τ' := by
  have hle := hT.2
  have ht := hT.1.2.2
  obtain ⟨e1, g1⟩ := rr_cut_row hdr (by omega) (n := 0) (Nat.zero_le _)
  rw [List.take_zero] at g1
  unfold tt_toJson
  rw [bd_of (show rr_cutTo 0 (0 : Int32) (tf_measure τ) = some (rs_sz (tf_measure τ) (nI 0)) from e1)]
  obtain ⟨dr', ed⟩ : ∃ dr', dr' = rs_sz (tf_measure τ) (nI 0) := ⟨_, rfl⟩
  rw [← ed] at g1 ⊢
  obtain ⟨σ0, e0⟩ : ∃ σ0, σ0 = kS (ts_measure τ dr') (tf_depth τ, (0 : Int32), (0 : Int32), (-1 : Int32), (0 : Int32), (0 : Int64)) := ⟨_, rfl⟩
  have t0 : kf_tape σ0 = tf_tape τ := by rw [e0]; rfl
  have k0 : kf_faultKind σ0 = 0 := by rw [e0]; rfl
  have p0 : kf_faultPlace σ0 = -1 := by rw [e0]; rfl
  have hv := z_k_item hd40 ht hle d 42 0 (by omega) (by omega) σ0 0 [] (by rw [t0]; exact hT) (by rw [e0]; exact hd) (by rw [e0]; rfl) (Nat.zero_le _) (by rw [e0]; exact g1) (by show 0 + _ ≤ _; omega)
  rw [← e0]
  have kTe : ∀ (τ0 : TSt) (x : KSt), tf_depth τ0 = tf_depth τ ∧ tf_room τ0 = tf_room τ → tf_written τ0 = tf_written τ → tf_tape τ = kf_tape x → (tf_depth (kT τ0 x) = tf_depth τ ∧ tf_room (kT τ0 x) = tf_room τ ∧ tf_tape (kT τ0 x) = tf_tape τ) ∧ tf_written (kT τ0 x) = tf_written τ ∧ tf_measure (kT τ0 x) = kf_target x := by
    intro τ0 x h1 h2 hx
    unfold kT
    simp only [tG_depth_depth, tG_depth_room, tG_depth_faultPlace, tG_depth_tape, tG_depth_written, tG_depth_measure, tG_room_depth, tG_room_room, tG_room_faultPlace, tG_room_tape, tG_room_written, tG_room_measure, tG_faultPlace_depth, tG_faultPlace_room, tG_faultPlace_faultPlace, tG_faultPlace_tape, tG_faultPlace_written, tG_faultPlace_measure, tG_tape_depth, tG_tape_room, tG_tape_faultPlace, tG_tape_tape, tG_tape_written, tG_tape_measure, tG_written_depth, tG_written_room, tG_written_faultPlace, tG_written_tape, tG_written_written, tG_written_measure, tG_measure_depth, tG_measure_room, tG_measure_faultPlace, tG_measure_tape, tG_measure_written, tG_measure_measure]
    exact ⟨⟨h1.1, h1.2, hx.symm⟩, h2, trivial⟩
  have d0 : tf_depth (ts_measure τ dr') = tf_depth τ ∧ tf_room (ts_measure τ dr') = tf_room τ := ⟨by simp only [tG_depth_depth, tG_depth_room, tG_depth_faultPlace, tG_depth_tape, tG_depth_written, tG_depth_measure, tG_room_depth, tG_room_room, tG_room_faultPlace, tG_room_tape, tG_room_written, tG_room_measure, tG_faultPlace_depth, tG_faultPlace_room, tG_faultPlace_faultPlace, tG_faultPlace_tape, tG_faultPlace_written, tG_faultPlace_measure, tG_tape_depth, tG_tape_room, tG_tape_faultPlace, tG_tape_tape, tG_tape_written, tG_tape_measure, tG_written_depth, tG_written_room, tG_written_faultPlace, tG_written_tape, tG_written_written, tG_written_measure, tG_measure_depth, tG_measure_room, tG_measure_faultPlace, tG_measure_tape, tG_measure_written, tG_measure_measure], by simp only [tG_depth_depth, tG_depth_room, tG_depth_faultPlace, tG_depth_tape, tG_depth_written, tG_depth_measure, tG_room_depth, tG_room_room, tG_room_faultPlace, tG_room_tape, tG_room_written, tG_room_measure, tG_faultPlace_depth, tG_faultPlace_room, tG_faultPlace_faultPlace, tG_faultPlace_tape, tG_faultPlace_written, tG_faultPlace_measure, tG_tape_depth, tG_tape_room, tG_tape_faultPlace, tG_tape_tape, tG_tape_written, tG_tape_measure, tG_written_depth, tG_written_room, tG_written_faultPlace, tG_written_tape, tG_written_written, tG_written_measure, tG_measure_depth, tG_measure_room, tG_measure_faultPlace, tG_measure_tape, tG_measure_written, tG_measure_measure]⟩
  have w0 : tf_written (ts_measure τ dr') = tf_written τ := by simp only [tG_depth_depth, tG_depth_room, tG_depth_faultPlace, tG_depth_tape, tG_depth_written, tG_depth_measure, tG_room_depth, tG_room_room, tG_room_faultPlace, tG_room_tape, tG_room_written, tG_room_measure, tG_faultPlace_depth, tG_faultPlace_room, tG_faultPlace_faultPlace, tG_faultPlace_tape, tG_faultPlace_written, tG_faultPlace_measure, tG_tape_depth, tG_tape_room, tG_tape_faultPlace, tG_tape_tape, tG_tape_written, tG_tape_measure, tG_written_depth, tG_written_room, tG_written_faultPlace, tG_written_tape, tG_written_written, tG_written_measure, tG_measure_depth, tG_measure_room, tG_measure_faultPlace, tG_measure_tape, tG_measure_written, tG_measure_measure]
  cases hr : sIt t d 0 with
  | inl kq =>
    have hk := sIt_k ht d 0 kq hr
    rw [hr] at hv
    obtain ⟨σ', ex, f1, fk, fp, o, g2, g3⟩ := hv
    rw [bd_of (show kk_readItem 0 42 (0 : Int32) σ0 = _ from ex)]
    simp only []
    rw [if_neg (show ¬ false = true by decide)]
    rw [rf1_0, fk, fp]
    have z := kTe (ts_measure τ dr') σ' d0 w0 (by rw [f1.1, t0])
    exact ⟨_, _, c2k_bad (k := kq.1) (q := kq.2) hk, t_bad z.1 z.2.1 (by rw [z.2.2]; exact g2) g3⟩
  | inr y =>
    obtain ⟨⟨ts, js⟩, q⟩ := y
    obtain ⟨gb1, gb2, gb3⟩ := sIt_bd ht d 0 (Nat.zero_le _) ts js q hr
    have gq := gb2.2.1
    rw [hr] at hv
    obtain ⟨σ1, ex, Q1, P1', g2⟩ := hv
    have P1 : kf_place σ1 = nI q := P1'
    have g2' : RowL 0 (kf_target σ1) js := g2
    have T1 : TpR (kf_tape σ1) t := by rw [Q1.1.1, t0]; exact hT
    rw [bd_of (show kk_readItem 0 42 (0 : Int32) σ0 = _ from ex)]
    simp only []
    rw [if_pos trivial]
    unfold kk_readEnd
    rw [bd_of T1.sz]
    simp only []
    rw [P1, ks_tape_id]
    show ∃ r τ', _ = _ ∧ TOut τ (if q = t.length then (if js.length ≤ rm then .inr js else .inl (5, t.length)) else .inl (1, q)) r τ'
    have z1 := kTe (ts_measure τ dr') σ1 d0 w0 (by rw [Q1.1.1, t0])
    have hjs : js.length ≤ 100000 := by omega
    by_cases c : q = t.length
    · rw [if_pos c, if_pos (show nI q = nI t.length by rw [c]), bd_of rfl]
      simp only []
      rw [if_pos trivial, Q1.2.1, Q1.2.2, k0, p0]
      have z := kTe (kT (ts_measure τ dr') σ1) σ1 ⟨z1.1.1, z1.1.2.1⟩ z1.2.1 (by rw [Q1.1.1, t0])
      exact t_goodK hT hw hwl hd hd40 hrm hrm6 z.1 z.2.1 (by rw [z.2.2]; exact g2') hjs hr
    · rw [if_neg c, if_neg (show ¬ nI q = nI t.length from fun z => c ((nI_eq (by omega) (by omega)).mp z))]
      obtain ⟨σ2, e2⟩ : ∃ σ2, σ2 = ks_faultPlace (ks_faultKind σ1 (1 : Int32)) (nI q) := ⟨_, rfl⟩
      have a1 : kf_tape σ2 = kf_tape σ1 := by rw [e2]; simp only [kG_depthLimit_depthLimit, kG_depthLimit_place, kG_depthLimit_faultKind, kG_depthLimit_faultPlace, kG_depthLimit_type, kG_depthLimit_number, kG_depthLimit_tape, kG_depthLimit_target, kG_place_depthLimit, kG_place_place, kG_place_faultKind, kG_place_faultPlace, kG_place_type, kG_place_number, kG_place_tape, kG_place_target, kG_faultKind_depthLimit, kG_faultKind_place, kG_faultKind_faultKind, kG_faultKind_faultPlace, kG_faultKind_type, kG_faultKind_number, kG_faultKind_tape, kG_faultKind_target, kG_faultPlace_depthLimit, kG_faultPlace_place, kG_faultPlace_faultKind, kG_faultPlace_faultPlace, kG_faultPlace_type, kG_faultPlace_number, kG_faultPlace_tape, kG_faultPlace_target, kG_type_depthLimit, kG_type_place, kG_type_faultKind, kG_type_faultPlace, kG_type_type, kG_type_number, kG_type_tape, kG_type_target, kG_number_depthLimit, kG_number_place, kG_number_faultKind, kG_number_faultPlace, kG_number_type, kG_number_number, kG_number_tape, kG_number_target, kG_tape_depthLimit, kG_tape_place, kG_tape_faultKind, kG_tape_faultPlace, kG_tape_type, kG_tape_number, kG_tape_tape, kG_tape_target, kG_target_depthLimit, kG_target_place, kG_target_faultKind, kG_target_faultPlace, kG_target_type, kG_target_number, kG_target_tape, kG_target_target]
      have a2 : kf_target σ2 = kf_target σ1 := by rw [e2]; simp only [kG_depthLimit_depthLimit, kG_depthLimit_place, kG_depthLimit_faultKind, kG_depthLimit_faultPlace, kG_depthLimit_type, kG_depthLimit_number, kG_depthLimit_tape, kG_depthLimit_target, kG_place_depthLimit, kG_place_place, kG_place_faultKind, kG_place_faultPlace, kG_place_type, kG_place_number, kG_place_tape, kG_place_target, kG_faultKind_depthLimit, kG_faultKind_place, kG_faultKind_faultKind, kG_faultKind_faultPlace, kG_faultKind_type, kG_faultKind_number, kG_faultKind_tape, kG_faultKind_target, kG_faultPlace_depthLimit, kG_faultPlace_place, kG_faultPlace_faultKind, kG_faultPlace_faultPlace, kG_faultPlace_type, kG_faultPlace_number, kG_faultPlace_tape, kG_faultPlace_target, kG_type_depthLimit, kG_type_place, kG_type_faultKind, kG_type_faultPlace, kG_type_type, kG_type_number, kG_type_tape, kG_type_target, kG_number_depthLimit, kG_number_place, kG_number_faultKind, kG_number_faultPlace, kG_number_type, kG_number_number, kG_number_tape, kG_number_target, kG_tape_depthLimit, kG_tape_place, kG_tape_faultKind, kG_tape_faultPlace, kG_tape_type, kG_tape_number, kG_tape_tape, kG_tape_target, kG_target_depthLimit, kG_target_place, kG_target_faultKind, kG_target_faultPlace, kG_target_type, kG_target_number, kG_target_tape, kG_target_target]
      have a3 : kf_faultKind σ2 = nI 1 := by rw [e2]; simp only [kG_depthLimit_depthLimit, kG_depthLimit_place, kG_depthLimit_faultKind, kG_depthLimit_faultPlace, kG_depthLimit_type, kG_depthLimit_number, kG_depthLimit_tape, kG_depthLimit_target, kG_place_depthLimit, kG_place_place, kG_place_faultKind, kG_place_faultPlace, kG_place_type, kG_place_number, kG_place_tape, kG_place_target, kG_faultKind_depthLimit, kG_faultKind_place, kG_faultKind_faultKind, kG_faultKind_faultPlace, kG_faultKind_type, kG_faultKind_number, kG_faultKind_tape, kG_faultKind_target, kG_faultPlace_depthLimit, kG_faultPlace_place, kG_faultPlace_faultKind, kG_faultPlace_faultPlace, kG_faultPlace_type, kG_faultPlace_number, kG_faultPlace_tape, kG_faultPlace_target, kG_type_depthLimit, kG_type_place, kG_type_faultKind, kG_type_faultPlace, kG_type_type, kG_type_number, kG_type_tape, kG_type_target, kG_number_depthLimit, kG_number_place, kG_number_faultKind, kG_number_faultPlace, kG_number_type, kG_number_number, kG_number_tape, kG_number_target, kG_tape_depthLimit, kG_tape_place, kG_tape_faultKind, kG_tape_faultPlace, kG_tape_type, kG_tape_number, kG_tape_tape, kG_tape_target, kG_target_depthLimit, kG_target_place, kG_target_faultKind, kG_target_faultPlace, kG_target_type, kG_target_number, kG_target_tape, kG_target_target]; rfl
      have a4 : kf_faultPlace σ2 = nI q := by rw [e2]; simp only [kG_depthLimit_depthLimit, kG_depthLimit_place, kG_depthLimit_faultKind, kG_depthLimit_faultPlace, kG_depthLimit_type, kG_depthLimit_number, kG_depthLimit_tape, kG_depthLimit_target, kG_place_depthLimit, kG_place_place, kG_place_faultKind, kG_place_faultPlace, kG_place_type, kG_place_number, kG_place_tape, kG_place_target, kG_faultKind_depthLimit, kG_faultKind_place, kG_faultKind_faultKind, kG_faultKind_faultPlace, kG_faultKind_type, kG_faultKind_number, kG_faultKind_tape, kG_faultKind_target, kG_faultPlace_depthLimit, kG_faultPlace_place, kG_faultPlace_faultKind, kG_faultPlace_faultPlace, kG_faultPlace_type, kG_faultPlace_number, kG_faultPlace_tape, kG_faultPlace_target, kG_type_depthLimit, kG_type_place, kG_type_faultKind, kG_type_faultPlace, kG_type_type, kG_type_number, kG_type_tape, kG_type_target, kG_number_depthLimit, kG_number_place, kG_number_faultKind, kG_number_faultPlace, kG_number_type, kG_number_number, kG_number_tape, kG_number_target, kG_tape_depthLimit, kG_tape_place, kG_tape_faultKind, kG_tape_faultPlace, kG_tape_type, kG_tape_number, kG_tape_tape, kG_tape_target, kG_target_depthLimit, kG_target_place, kG_target_faultKind, kG_target_faultPlace, kG_target_type, kG_target_number, kG_target_tape, kG_target_target]
      rw [bd_of (show kk_refuse 0 (1 : Int32) (nI q) σ1 = some (false, σ2) by rw [e2]; rfl)]
      simp only []
      rw [if_neg (show ¬ false = true by decide), bd_of rfl]
      simp only []
      rw [if_neg (show ¬ false = true by decide)]
      rw [rf1_0, a3, a4]
      have z := kTe (kT (ts_measure τ dr') σ1) σ2 ⟨z1.1.1, z1.1.2.1⟩ z1.2.1 (by rw [a1, Q1.1.1, t0])
      exact ⟨_, _, c2k_bad (k := 1) (q := q) (by decide), t_bad z.1 z.2.1 (by rw [z.2.2, a2]; exact g2') hjs⟩
