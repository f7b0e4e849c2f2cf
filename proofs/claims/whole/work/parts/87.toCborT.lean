/-! PURE R: the whole text, read by the class; toCbor of the class -/
theorem bd_eta {α : Type} (x : Option (Bool × α)) : bd x (fun y => some (y.1, y.2)) = x := by
  cases x with
  | none => rfl
  | some y => rfl
theorem mapR_mapR {α β γ : Type} (g : β → γ) (f : α → β) (r : Rd α) : mapR g (mapR f r) = mapR (fun x => g (f x)) r := by cases r <;> rfl
theorem mapR_inl {α β : Type} {f : α → β} {r : Rd α} {k : Nat × Nat} (h : mapR f r = .inl k) : r = .inl k := by
  cases r with
  | inl k2 => exact congrArg Sum.inl (Sum.inl.inj h)
  | inr x => cases h
/-- an array or a map that begins at p, d deep left -/
def sOp (t : List Nat) (d : Nat) (isMap : Bool) (p : Nat) : Rd (List Tok × Nat) := match d with
  | 0 => .inl (4, p)
  | d + 1 => sBox t (sVal t d) isMap p
theorem sVal_eq (t : List Nat) (d p : Nat) : sVal t d p = if gL t p = 91 then sOp t d false p else if gL t p = 123 then sOp t d true p else sSca t p := by
  cases d with
  | zero =>
    unfold sVal sOp
    by_cases c1 : gL t p = 91
    · rw [if_pos c1, if_pos (Or.inl c1)]
    · rw [if_neg c1]
      by_cases c2 : gL t p = 123
      · rw [if_pos c2, if_pos (Or.inr c2)]
      · rw [if_neg c2, if_neg (fun z => z.elim c1 c2)]
  | succ d => rfl
theorem j_valueS {t : List Nat} {L : Nat} (hL40 : L ≤ 40) (ht : ∀ x ∈ t, x < 256) (hle : t.length ≤ 4000) (d n dep : Nat) (hn : d < n) (hdep : dep + d = L) (ih : ∀ d', d = d' + 1 → ∀ (n dep : Nat), d' < n → dep + d' = L → JV t L (sVal t d') (jj_readValue 6000 n (nI dep))) : JV t L (sVal t d) (jj_readValue 6000 n (nI dep)) := by
  intro σ p0 out hT hL hpl hp0 hR ho
  obtain ⟨n, rfl⟩ : ∃ g, n = g + 1 := ⟨n - 1, by omega⟩
  have hb := sB_le hp0
  show JOk σ out _ (jj_valueOf 6000 (jj_readValue 6000 n) (nI dep) σ)
  unfold jj_valueOf
  rw [sVal_eq, bd_of (j_blanks hT hp0 hpl)]
  obtain ⟨p, ep⟩ : ∃ p, p = sB t p0 := ⟨_, rfl⟩
  obtain ⟨σ1, e1⟩ : ∃ σ1, σ1 = js_place σ (nI p) := ⟨_, rfl⟩
  rw [← ep] at hb ⊢
  have P1 : jf_place σ1 = nI p := by rw [e1, jG_place_place]
  have T1 : TpR (jf_tape σ1) t := by rw [e1]; simp only [jG_depthLimit_depthLimit, jG_depthLimit_place, jG_depthLimit_faultKind, jG_depthLimit_faultPlace, jG_depthLimit_tape, jG_depthLimit_target, jG_place_depthLimit, jG_place_place, jG_place_faultKind, jG_place_faultPlace, jG_place_tape, jG_place_target, jG_faultKind_depthLimit, jG_faultKind_place, jG_faultKind_faultKind, jG_faultKind_faultPlace, jG_faultKind_tape, jG_faultKind_target, jG_faultPlace_depthLimit, jG_faultPlace_place, jG_faultPlace_faultKind, jG_faultPlace_faultPlace, jG_faultPlace_tape, jG_faultPlace_target, jG_tape_depthLimit, jG_tape_place, jG_tape_faultKind, jG_tape_faultPlace, jG_tape_tape, jG_tape_target, jG_target_depthLimit, jG_target_place, jG_target_faultKind, jG_target_faultPlace, jG_target_tape, jG_target_target]; exact hT
  have L1 : jf_depthLimit σ1 = nI L := by rw [e1]; simp only [jG_depthLimit_depthLimit, jG_depthLimit_place, jG_depthLimit_faultKind, jG_depthLimit_faultPlace, jG_depthLimit_tape, jG_depthLimit_target, jG_place_depthLimit, jG_place_place, jG_place_faultKind, jG_place_faultPlace, jG_place_tape, jG_place_target, jG_faultKind_depthLimit, jG_faultKind_place, jG_faultKind_faultKind, jG_faultKind_faultPlace, jG_faultKind_tape, jG_faultKind_target, jG_faultPlace_depthLimit, jG_faultPlace_place, jG_faultPlace_faultKind, jG_faultPlace_faultPlace, jG_faultPlace_tape, jG_faultPlace_target, jG_tape_depthLimit, jG_tape_place, jG_tape_faultKind, jG_tape_faultPlace, jG_tape_tape, jG_tape_target, jG_target_depthLimit, jG_target_place, jG_target_faultKind, jG_target_faultPlace, jG_target_tape, jG_target_target]; exact hL
  have R1 : RowL 6000 (jf_target σ1) out := by rw [e1]; simp only [jG_depthLimit_depthLimit, jG_depthLimit_place, jG_depthLimit_faultKind, jG_depthLimit_faultPlace, jG_depthLimit_tape, jG_depthLimit_target, jG_place_depthLimit, jG_place_place, jG_place_faultKind, jG_place_faultPlace, jG_place_tape, jG_place_target, jG_faultKind_depthLimit, jG_faultKind_place, jG_faultKind_faultKind, jG_faultKind_faultPlace, jG_faultKind_tape, jG_faultKind_target, jG_faultPlace_depthLimit, jG_faultPlace_place, jG_faultPlace_faultKind, jG_faultPlace_faultPlace, jG_faultPlace_tape, jG_faultPlace_target, jG_tape_depthLimit, jG_tape_place, jG_tape_faultKind, jG_tape_faultPlace, jG_tape_tape, jG_tape_target, jG_target_depthLimit, jG_target_place, jG_target_faultKind, jG_target_faultPlace, jG_target_tape, jG_target_target]; exact hR
  have lift : ∀ {r x}, JOk σ1 out r x → JOk σ out r x := fun {r x} h => JOk.of (a := nI p) (tg := jf_target σ) (by rw [e1] at h; exact h)
  rw [← e1, P1, bd_of (T1.at (by omega))]
  simp only [bd_eta]
  rw [js_tape_id]
  refine lift ?_
  have box : ∀ isMap : Bool, p < t.length → JOk σ1 out (mapR (fun y => (encL y.1, y.2)) (sOp t d isMap p)) (jj_readParts 6000 (jj_readValue 6000 n) (nI (srt isMap)) (cls isMap) (nI dep) σ1) := by
    intro isMap hp
    cases d with
    | zero =>
      rw [show dep = L by omega]
      exact j_deep hL40 L1 P1 R1 (by omega)
    | succ d' => exact j_box (ih d' rfl n (dep + 1) (by omega) (by omega)) (sVal_bd ht hle d') (by omega) hL40 T1 L1 P1 hp R1 (by omega)
  by_cases c1 : gL t p = 34
  · have hp := gL_lit (v := 34) (by decide) rfl c1
    rw [if_pos c1, if_neg (show ¬ gL t p = 91 by rw [c1]; decide), if_neg (show ¬ gL t p = 123 by rw [c1]; decide)]
    unfold sSca
    rw [if_pos c1, mapR_mapR]
    refine (j_string T1 P1 hp R1 (by omega)).map (fun y => ?_)
    show _ = (hd 3 y.1.length ++ y.1 ++ [], y.2)
    rw [List.append_nil]
  rw [if_neg c1]
  by_cases c2 : gL t p = 91
  · rw [if_pos c2, if_pos c2]
    exact box false (gL_lit (v := 91) (by decide) rfl c2)
  rw [if_neg c2, if_neg c2]
  by_cases c3 : gL t p = 123
  · rw [if_pos c3, if_neg (show ¬ gL t p = 102 by rw [c3]; decide), if_neg (show ¬ gL t p = 110 by rw [c3]; decide), if_neg (show ¬ gL t p = 116 by rw [c3]; decide), if_pos c3]
    exact box true (gL_lit (v := 123) (by decide) rfl c3)
  rw [if_neg c3]
  unfold sSca
  rw [if_neg c1]
  by_cases c4 : gL t p = 102
  · rw [if_pos c4, if_pos c4, mapR_mapR]
    exact (j_word (sI := 0) (w := 20) (by decide) hb.2 (by decide) (by omega) T1 P1 R1).map (fun y => by show _ = (hd 7 20 ++ [] ++ [], y); simp)
  rw [if_neg c4, if_neg c4]
  by_cases c5 : gL t p = 110
  · rw [if_pos c5, if_neg (show ¬ gL t p = 116 by rw [c5]; decide), if_pos c5, mapR_mapR]
    exact (j_word (sI := 2) (w := 22) (by decide) hb.2 (by decide) (by omega) T1 P1 R1).map (fun y => by show _ = (hd 7 22 ++ [] ++ [], y); simp)
  rw [if_neg c5, if_neg c5]
  by_cases c6 : gL t p = 116
  · rw [if_pos c6, if_pos c6, mapR_mapR]
    exact (j_word (sI := 1) (w := 21) (by decide) hb.2 (by decide) (by omega) T1 P1 R1).map (fun y => by show _ = (hd 7 21 ++ [] ++ [], y); simp)
  rw [if_neg c6, if_neg c6, if_neg c3]
  have num : JOk σ1 out (mapR (fun y => (encL y.1, y.2)) (mapR (fun y => ([(y.1.1, y.1.2, ([] : List Nat))], y.2)) (sNum t p))) (jj_valueOf_b139 6000 (jj_readValue 6000 n) σ1) := by
    unfold jj_valueOf_b139
    rw [bd_eta, mapR_mapR]
    exact (j_number T1 R1 (by omega) hb.2 P1).map (fun y => by show _ = (hd y.1.1 y.1.2 ++ [] ++ [], y.2); simp)
  by_cases c7 : gL t p = 45
  · rw [if_pos c7, if_pos (Or.inl c7)]
    exact num
  rw [if_neg c7, isDg_eq]
  by_cases c8 : isDg (gL t p) = true
  · rw [if_pos c8, if_pos (Or.inr c8)]
    exact num
  · rw [if_neg c8, if_neg (fun z => z.elim c7 c8)]
    exact ⟨nI p, jf_target σ1, out, by rw [js_pl P1]; rfl, R1, by omega⟩
theorem z_j_valueS {t : List Nat} {L : Nat} (hL40 : L ≤ 40) (ht : ∀ x ∈ t, x < 256) (hle : t.length ≤ 4000) (d n dep : Nat) (hn : d < n) (hdep : dep + d = L) (ih : ∀ d', d = d' + 1 → ∀ (n dep : Nat), d' < n → dep + d' = L → z_JV t L (sVal t d') (jj_readValue 0 n (nI dep))) : z_JV t L (sVal t d) (jj_readValue 0 n (nI dep)) := by
  intro σ p0 out hT hL hpl hp0 hR ho
  obtain ⟨n, rfl⟩ : ∃ g, n = g + 1 := ⟨n - 1, by omega⟩
  have hb := sB_le hp0
  show z_JOk σ out _ (jj_valueOf 0 (jj_readValue 0 n) (nI dep) σ)
  unfold jj_valueOf
  rw [sVal_eq, bd_of (z_j_blanks hT hp0 hpl)]
  obtain ⟨p, ep⟩ : ∃ p, p = sB t p0 := ⟨_, rfl⟩
  obtain ⟨σ1, e1⟩ : ∃ σ1, σ1 = js_place σ (nI p) := ⟨_, rfl⟩
  rw [← ep] at hb ⊢
  have P1 : jf_place σ1 = nI p := by rw [e1, jG_place_place]
  have T1 : TpR (jf_tape σ1) t := by rw [e1]; simp only [jG_depthLimit_depthLimit, jG_depthLimit_place, jG_depthLimit_faultKind, jG_depthLimit_faultPlace, jG_depthLimit_tape, jG_depthLimit_target, jG_place_depthLimit, jG_place_place, jG_place_faultKind, jG_place_faultPlace, jG_place_tape, jG_place_target, jG_faultKind_depthLimit, jG_faultKind_place, jG_faultKind_faultKind, jG_faultKind_faultPlace, jG_faultKind_tape, jG_faultKind_target, jG_faultPlace_depthLimit, jG_faultPlace_place, jG_faultPlace_faultKind, jG_faultPlace_faultPlace, jG_faultPlace_tape, jG_faultPlace_target, jG_tape_depthLimit, jG_tape_place, jG_tape_faultKind, jG_tape_faultPlace, jG_tape_tape, jG_tape_target, jG_target_depthLimit, jG_target_place, jG_target_faultKind, jG_target_faultPlace, jG_target_tape, jG_target_target]; exact hT
  have L1 : jf_depthLimit σ1 = nI L := by rw [e1]; simp only [jG_depthLimit_depthLimit, jG_depthLimit_place, jG_depthLimit_faultKind, jG_depthLimit_faultPlace, jG_depthLimit_tape, jG_depthLimit_target, jG_place_depthLimit, jG_place_place, jG_place_faultKind, jG_place_faultPlace, jG_place_tape, jG_place_target, jG_faultKind_depthLimit, jG_faultKind_place, jG_faultKind_faultKind, jG_faultKind_faultPlace, jG_faultKind_tape, jG_faultKind_target, jG_faultPlace_depthLimit, jG_faultPlace_place, jG_faultPlace_faultKind, jG_faultPlace_faultPlace, jG_faultPlace_tape, jG_faultPlace_target, jG_tape_depthLimit, jG_tape_place, jG_tape_faultKind, jG_tape_faultPlace, jG_tape_tape, jG_tape_target, jG_target_depthLimit, jG_target_place, jG_target_faultKind, jG_target_faultPlace, jG_target_tape, jG_target_target]; exact hL
  have R1 : RowL 0 (jf_target σ1) out := by rw [e1]; simp only [jG_depthLimit_depthLimit, jG_depthLimit_place, jG_depthLimit_faultKind, jG_depthLimit_faultPlace, jG_depthLimit_tape, jG_depthLimit_target, jG_place_depthLimit, jG_place_place, jG_place_faultKind, jG_place_faultPlace, jG_place_tape, jG_place_target, jG_faultKind_depthLimit, jG_faultKind_place, jG_faultKind_faultKind, jG_faultKind_faultPlace, jG_faultKind_tape, jG_faultKind_target, jG_faultPlace_depthLimit, jG_faultPlace_place, jG_faultPlace_faultKind, jG_faultPlace_faultPlace, jG_faultPlace_tape, jG_faultPlace_target, jG_tape_depthLimit, jG_tape_place, jG_tape_faultKind, jG_tape_faultPlace, jG_tape_tape, jG_tape_target, jG_target_depthLimit, jG_target_place, jG_target_faultKind, jG_target_faultPlace, jG_target_tape, jG_target_target]; exact hR
  have lift : ∀ {r x}, z_JOk σ1 out r x → z_JOk σ out r x := fun {r x} h => z_JOk.of (a := nI p) (tg := jf_target σ) (by rw [e1] at h; exact h)
  rw [← e1, P1, bd_of (T1.at (by omega))]
  simp only [bd_eta]
  rw [js_tape_id]
  refine lift ?_
  have box : ∀ isMap : Bool, p < t.length → z_JOk σ1 out (mapR (fun y => (encL y.1, y.2)) (sOp t d isMap p)) (jj_readParts 0 (jj_readValue 0 n) (nI (srt isMap)) (cls isMap) (nI dep) σ1) := by
    intro isMap hp
    cases d with
    | zero =>
      rw [show dep = L by omega]
      exact z_j_deep hL40 L1 P1 R1 (by omega)
    | succ d' => exact z_j_box (ih d' rfl n (dep + 1) (by omega) (by omega)) (sVal_bd ht hle d') (by omega) hL40 T1 L1 P1 hp R1 (by omega)
  by_cases c1 : gL t p = 34
  · have hp := gL_lit (v := 34) (by decide) rfl c1
    rw [if_pos c1, if_neg (show ¬ gL t p = 91 by rw [c1]; decide), if_neg (show ¬ gL t p = 123 by rw [c1]; decide)]
    unfold sSca
    rw [if_pos c1, mapR_mapR]
    refine (z_j_string T1 P1 hp R1 (by omega)).map (fun y => ?_)
    show _ = (hd 3 y.1.length ++ y.1 ++ [], y.2)
    rw [List.append_nil]
  rw [if_neg c1]
  by_cases c2 : gL t p = 91
  · rw [if_pos c2, if_pos c2]
    exact box false (gL_lit (v := 91) (by decide) rfl c2)
  rw [if_neg c2, if_neg c2]
  by_cases c3 : gL t p = 123
  · rw [if_pos c3, if_neg (show ¬ gL t p = 102 by rw [c3]; decide), if_neg (show ¬ gL t p = 110 by rw [c3]; decide), if_neg (show ¬ gL t p = 116 by rw [c3]; decide), if_pos c3]
    exact box true (gL_lit (v := 123) (by decide) rfl c3)
  rw [if_neg c3]
  unfold sSca
  rw [if_neg c1]
  by_cases c4 : gL t p = 102
  · rw [if_pos c4, if_pos c4, mapR_mapR]
    exact (z_j_word (sI := 0) (w := 20) (by decide) hb.2 (by decide) (by omega) T1 P1 R1).map (fun y => by show _ = (hd 7 20 ++ [] ++ [], y); simp)
  rw [if_neg c4, if_neg c4]
  by_cases c5 : gL t p = 110
  · rw [if_pos c5, if_neg (show ¬ gL t p = 116 by rw [c5]; decide), if_pos c5, mapR_mapR]
    exact (z_j_word (sI := 2) (w := 22) (by decide) hb.2 (by decide) (by omega) T1 P1 R1).map (fun y => by show _ = (hd 7 22 ++ [] ++ [], y); simp)
  rw [if_neg c5, if_neg c5]
  by_cases c6 : gL t p = 116
  · rw [if_pos c6, if_pos c6, mapR_mapR]
    exact (z_j_word (sI := 1) (w := 21) (by decide) hb.2 (by decide) (by omega) T1 P1 R1).map (fun y => by show _ = (hd 7 21 ++ [] ++ [], y); simp)
  rw [if_neg c6, if_neg c6, if_neg c3]
  have num : z_JOk σ1 out (mapR (fun y => (encL y.1, y.2)) (mapR (fun y => ([(y.1.1, y.1.2, ([] : List Nat))], y.2)) (sNum t p))) (jj_valueOf_b139 0 (jj_readValue 0 n) σ1) := by
    unfold jj_valueOf_b139
    rw [bd_eta, mapR_mapR]
    exact (z_j_number T1 R1 (by omega) hb.2 P1).map (fun y => by show _ = (hd y.1.1 y.1.2 ++ [] ++ [], y.2); simp)
  by_cases c7 : gL t p = 45
  · rw [if_pos c7, if_pos (Or.inl c7)]
    exact num
  rw [if_neg c7, isDg_eq]
  by_cases c8 : isDg (gL t p) = true
  · rw [if_pos c8, if_pos (Or.inr c8)]
    exact num
  · rw [if_neg c8, if_neg (fun z => z.elim c7 c8)]
    exact ⟨nI p, jf_target σ1, out, by rw [js_pl P1]; rfl, R1, by omega⟩
theorem j_value {t : List Nat} {L : Nat} (hL40 : L ≤ 40) (ht : ∀ x ∈ t, x < 256) (hle : t.length ≤ 4000) : ∀ (d n dep : Nat), d < n → dep + d = L → JV t L (sVal t d) (jj_readValue 6000 n (nI dep)) := by
  intro d
  induction d with
  | zero => exact fun n dep hn hdep => j_valueS hL40 ht hle 0 n dep hn hdep (fun d hd => by omega)
  | succ d ih => exact fun n dep hn hdep => j_valueS hL40 ht hle (d + 1) n dep hn hdep (fun d' hd' => by
      have e : d' = d := by omega
      subst e
      exact ih)
theorem z_j_value {t : List Nat} {L : Nat} (hL40 : L ≤ 40) (ht : ∀ x ∈ t, x < 256) (hle : t.length ≤ 4000) : ∀ (d n dep : Nat), d < n → dep + d = L → z_JV t L (sVal t d) (jj_readValue 0 n (nI dep)) := by
  intro d
  induction d with
  | zero => exact fun n dep hn hdep => z_j_valueS hL40 ht hle 0 n dep hn hdep (fun d hd => by omega)
  | succ d ih => exact fun n dep hn hdep => z_j_valueS hL40 ht hle (d + 1) n dep hn hdep (fun d' hd' => by
      have e : d' = d := by omega
      subst e
      exact ih)
/-- what a fault's number may be -/
def kOk {α : Type} (r : Rd α) : Prop := ∀ kq, r = .inl kq → 1 ≤ kq.1 ∧ kq.1 ≤ 6
theorem kOk.lit {α : Type} {k q : Nat} (h : 1 ≤ k ∧ k ≤ 6) : kOk (α := α) (.inl (k, q)) := fun kq e => by rw [← Sum.inl.inj e]; exact h
theorem kOk.ok {α : Type} {a : α} : kOk (.inr a) := fun kq e => by cases e
theorem kOk.map {α β : Type} {f : α → β} {r : Rd α} (h : kOk r) : kOk (mapR f r) := fun kq e => h kq (mapR_inl e)
theorem sNum_k (t : List Nat) (p : Nat) : kOk (sNum t p) := by
  have hE : ∀ a b c, kOk (sNumE t p a b c) := by
    intro a b c
    unfold sNumE
    repeat' split
    all_goals first | exact kOk.lit (by decide) | exact kOk.ok
  have hF : ∀ a b, kOk (sNumF t p a b) := by
    intro a b
    unfold sNumF
    repeat' split
    all_goals first | exact kOk.lit (by decide) | exact hE _ _ _
  have hA : ∀ a, kOk (sNumA t p a) := by
    intro a
    unfold sNumA
    split
    · exact hF _ _
    · split
      · exact hF _ _
      · exact kOk.lit (by decide)
  exact hA _
theorem sSgn_k (t : List Nat) (p : Nat) : kOk (sSgn t p) := by
  unfold sSgn sCod
  repeat' split
  all_goals first | exact kOk.lit (by decide) | exact kOk.ok
theorem sStrF_k (t : List Nat) : ∀ m p, kOk (sStrF t m p) := by
  intro m
  induction m with
  | zero => intro p; exact kOk.lit (by decide)
  | succ m ih =>
    intro p
    unfold sStrF
    split
    · exact kOk.ok
    · cases hs : sSgn t p with
      | inl k => exact fun kq e => sSgn_k t p kq (hs.trans (congrArg Sum.inl (Sum.inl.inj e)))
      | inr bp =>
        show kOk (match sStrF t m bp.2 with
          | .inl k => .inl k
          | .inr cq => .inr (bp.1 ++ cq.1, cq.2))
        cases hr : sStrF t m bp.2 with
        | inl k => exact fun kq e => ih bp.2 kq (hr.trans (congrArg Sum.inl (Sum.inl.inj e)))
        | inr cq => exact kOk.ok
theorem sWd_k (t : List Nat) (sI p : Nat) : kOk (sWd t sI p) := by
  have : ∀ m k, kOk (sWdm t sI p m k) := by
    intro m
    induction m with
    | zero => intro k; exact kOk.ok
    | succ m ih =>
      intro k
      unfold sWdm
      split
      · exact ih _
      · exact kOk.lit (by decide)
  exact this _ _
theorem sSca_k (t : List Nat) (p : Nat) : kOk (sSca t p) := by
  unfold sSca
  repeat' split
  · exact (sStrF_k t _ _).map
  · exact (sWd_k t _ _).map
  · exact (sWd_k t _ _).map
  · exact (sWd_k t _ _).map
  · exact (sNum_k t _).map
  · exact kOk.lit (by decide)
theorem sKey_k (t : List Nat) (isMap : Bool) (p : Nat) : kOk (sKey t isMap p) := by
  unfold sKey
  split
  · split
    · cases hs : sStr t (sB t p) with
      | inl k => exact fun kq e => sStrF_k t _ _ kq (hs.trans (congrArg Sum.inl (Sum.inl.inj e)))
      | inr y =>
        show kOk (if gL t (sB t y.2) = 58 then _ else _)
        split
        · exact kOk.ok
        · exact kOk.lit (by decide)
    · exact kOk.lit (by decide)
  · exact kOk.ok
theorem sPts_k {t : List Nat} {val : Nat → Rd (List Tok × Nat)} {isMap : Bool} (hv : ∀ p, kOk (val p)) : ∀ m p, kOk (sPts t val isMap m p) := by
  intro m
  induction m with
  | zero => intro p; exact kOk.lit (by decide)
  | succ m ih =>
    intro p
    unfold sPts
    cases hk : sKey t isMap p with
    | inl k => exact fun kq e => sKey_k t isMap p kq (hk.trans (congrArg Sum.inl (Sum.inl.inj e)))
    | inr kp =>
      simp only []
      cases hvv : val (sB t kp.2) with
      | inl k => exact fun kq e => hv _ kq (hvv.trans (congrArg Sum.inl (Sum.inl.inj e)))
      | inr vp =>
        simp only []
        split
        · exact kOk.ok
        · split
          · cases hr : sPts t val isMap m (sB t vp.2 + 1) with
            | inl k => exact fun kq e => ih _ kq (hr.trans (congrArg Sum.inl (Sum.inl.inj e)))
            | inr y => exact kOk.ok
          · exact kOk.lit (by decide)
theorem sVal_k (t : List Nat) : ∀ d p, kOk (sVal t d p) := by
  intro d
  induction d with
  | zero =>
    intro p
    unfold sVal
    split
    · exact kOk.lit (by decide)
    · exact sSca_k t p
  | succ d ih =>
    have hb : ∀ isMap p, kOk (sBox t (sVal t d) isMap p) := by
      intro isMap p
      unfold sBox
      split
      · exact kOk.ok
      · cases hr : sPts t (sVal t d) isMap 4001 (sB t (p + 1)) with
        | inl k => exact fun kq e => sPts_k ih _ _ kq (hr.trans (congrArg Sum.inl (Sum.inl.inj e)))
        | inr y => exact kOk.ok
    intro p
    unfold sVal
    split
    · exact hb _ _
    · split
      · exact hb _ _
      · exact sSca_k t p
/-- what a translation comes to -/
def fin (t : List Nat) (rm : Nat) (r : Rd (List Nat × Nat)) : Rd (List Nat) := match r with
  | .inl k => .inl k
  | .inr y => if y.2 = t.length then (if y.1.length ≤ rm then .inr y.1 else .inl (5, t.length)) else .inl (1, y.2)
/-- what it leaves in the class -/
def TOut (τ : TSt) (F : Rd (List Nat)) (r : Int32) (τ' : TSt) : Prop := (tf_depth τ' = tf_depth τ ∧ tf_room τ' = tf_room τ ∧ tf_tape τ' = tf_tape τ) ∧ (∃ o, RowL 0 (tf_measure τ') o ∧ o.length < 2 ^ 30) ∧ match F with
  | .inl kq => r = -(nI kq.1) ∧ tf_written τ' = tf_written τ ∧ tf_faultPlace τ' = nI kq.2
  | .inr bs => r = nI bs.length ∧ RowL 6000 (tf_written τ') bs ∧ tf_faultPlace τ' = -1
theorem rf1_0 {σ : TSt} {fk fp : Int32} : rf1 (0 : Int32) σ fk fp = (fk, fp) := by
  unfold rf1
  exact if_pos rfl
theorem t_bad {τ τ1 : TSt} {k q : Nat} {o : List Nat} (h1 : tf_depth τ1 = tf_depth τ ∧ tf_room τ1 = tf_room τ ∧ tf_tape τ1 = tf_tape τ) (h2 : tf_written τ1 = tf_written τ) (hR : RowL 0 (tf_measure τ1) o) (ho : o.length ≤ 100000) : TOut τ (.inl (k, q)) (-(nI k)) (ts_faultPlace τ1 (nI q)) := by
  refine ⟨⟨?_, ?_, ?_⟩, ⟨o, ?_, by omega⟩, rfl, ?_, ?_⟩
  · simp only [tG_depth_depth, tG_depth_room, tG_depth_faultPlace, tG_depth_tape, tG_depth_written, tG_depth_measure, tG_room_depth, tG_room_room, tG_room_faultPlace, tG_room_tape, tG_room_written, tG_room_measure, tG_faultPlace_depth, tG_faultPlace_room, tG_faultPlace_faultPlace, tG_faultPlace_tape, tG_faultPlace_written, tG_faultPlace_measure, tG_tape_depth, tG_tape_room, tG_tape_faultPlace, tG_tape_tape, tG_tape_written, tG_tape_measure, tG_written_depth, tG_written_room, tG_written_faultPlace, tG_written_tape, tG_written_written, tG_written_measure, tG_measure_depth, tG_measure_room, tG_measure_faultPlace, tG_measure_tape, tG_measure_written, tG_measure_measure]; exact h1.1
  · simp only [tG_depth_depth, tG_depth_room, tG_depth_faultPlace, tG_depth_tape, tG_depth_written, tG_depth_measure, tG_room_depth, tG_room_room, tG_room_faultPlace, tG_room_tape, tG_room_written, tG_room_measure, tG_faultPlace_depth, tG_faultPlace_room, tG_faultPlace_faultPlace, tG_faultPlace_tape, tG_faultPlace_written, tG_faultPlace_measure, tG_tape_depth, tG_tape_room, tG_tape_faultPlace, tG_tape_tape, tG_tape_written, tG_tape_measure, tG_written_depth, tG_written_room, tG_written_faultPlace, tG_written_tape, tG_written_written, tG_written_measure, tG_measure_depth, tG_measure_room, tG_measure_faultPlace, tG_measure_tape, tG_measure_written, tG_measure_measure]; exact h1.2.1
  · simp only [tG_depth_depth, tG_depth_room, tG_depth_faultPlace, tG_depth_tape, tG_depth_written, tG_depth_measure, tG_room_depth, tG_room_room, tG_room_faultPlace, tG_room_tape, tG_room_written, tG_room_measure, tG_faultPlace_depth, tG_faultPlace_room, tG_faultPlace_faultPlace, tG_faultPlace_tape, tG_faultPlace_written, tG_faultPlace_measure, tG_tape_depth, tG_tape_room, tG_tape_faultPlace, tG_tape_tape, tG_tape_written, tG_tape_measure, tG_written_depth, tG_written_room, tG_written_faultPlace, tG_written_tape, tG_written_written, tG_written_measure, tG_measure_depth, tG_measure_room, tG_measure_faultPlace, tG_measure_tape, tG_measure_written, tG_measure_measure]; exact h1.2.2
  · simp only [tG_depth_depth, tG_depth_room, tG_depth_faultPlace, tG_depth_tape, tG_depth_written, tG_depth_measure, tG_room_depth, tG_room_room, tG_room_faultPlace, tG_room_tape, tG_room_written, tG_room_measure, tG_faultPlace_depth, tG_faultPlace_room, tG_faultPlace_faultPlace, tG_faultPlace_tape, tG_faultPlace_written, tG_faultPlace_measure, tG_tape_depth, tG_tape_room, tG_tape_faultPlace, tG_tape_tape, tG_tape_written, tG_tape_measure, tG_written_depth, tG_written_room, tG_written_faultPlace, tG_written_tape, tG_written_written, tG_written_measure, tG_measure_depth, tG_measure_room, tG_measure_faultPlace, tG_measure_tape, tG_measure_written, tG_measure_measure]; exact hR
  · simp only [tG_depth_depth, tG_depth_room, tG_depth_faultPlace, tG_depth_tape, tG_depth_written, tG_depth_measure, tG_room_depth, tG_room_room, tG_room_faultPlace, tG_room_tape, tG_room_written, tG_room_measure, tG_faultPlace_depth, tG_faultPlace_room, tG_faultPlace_faultPlace, tG_faultPlace_tape, tG_faultPlace_written, tG_faultPlace_measure, tG_tape_depth, tG_tape_room, tG_tape_faultPlace, tG_tape_tape, tG_tape_written, tG_tape_measure, tG_written_depth, tG_written_room, tG_written_faultPlace, tG_written_tape, tG_written_written, tG_written_measure, tG_measure_depth, tG_measure_room, tG_measure_faultPlace, tG_measure_tape, tG_measure_written, tG_measure_measure]; exact h2
  · simp only [tG_depth_depth, tG_depth_room, tG_depth_faultPlace, tG_depth_tape, tG_depth_written, tG_depth_measure, tG_room_depth, tG_room_room, tG_room_faultPlace, tG_room_tape, tG_room_written, tG_room_measure, tG_faultPlace_depth, tG_faultPlace_room, tG_faultPlace_faultPlace, tG_faultPlace_tape, tG_faultPlace_written, tG_faultPlace_measure, tG_tape_depth, tG_tape_room, tG_tape_faultPlace, tG_tape_tape, tG_tape_written, tG_tape_measure, tG_written_depth, tG_written_room, tG_written_faultPlace, tG_written_tape, tG_written_written, tG_written_measure, tG_measure_depth, tG_measure_room, tG_measure_faultPlace, tG_measure_tape, tG_measure_written, tG_measure_measure]
theorem c2j_bad {d k q : Nat} {τ1 : TSt} (hk : 1 ≤ k ∧ k ≤ 6) : tt_c2j d τ1 (nI k, nI q) = some (-(nI k), ts_faultPlace τ1 (nI q)) := by
  unfold tt_c2j
  exact if_neg (nI_ne0 (by omega) (by omega))
theorem c2j_ok {d : Nat} {τ1 : TSt} : tt_c2j d τ1 ((0 : Int32), (-1 : Int32)) = tt_c3j d (ts_faultPlace τ1 (-1 : Int32)) := by
  unfold tt_c2j
  exact if_pos rfl
/-- the second reading writes -/
theorem c3j_ok {υ : TSt} {t wr : List Nat} {d q : Nat} {ts : List Tok} (hT : TpR (tf_tape υ) t) (hw : RowL 6000 (tf_written υ) wr) (hwl : wr.length ≤ 6000) (hd : tf_depth υ = nI d) (hd40 : d ≤ 40) (hr : sVal t d (sB t 0) = .inr (ts, q)) : ∃ υ', tt_c3j 42 υ = some (nI (encL ts).length, υ') ∧ RowL 6000 (tf_written υ') (encL ts) ∧ (tf_depth υ' = tf_depth υ ∧ tf_room υ' = tf_room υ ∧ tf_tape υ' = tf_tape υ) ∧ tf_measure υ' = tf_measure υ ∧ tf_faultPlace υ' = tf_faultPlace υ := by
  have hle := hT.2
  have ht := hT.1.2.2
  obtain ⟨e1, g1⟩ := rr_cut_row hw (by omega) (n := 0) (Nat.zero_le _)
  rw [List.take_zero] at g1
  unfold tt_c3j
  rw [bd_of (show rr_cutTo 6000 (0 : Int32) (tf_written υ) = some (rs_sz (tf_written υ) (nI 0)) from e1)]
  obtain ⟨w, ew⟩ : ∃ w, w = rs_sz (tf_written υ) (nI 0) := ⟨_, rfl⟩
  rw [← ew] at g1 ⊢
  obtain ⟨σ0, e0⟩ : ∃ σ0, σ0 = jS2 (ts_written υ w) (tf_depth υ, (0 : Int32), (0 : Int32), (-1 : Int32)) := ⟨_, rfl⟩
  have hv := j_value hd40 ht hle d 42 0 (by omega) (by omega) σ0 0 [] (by rw [e0]; exact hT) (by rw [e0]; exact hd) (by rw [e0]; rfl) (Nat.zero_le _) (by rw [e0]; exact g1) (by show 0 + _ ≤ _; omega)
  rw [← e0]
  rw [hr] at hv
  obtain ⟨tg, ex, g2⟩ := hv
  rw [List.nil_append] at g2
  have g3 : RowL 6000 tg (encL ts) := g2
  have q1 : jf_tape (js_target (js_place σ0 (nI q)) tg) = tf_tape υ := by rw [e0]; rfl
  have q2 : jf_target (js_target (js_place σ0 (nI q)) tg) = tg := by rw [e0]; rfl
  rw [bd_of (show jj_readValue 6000 42 (0 : Int32) σ0 = some (true, js_target (js_place σ0 (nI q)) tg) from ex)]
  obtain ⟨Y, eY⟩ : ∃ Y, Y = js_target (js_place σ0 (nI q)) tg := ⟨_, rfl⟩
  rw [← eY] at q1 q2 ⊢
  have a1 : tf_written (jT2 (ts_written υ w) Y) = tg := by
    unfold jT2
    simp only [tG_depth_depth, tG_depth_room, tG_depth_faultPlace, tG_depth_tape, tG_depth_written, tG_depth_measure, tG_room_depth, tG_room_room, tG_room_faultPlace, tG_room_tape, tG_room_written, tG_room_measure, tG_faultPlace_depth, tG_faultPlace_room, tG_faultPlace_faultPlace, tG_faultPlace_tape, tG_faultPlace_written, tG_faultPlace_measure, tG_tape_depth, tG_tape_room, tG_tape_faultPlace, tG_tape_tape, tG_tape_written, tG_tape_measure, tG_written_depth, tG_written_room, tG_written_faultPlace, tG_written_tape, tG_written_written, tG_written_measure, tG_measure_depth, tG_measure_room, tG_measure_faultPlace, tG_measure_tape, tG_measure_written, tG_measure_measure]
    exact q2
  refine ⟨jT2 (ts_written υ w) Y, ?_, ?_, ⟨?_, ?_, ?_⟩, ?_, ?_⟩
  · show some (rf_sz (tf_written (jT2 (ts_written υ w) Y)), jT2 (ts_written υ w) Y) = _
    rw [a1, g3.1]
  · rw [a1]; exact g3
  · unfold jT2; simp only [tG_depth_depth, tG_depth_room, tG_depth_faultPlace, tG_depth_tape, tG_depth_written, tG_depth_measure, tG_room_depth, tG_room_room, tG_room_faultPlace, tG_room_tape, tG_room_written, tG_room_measure, tG_faultPlace_depth, tG_faultPlace_room, tG_faultPlace_faultPlace, tG_faultPlace_tape, tG_faultPlace_written, tG_faultPlace_measure, tG_tape_depth, tG_tape_room, tG_tape_faultPlace, tG_tape_tape, tG_tape_written, tG_tape_measure, tG_written_depth, tG_written_room, tG_written_faultPlace, tG_written_tape, tG_written_written, tG_written_measure, tG_measure_depth, tG_measure_room, tG_measure_faultPlace, tG_measure_tape, tG_measure_written, tG_measure_measure]
  · unfold jT2; simp only [tG_depth_depth, tG_depth_room, tG_depth_faultPlace, tG_depth_tape, tG_depth_written, tG_depth_measure, tG_room_depth, tG_room_room, tG_room_faultPlace, tG_room_tape, tG_room_written, tG_room_measure, tG_faultPlace_depth, tG_faultPlace_room, tG_faultPlace_faultPlace, tG_faultPlace_tape, tG_faultPlace_written, tG_faultPlace_measure, tG_tape_depth, tG_tape_room, tG_tape_faultPlace, tG_tape_tape, tG_tape_written, tG_tape_measure, tG_written_depth, tG_written_room, tG_written_faultPlace, tG_written_tape, tG_written_written, tG_written_measure, tG_measure_depth, tG_measure_room, tG_measure_faultPlace, tG_measure_tape, tG_measure_written, tG_measure_measure]
  · unfold jT2; simp only [tG_depth_depth, tG_depth_room, tG_depth_faultPlace, tG_depth_tape, tG_depth_written, tG_depth_measure, tG_room_depth, tG_room_room, tG_room_faultPlace, tG_room_tape, tG_room_written, tG_room_measure, tG_faultPlace_depth, tG_faultPlace_room, tG_faultPlace_faultPlace, tG_faultPlace_tape, tG_faultPlace_written, tG_faultPlace_measure, tG_tape_depth, tG_tape_room, tG_tape_faultPlace, tG_tape_tape, tG_tape_written, tG_tape_measure, tG_written_depth, tG_written_room, tG_written_faultPlace, tG_written_tape, tG_written_written, tG_written_measure, tG_measure_depth, tG_measure_room, tG_measure_faultPlace, tG_measure_tape, tG_measure_written, tG_measure_measure]; exact q1
  · unfold jT2; simp only [tG_depth_depth, tG_depth_room, tG_depth_faultPlace, tG_depth_tape, tG_depth_written, tG_depth_measure, tG_room_depth, tG_room_room, tG_room_faultPlace, tG_room_tape, tG_room_written, tG_room_measure, tG_faultPlace_depth, tG_faultPlace_room, tG_faultPlace_faultPlace, tG_faultPlace_tape, tG_faultPlace_written, tG_faultPlace_measure, tG_tape_depth, tG_tape_room, tG_tape_faultPlace, tG_tape_tape, tG_tape_written, tG_tape_measure, tG_written_depth, tG_written_room, tG_written_faultPlace, tG_written_tape, tG_written_written, tG_written_measure, tG_measure_depth, tG_measure_room, tG_measure_faultPlace, tG_measure_tape, tG_measure_written, tG_measure_measure]
  · unfold jT2; simp only [tG_depth_depth, tG_depth_room, tG_depth_faultPlace, tG_depth_tape, tG_depth_written, tG_depth_measure, tG_room_depth, tG_room_room, tG_room_faultPlace, tG_room_tape, tG_room_written, tG_room_measure, tG_faultPlace_depth, tG_faultPlace_room, tG_faultPlace_faultPlace, tG_faultPlace_tape, tG_faultPlace_written, tG_faultPlace_measure, tG_tape_depth, tG_tape_room, tG_tape_faultPlace, tG_tape_tape, tG_tape_written, tG_tape_measure, tG_written_depth, tG_written_room, tG_written_faultPlace, tG_written_tape, tG_written_written, tG_written_measure, tG_measure_depth, tG_measure_room, tG_measure_faultPlace, tG_measure_tape, tG_measure_written, tG_measure_measure]
theorem t_good {τ τ1 : TSt} {t wr : List Nat} {d rm q : Nat} {ts : List Tok} (hT : TpR (tf_tape τ) t) (hw : RowL 6000 (tf_written τ) wr) (hwl : wr.length ≤ 6000) (hd : tf_depth τ = nI d) (hd40 : d ≤ 40) (hrm : tf_room τ = nI rm) (hrm6 : rm ≤ 6000) (h1 : tf_depth τ1 = tf_depth τ ∧ tf_room τ1 = tf_room τ ∧ tf_tape τ1 = tf_tape τ) (h2 : tf_written τ1 = tf_written τ) (hR : RowL 0 (tf_measure τ1) (encL ts)) (ho : (encL ts).length ≤ 100000) (hr : sVal t d (sB t 0) = .inr (ts, q)) : ∃ r τ', tt_c2j 42 τ1 (rf1 (1 : Int32) τ1 (0 : Int32) (-1 : Int32)) = some (r, τ') ∧ TOut τ (if (encL ts).length ≤ rm then .inr (encL ts) else .inl (5, t.length)) r τ' := by
  have hle := hT.2
  unfold rf1
  rw [if_neg (show ¬ (1 : Int32) = 0 by decide), hR.1, h1.2.1, hrm]
  by_cases c : (encL ts).length ≤ rm
  · rw [if_pos c, if_pos (nI_le c (by omega)), c2j_ok]
    obtain ⟨υ', f1, f2, f3, f4, f5⟩ := c3j_ok (υ := ts_faultPlace τ1 (-1 : Int32)) (t := t) (wr := wr) (by simp only [tG_depth_depth, tG_depth_room, tG_depth_faultPlace, tG_depth_tape, tG_depth_written, tG_depth_measure, tG_room_depth, tG_room_room, tG_room_faultPlace, tG_room_tape, tG_room_written, tG_room_measure, tG_faultPlace_depth, tG_faultPlace_room, tG_faultPlace_faultPlace, tG_faultPlace_tape, tG_faultPlace_written, tG_faultPlace_measure, tG_tape_depth, tG_tape_room, tG_tape_faultPlace, tG_tape_tape, tG_tape_written, tG_tape_measure, tG_written_depth, tG_written_room, tG_written_faultPlace, tG_written_tape, tG_written_written, tG_written_measure, tG_measure_depth, tG_measure_room, tG_measure_faultPlace, tG_measure_tape, tG_measure_written, tG_measure_measure]; rw [h1.2.2]; exact hT) (by simp only [tG_depth_depth, tG_depth_room, tG_depth_faultPlace, tG_depth_tape, tG_depth_written, tG_depth_measure, tG_room_depth, tG_room_room, tG_room_faultPlace, tG_room_tape, tG_room_written, tG_room_measure, tG_faultPlace_depth, tG_faultPlace_room, tG_faultPlace_faultPlace, tG_faultPlace_tape, tG_faultPlace_written, tG_faultPlace_measure, tG_tape_depth, tG_tape_room, tG_tape_faultPlace, tG_tape_tape, tG_tape_written, tG_tape_measure, tG_written_depth, tG_written_room, tG_written_faultPlace, tG_written_tape, tG_written_written, tG_written_measure, tG_measure_depth, tG_measure_room, tG_measure_faultPlace, tG_measure_tape, tG_measure_written, tG_measure_measure]; rw [h2]; exact hw) hwl (by simp only [tG_depth_depth, tG_depth_room, tG_depth_faultPlace, tG_depth_tape, tG_depth_written, tG_depth_measure, tG_room_depth, tG_room_room, tG_room_faultPlace, tG_room_tape, tG_room_written, tG_room_measure, tG_faultPlace_depth, tG_faultPlace_room, tG_faultPlace_faultPlace, tG_faultPlace_tape, tG_faultPlace_written, tG_faultPlace_measure, tG_tape_depth, tG_tape_room, tG_tape_faultPlace, tG_tape_tape, tG_tape_written, tG_tape_measure, tG_written_depth, tG_written_room, tG_written_faultPlace, tG_written_tape, tG_written_written, tG_written_measure, tG_measure_depth, tG_measure_room, tG_measure_faultPlace, tG_measure_tape, tG_measure_written, tG_measure_measure]; rw [h1.1]; exact hd) hd40 hr
    refine ⟨_, υ', f1, ⟨?_, ?_, ?_⟩, ⟨encL ts, ?_, by omega⟩, rfl, f2, ?_⟩
    · rw [f3.1]; simp only [tG_depth_depth, tG_depth_room, tG_depth_faultPlace, tG_depth_tape, tG_depth_written, tG_depth_measure, tG_room_depth, tG_room_room, tG_room_faultPlace, tG_room_tape, tG_room_written, tG_room_measure, tG_faultPlace_depth, tG_faultPlace_room, tG_faultPlace_faultPlace, tG_faultPlace_tape, tG_faultPlace_written, tG_faultPlace_measure, tG_tape_depth, tG_tape_room, tG_tape_faultPlace, tG_tape_tape, tG_tape_written, tG_tape_measure, tG_written_depth, tG_written_room, tG_written_faultPlace, tG_written_tape, tG_written_written, tG_written_measure, tG_measure_depth, tG_measure_room, tG_measure_faultPlace, tG_measure_tape, tG_measure_written, tG_measure_measure]; exact h1.1
    · rw [f3.2.1]; simp only [tG_depth_depth, tG_depth_room, tG_depth_faultPlace, tG_depth_tape, tG_depth_written, tG_depth_measure, tG_room_depth, tG_room_room, tG_room_faultPlace, tG_room_tape, tG_room_written, tG_room_measure, tG_faultPlace_depth, tG_faultPlace_room, tG_faultPlace_faultPlace, tG_faultPlace_tape, tG_faultPlace_written, tG_faultPlace_measure, tG_tape_depth, tG_tape_room, tG_tape_faultPlace, tG_tape_tape, tG_tape_written, tG_tape_measure, tG_written_depth, tG_written_room, tG_written_faultPlace, tG_written_tape, tG_written_written, tG_written_measure, tG_measure_depth, tG_measure_room, tG_measure_faultPlace, tG_measure_tape, tG_measure_written, tG_measure_measure]; exact h1.2.1
    · rw [f3.2.2]; simp only [tG_depth_depth, tG_depth_room, tG_depth_faultPlace, tG_depth_tape, tG_depth_written, tG_depth_measure, tG_room_depth, tG_room_room, tG_room_faultPlace, tG_room_tape, tG_room_written, tG_room_measure, tG_faultPlace_depth, tG_faultPlace_room, tG_faultPlace_faultPlace, tG_faultPlace_tape, tG_faultPlace_written, tG_faultPlace_measure, tG_tape_depth, tG_tape_room, tG_tape_faultPlace, tG_tape_tape, tG_tape_written, tG_tape_measure, tG_written_depth, tG_written_room, tG_written_faultPlace, tG_written_tape, tG_written_written, tG_written_measure, tG_measure_depth, tG_measure_room, tG_measure_faultPlace, tG_measure_tape, tG_measure_written, tG_measure_measure]; exact h1.2.2
    · rw [f4]; simp only [tG_depth_depth, tG_depth_room, tG_depth_faultPlace, tG_depth_tape, tG_depth_written, tG_depth_measure, tG_room_depth, tG_room_room, tG_room_faultPlace, tG_room_tape, tG_room_written, tG_room_measure, tG_faultPlace_depth, tG_faultPlace_room, tG_faultPlace_faultPlace, tG_faultPlace_tape, tG_faultPlace_written, tG_faultPlace_measure, tG_tape_depth, tG_tape_room, tG_tape_faultPlace, tG_tape_tape, tG_tape_written, tG_tape_measure, tG_written_depth, tG_written_room, tG_written_faultPlace, tG_written_tape, tG_written_written, tG_written_measure, tG_measure_depth, tG_measure_room, tG_measure_faultPlace, tG_measure_tape, tG_measure_written, tG_measure_measure]; exact hR
    · rw [f5]; simp only [tG_depth_depth, tG_depth_room, tG_depth_faultPlace, tG_depth_tape, tG_depth_written, tG_depth_measure, tG_room_depth, tG_room_room, tG_room_faultPlace, tG_room_tape, tG_room_written, tG_room_measure, tG_faultPlace_depth, tG_faultPlace_room, tG_faultPlace_faultPlace, tG_faultPlace_tape, tG_faultPlace_written, tG_faultPlace_measure, tG_tape_depth, tG_tape_room, tG_tape_faultPlace, tG_tape_tape, tG_tape_written, tG_tape_measure, tG_written_depth, tG_written_room, tG_written_faultPlace, tG_written_tape, tG_written_written, tG_written_measure, tG_measure_depth, tG_measure_room, tG_measure_faultPlace, tG_measure_tape, tG_measure_written, tG_measure_measure]
  · rw [if_neg c, if_neg (nI_ge (by omega) (by omega)), h1.2.2, hT.1.1]
    exact ⟨_, _, c2j_bad (k := 5) (q := t.length) (by decide), t_bad h1 h2 hR ho⟩
theorem t_toCbor {τ : TSt} {t dr wr : List Nat} {d rm : Nat} (hT : TpR (tf_tape τ) t) (hdr : RowL 0 (tf_measure τ) dr) (hdl : dr.length < 2 ^ 30) (hw : RowL 6000 (tf_written τ) wr) (hwl : wr.length ≤ 6000) (hd : tf_depth τ = nI d) (hd40 : d ≤ 40) (hrm : tf_room τ = nI rm) (hrm6 : rm ≤ 6000) : ∃ r τ', tt_toCbor 42 τ = some (r, τ') ∧ TOut τ (fin t rm (mapR (fun y => (encL y.1, sB t y.2)) (sVal t d (sB t 0)))) r τ' := by
  have hle := hT.2
  have ht := hT.1.2.2
  obtain ⟨e1, g1⟩ := rr_cut_row hdr (by omega) (n := 0) (Nat.zero_le _)
  rw [List.take_zero] at g1
  unfold tt_toCbor
  rw [bd_of (show rr_cutTo 0 (0 : Int32) (tf_measure τ) = some (rs_sz (tf_measure τ) (nI 0)) from e1)]
  obtain ⟨dr', ed⟩ : ∃ dr', dr' = rs_sz (tf_measure τ) (nI 0) := ⟨_, rfl⟩
  rw [← ed] at g1 ⊢
  obtain ⟨σ0, e0⟩ : ∃ σ0, σ0 = jS (ts_measure τ dr') (tf_depth τ, (0 : Int32), (0 : Int32), (-1 : Int32)) := ⟨_, rfl⟩
  have j0 : ∀ a tg, jf_tape (js_target (js_place σ0 a) tg) = tf_tape τ ∧ jf_target (js_target (js_place σ0 a) tg) = tg ∧ jf_faultKind (js_target (js_place σ0 a) tg) = 0 ∧ jf_faultPlace (js_target (js_place σ0 a) tg) = -1 := by
    intro a tg
    rw [e0]
    exact ⟨rfl, rfl, rfl, rfl⟩
  have hv := z_j_value hd40 ht hle d 42 0 (by omega) (by omega) σ0 0 [] (by rw [e0]; exact hT) (by rw [e0]; exact hd) (by rw [e0]; rfl) (Nat.zero_le _) (by rw [e0]; exact g1) (by show 0 + _ ≤ _; omega)
  rw [← e0]
  have jTe : ∀ x : JSt, tf_tape τ = jf_tape x → (tf_depth (jT (ts_measure τ dr') x) = tf_depth τ ∧ tf_room (jT (ts_measure τ dr') x) = tf_room τ ∧ tf_tape (jT (ts_measure τ dr') x) = tf_tape τ) ∧ tf_written (jT (ts_measure τ dr') x) = tf_written τ ∧ tf_measure (jT (ts_measure τ dr') x) = jf_target x := by
    intro x hx
    unfold jT
    simp only [tG_depth_depth, tG_depth_room, tG_depth_faultPlace, tG_depth_tape, tG_depth_written, tG_depth_measure, tG_room_depth, tG_room_room, tG_room_faultPlace, tG_room_tape, tG_room_written, tG_room_measure, tG_faultPlace_depth, tG_faultPlace_room, tG_faultPlace_faultPlace, tG_faultPlace_tape, tG_faultPlace_written, tG_faultPlace_measure, tG_tape_depth, tG_tape_room, tG_tape_faultPlace, tG_tape_tape, tG_tape_written, tG_tape_measure, tG_written_depth, tG_written_room, tG_written_faultPlace, tG_written_tape, tG_written_written, tG_written_measure, tG_measure_depth, tG_measure_room, tG_measure_faultPlace, tG_measure_tape, tG_measure_written, tG_measure_measure]
    exact ⟨⟨trivial, trivial, hx.symm⟩, trivial, trivial⟩
  cases hr : sVal t d (sB t 0) with
  | inl kq =>
    have hk := sVal_k t d _ kq hr
    rw [hr] at hv
    obtain ⟨a, tg, o, ex, g2, g3⟩ := hv
    rw [bd_of (show jj_readValue 0 42 (0 : Int32) σ0 = _ from ex)]
    simp only []
    rw [if_neg (show ¬ false = true by decide)]
    rw [rf1_0]
    obtain ⟨q1, q2, q3, q4⟩ := j0 a tg
    have z := jTe (jF (js_target (js_place σ0 a) tg) (nI kq.1) (nI kq.2)) q1.symm
    exact ⟨_, _, c2j_bad (k := kq.1) (q := kq.2) hk, t_bad z.1 z.2.1 (by rw [z.2.2]; exact g2) g3⟩
  | inr y =>
    obtain ⟨ts, q⟩ := y
    have gb := sVal_bd ht hle d _ (sB_le (Nat.zero_le _)).2 ts q hr
    have gq := gb.2.2.1
    have gl := gb.2.2.2.1
    have ge := encL_len ts
    rw [hr] at hv
    obtain ⟨tg, ex, g2⟩ := hv
    rw [List.nil_append] at g2
    rw [bd_of (show jj_readValue 0 42 (0 : Int32) σ0 = _ from ex)]
    simp only []
    rw [if_pos trivial]
    unfold jj_readEnd
    obtain ⟨q1, q2, q3, q4⟩ := j0 (nI (sB t q)) tg
    have hbl : jj_skipBlanks 0 (js_target (js_place σ0 (nI q)) tg) = some (js_target (js_place σ0 (nI (sB t q))) tg) := by
      rw [z_j_blanks (t := t) (p := q) (by rw [e0]; exact hT) gq (by simp only [jG_depthLimit_depthLimit, jG_depthLimit_place, jG_depthLimit_faultKind, jG_depthLimit_faultPlace, jG_depthLimit_tape, jG_depthLimit_target, jG_place_depthLimit, jG_place_place, jG_place_faultKind, jG_place_faultPlace, jG_place_tape, jG_place_target, jG_faultKind_depthLimit, jG_faultKind_place, jG_faultKind_faultKind, jG_faultKind_faultPlace, jG_faultKind_tape, jG_faultKind_target, jG_faultPlace_depthLimit, jG_faultPlace_place, jG_faultPlace_faultKind, jG_faultPlace_faultPlace, jG_faultPlace_tape, jG_faultPlace_target, jG_tape_depthLimit, jG_tape_place, jG_tape_faultKind, jG_tape_faultPlace, jG_tape_tape, jG_tape_target, jG_target_depthLimit, jG_target_place, jG_target_faultKind, jG_target_faultPlace, jG_target_tape, jG_target_target])]
      rfl
    obtain ⟨σ1, e1⟩ : ∃ σ1, σ1 = js_target (js_place σ0 (nI (sB t q))) tg := ⟨_, rfl⟩
    rw [← e1] at q1 q2 q3 q4 hbl
    have P1 : jf_place σ1 = nI (sB t q) := by rw [e1]; simp only [jG_depthLimit_depthLimit, jG_depthLimit_place, jG_depthLimit_faultKind, jG_depthLimit_faultPlace, jG_depthLimit_tape, jG_depthLimit_target, jG_place_depthLimit, jG_place_place, jG_place_faultKind, jG_place_faultPlace, jG_place_tape, jG_place_target, jG_faultKind_depthLimit, jG_faultKind_place, jG_faultKind_faultKind, jG_faultKind_faultPlace, jG_faultKind_tape, jG_faultKind_target, jG_faultPlace_depthLimit, jG_faultPlace_place, jG_faultPlace_faultKind, jG_faultPlace_faultPlace, jG_faultPlace_tape, jG_faultPlace_target, jG_tape_depthLimit, jG_tape_place, jG_tape_faultKind, jG_tape_faultPlace, jG_tape_tape, jG_tape_target, jG_target_depthLimit, jG_target_place, jG_target_faultKind, jG_target_faultPlace, jG_target_tape, jG_target_target]
    have T1 : TpR (jf_tape σ1) t := by rw [q1]; exact hT
    have hbq := sB_le gq
    rw [bd_of hbl, bd_of T1.sz]
    simp only []
    rw [P1, js_tape_id]
    show ∃ r τ', _ = _ ∧ TOut τ (if sB t q = t.length then (if (encL ts).length ≤ rm then .inr (encL ts) else .inl (5, t.length)) else .inl (1, sB t q)) r τ'
    have z0 : ∀ x : JSt, tf_tape τ = jf_tape x → (tf_depth (jT (jT (ts_measure τ dr') (js_target (js_place σ0 (nI q)) tg)) x) = tf_depth τ ∧ tf_room (jT (jT (ts_measure τ dr') (js_target (js_place σ0 (nI q)) tg)) x) = tf_room τ ∧ tf_tape (jT (jT (ts_measure τ dr') (js_target (js_place σ0 (nI q)) tg)) x) = tf_tape τ) ∧ tf_written (jT (jT (ts_measure τ dr') (js_target (js_place σ0 (nI q)) tg)) x) = tf_written τ ∧ tf_measure (jT (jT (ts_measure τ dr') (js_target (js_place σ0 (nI q)) tg)) x) = jf_target x := by
      intro x hx
      unfold jT
      simp only [tG_depth_depth, tG_depth_room, tG_depth_faultPlace, tG_depth_tape, tG_depth_written, tG_depth_measure, tG_room_depth, tG_room_room, tG_room_faultPlace, tG_room_tape, tG_room_written, tG_room_measure, tG_faultPlace_depth, tG_faultPlace_room, tG_faultPlace_faultPlace, tG_faultPlace_tape, tG_faultPlace_written, tG_faultPlace_measure, tG_tape_depth, tG_tape_room, tG_tape_faultPlace, tG_tape_tape, tG_tape_written, tG_tape_measure, tG_written_depth, tG_written_room, tG_written_faultPlace, tG_written_tape, tG_written_written, tG_written_measure, tG_measure_depth, tG_measure_room, tG_measure_faultPlace, tG_measure_tape, tG_measure_written, tG_measure_measure]
      exact ⟨⟨trivial, trivial, hx.symm⟩, trivial, trivial⟩
    by_cases c : sB t q = t.length
    · rw [if_pos c, if_pos (show nI (sB t q) = nI t.length by rw [c]), bd_of rfl]
      simp only []
      rw [if_pos trivial, q3, q4]
      have z := z0 σ1 q1.symm
      exact t_good hT hw hwl hd hd40 hrm hrm6 z.1 z.2.1 (by rw [z.2.2, q2]; exact g2) (by show (encL ts).length ≤ 100000; omega) hr
    · rw [if_neg c, if_neg (show ¬ nI (sB t q) = nI t.length from fun z => c ((nI_eq (by omega) (by omega)).mp z)), bd_of (show jj_refuse 0 (1 : Int32) (nI (sB t q)) σ1 = some (false, jF σ1 1 (nI (sB t q))) from rfl)]
      simp only []
      rw [if_neg (show ¬ false = true by decide), bd_of rfl]
      simp only []
      rw [if_neg (show ¬ false = true by decide)]
      rw [rf1_0]
      have z := z0 (jF σ1 1 (nI (sB t q))) q1.symm
      exact ⟨_, _, c2j_bad (k := 1) (q := sB t q) (by decide), t_bad z.1 z.2.1 (by rw [z.2.2, show jf_target (jF σ1 1 (nI (sB t q))) = jf_target σ1 from rfl, q2]; exact g2) (by show (encL ts).length ≤ 100000; omega)⟩
