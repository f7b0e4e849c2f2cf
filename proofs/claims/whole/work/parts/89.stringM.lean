/-! PURE T: escapes and strings in the reference -/
section ESM
variable {t : List Nat} {σ : MSt} {p : Nat} {L : List Nat}
theorem coded_step (hT : TpM σ t) (hf : mf_fault σ = 0) (hp : p < 2 ^ 20) {k : Nat} (hk : k < 4) (g : Nat) : mm_coded_L2 (g + 1) (nI p) (nI k) (ms_at σ (nI (p + 1 + k))) = if hx t (p + 2 + k) = 16 then some (false, mF (ms_at σ (nI (p + 2 + k))) 1 (nI (p + 2 + k))) else mm_coded_L2 g (nI p) (nI (k + 1)) (ms_at σ (nI (p + 1 + (k + 1)))) := by
  show mm_coded_b2 (mm_coded_L2 g) _ _ _ = _
  unfold mm_coded_b2
  rw [if_neg (show ¬ (4 : Int32) ≤ nI k from nI_ge hk (by decide)), mG_at_at, ms_aa, nI_1, bd_of (here_eq (hT.at _) (p := p + 1 + k + 1) (by omega) (by rw [mG_at_at]))]
  simp only []
  rw [show p + 1 + k + 1 = p + 2 + k by omega, show p + 1 + (k + 1) = p + 2 + k by omega, hexOf_eq]
  rcases hx_spec hT.2.2.1 (p + 2 + k) with ⟨h1, h2⟩ | ⟨h1, h2, h3⟩
  · rw [if_pos h1, h2, if_neg (by decide), bd_of (stuck_eq (by rw [mG_fault_at]; exact hf)), mG_at_at]
  · rw [if_neg (show ¬ hx t (p + 2 + k) = 16 by omega), h2, if_pos (nI_n0 (by omega))]
    simp only [lt]
    rw [nI_1]
theorem m_coded (hT : TpM σ t) (hf : mf_fault σ = 0) (hat : mf_at σ = nI (p + 1)) (hp : p < t.length) (hL : MLt σ L) (hl : L.length + 4 ≤ 8200) : MLO σ L (sCod t p) (mm_coded (nI p) σ) := by
  have hle := hT.2.1
  have ht := hT.2.2.1
  have hid : σ = ms_at σ (nI (p + 1 + 0)) := by rw [Nat.add_zero, ← hat, ms_at_id]
  have fr : ∀ a, MFr σ (ms_at σ a) := fun a => MFr_at σ a
  obtain ⟨f, hfu⟩ : ∃ f, FU = f + 5 := ⟨99995, rfl⟩
  unfold mm_coded
  rw [hfu, show mm_coded_L2 (f + 5) (nI p) (0 : Int32) σ = mm_coded_L2 (f + 5) (nI p) (nI 0) (ms_at σ (nI (p + 1 + 0))) by rw [← hid]; rfl, coded_step hT hf (by omega) (by decide)]
  unfold sCod
  by_cases q0 : hx t (p + 2 + 0) = 16
  · rw [if_pos q0, show hx4 t (p + 2) = .inl (p + 2) by unfold hx4; rw [if_pos (show hx t (p + 2) = 16 from q0)]]
    exact MBad.of (fr _) rfl
  rw [if_neg q0, coded_step hT hf (by omega) (by decide)]
  by_cases q1 : hx t (p + 2 + 1) = 16
  · rw [if_pos q1, show hx4 t (p + 2) = .inl (p + 2 + 1) by unfold hx4; rw [if_neg (show ¬ hx t (p + 2) = 16 from q0), if_pos q1]]
    exact MBad.of (fr _) rfl
  rw [if_neg q1, coded_step hT hf (by omega) (by decide)]
  by_cases q2 : hx t (p + 2 + 2) = 16
  · rw [if_pos q2, show hx4 t (p + 2) = .inl (p + 2 + 2) by unfold hx4; rw [if_neg (show ¬ hx t (p + 2) = 16 from q0), if_neg q1, if_pos q2]]
    exact MBad.of (fr _) rfl
  rw [if_neg q2, coded_step hT hf (by omega) (by decide)]
  by_cases q3 : hx t (p + 2 + 3) = 16
  · rw [if_pos q3, show hx4 t (p + 2) = .inl (p + 2 + 3) by unfold hx4; rw [if_neg (show ¬ hx t (p + 2) = 16 from q0), if_neg q1, if_neg q2, if_pos q3]]
    exact MBad.of (fr _) rfl
  rw [if_neg q3]
  obtain ⟨v, hv⟩ : ∃ v, hx4 t (p + 2) = .inr v := ⟨_, by unfold hx4; rw [if_neg (show ¬ hx t (p + 2) = 16 from q0), if_neg q1, if_neg q2, if_neg q3]⟩
  have hv2 := hx4_lt ht hv
  rw [hv]
  show MLO σ L _ (mm_coded_b2 (mm_coded_L2 f) (nI p) (nI 4) (ms_at σ (nI (p + 5))))
  unfold mm_coded_b2
  obtain ⟨σ1, e1⟩ : ∃ σ1, σ1 = ms_at σ (nI (p + 6)) := ⟨_, rfl⟩
  have T1 : TpM σ1 t := by rw [e1]; exact hT.at _
  have A1 : mf_at σ1 = nI (p + 6) := by rw [e1, mG_at_at]
  have F1 : mf_fault σ1 = 0 := by rw [e1, mG_fault_at]; exact hf
  have L1 : MLt σ1 L := by rw [e1]; exact hL.at _
  have Q1 : MLq σ σ1 := by rw [e1]; exact MLq.at σ _
  rw [if_pos (by decide), mG_at_at, ms_aa, nI_1, ← e1, show nI p + (2 : Int32) = nI (p + 2) from nI_add p 2, bd_of (show mm_four (nI (p + 2)) σ1 = some (nI v, σ1) by rw [m_four T1 (by omega), hv]; rfl)]
  simp only []
  have wr : ∀ x, x = some (false, mF σ1 2 (nI p)) → MLO σ L (.inl (2, p)) x := fun x h => MBad.fr Q1.1.1 (MBad.of (k := 2) (MFr_rfl σ1) h)
  have b87 : ∀ u, u < 65536 → MLO σ L (.inr (utf u, p + 6)) (mm_coded_b87 (nI u) σ1) := by
    intro u hu
    unfold mm_coded_b87
    obtain ⟨σ2, e2, q2, a2, l2⟩ := m_sign L1 hl (v := u) (by omega)
    rw [bd_of e2]
    exact ⟨σ2, rfl, Q1.trans q2, a2.trans A1, l2⟩
  have b177 : mm_coded_b177 (nI p) σ1 = some (false, mF σ1 2 (nI p)) := by
    unfold mm_coded_b177
    rw [bd_of (wrong_eq F1 _ _)]
  have b75 : ¬ (56320 ≤ v ∧ v ≤ 57343) → MLO σ L (if ¬ (55296 ≤ v ∧ v ≤ 56319) then .inr (utf v, p + 6) else
    if gL t (p + 6) = 92 ∧ gL t (p + 7) = 117 then (match hx4 t (p + 8) with
      | .inl _ => .inl (2, p)
      | .inr w => if 56320 ≤ w ∧ w ≤ 57343 then .inr (utf (65536 + (v - 55296) * 1024 + (w - 56320)), p + 12) else .inl (2, p))
    else .inl (2, p)) (mm_coded_b75 (nI p) (nI v) σ1) := by
    intro c1
    unfold mm_coded_b75
    by_cases c2 : v < 55296
    · rw [if_pos (show nI v < (55296 : Int32) from nI_lt (b := 55296) c2 (by decide)), if_pos (by omega)]
      exact b87 v (by omega)
    rw [if_neg (show ¬ nI v < (55296 : Int32) from nI_nlt (b := 55296) (by omega) (by omega))]
    by_cases c3 : v ≤ 56319
    · rw [if_pos (show nI v ≤ (56319 : Int32) from nI_le (b := 56319) c3 (by decide)), if_neg (fun z => z ⟨by omega, c3⟩)]
      have none : mm_coded_b142 (nI p) (nI v) (0 : Int32) σ1 = some (false, mF σ1 2 (nI p)) := by
        unfold mm_coded_b142 mm_coded_b161
        rw [if_pos (show (0 : Int32) = 0 from rfl), if_pos (by decide), b177]
      rw [T1.1, A1, nI_1]
      by_cases c4 : p + 7 < t.length
      · rw [if_neg (nI_ge (show p + 6 + 1 < t.length by omega) (by omega)), ck_in (vp_in_nI (by omega) (by decide)), nI_clamp (by omega), T1.2.2.2 _ (by omega), ← gL_in (by omega)]
        by_cases c5 : gL t (p + 6) = 92
        · rw [if_pos c5, ck_in (vp_in_nI (by omega) (by decide)), nI_clamp (by omega), T1.2.2.2 _ (by omega), ← gL_in (by omega)]
          by_cases c6 : gL t (p + 7) = 117
          · rw [if_pos (show gL t (p + 6 + 1) = 117 from c6), if_pos ⟨c5, c6⟩]
            unfold mm_coded_b142
            rw [if_neg (show ¬ (1 : Int32) = 0 by decide), A1, show nI (p + 6) + (2 : Int32) = nI (p + 8) from nI_add (p + 6) 2]
            cases hw : hx4 t (p + 8) with
            | inl q =>
              rw [bd_of (show mm_four (nI (p + 8)) σ1 = some (-1, σ1) by rw [m_four T1 (by omega), hw]; rfl)]
              unfold mm_coded_b161
              rw [if_pos (show (-1 : Int32) < (56320 : Int32) by decide), b177]
              exact wr _ rfl
            | inr w =>
              have hw2 := hx4_lt ht hw
              rw [bd_of (show mm_four (nI (p + 8)) σ1 = some (nI w, σ1) by rw [m_four T1 (by omega), hw]; rfl)]
              unfold mm_coded_b161
              show MLO σ L (if 56320 ≤ w ∧ w ≤ 57343 then _ else _) (if nI w < (56320 : Int32) then _ else _)
              by_cases d1 : w < 56320
              · rw [if_pos (show nI w < (56320 : Int32) from nI_lt (b := 56320) d1 (by decide)), if_neg (by omega), b177]
                exact wr _ rfl
              rw [if_neg (show ¬ nI w < (56320 : Int32) from nI_nlt (b := 56320) (by omega) (by omega))]
              by_cases d2 : w ≤ 57343
              · rw [if_pos (show nI w ≤ (57343 : Int32) from nI_le (b := 57343) d2 (by decide)), if_pos ⟨by omega, d2⟩, A1]
                have e : ((65536 : Int32) + ((nI v - (55296 : Int32)) * (1024 : Int32))) + nI w - (56320 : Int32) = nI (65536 + (v - 55296) * 1024 + (w - 56320)) := by
                  rw [show nI v - (55296 : Int32) = nI (v - 55296) from pk_sub (b := 55296) (by omega), show nI (v - 55296) * (1024 : Int32) = nI ((v - 55296) * 1024) from pk_mul _ 1024, show (65536 : Int32) = nI 65536 from rfl, nI_add, nI_add, show nI (65536 + (v - 55296) * 1024 + w) - (56320 : Int32) = nI (65536 + (v - 55296) * 1024 + w - 56320) from pk_sub (b := 56320) (by omega), show 65536 + (v - 55296) * 1024 + w - 56320 = 65536 + (v - 55296) * 1024 + (w - 56320) by omega]
                obtain ⟨U, hU⟩ : ∃ U, U = 65536 + (v - 55296) * 1024 + (w - 56320) := ⟨_, rfl⟩
                rw [e, ← hU]
                obtain ⟨σ2, e2, q2, a2, l2⟩ := m_sign (L1.at (nI (p + 6) + 6)) hl (v := U) (by omega)
                rw [bd_of e2]
                refine ⟨σ2, rfl, Q1.trans ((MLq.at σ1 _).trans q2), ?_, l2⟩
                rw [a2, mG_at_at]
                exact nI_add (p + 6) 6
              · rw [if_neg (show ¬ nI w ≤ (57343 : Int32) from nI_ge (a := 57343) (by omega) (by omega)), if_neg (by omega), b177]
                exact wr _ rfl
          · rw [if_neg (show ¬ gL t (p + 6 + 1) = 117 from c6), if_neg (fun z => c6 z.2), none]
            exact wr _ rfl
        · rw [if_neg c5, if_neg (fun z => c5 z.1), none]
          exact wr _ rfl
      · rw [if_pos (nI_le (show t.length ≤ p + 6 + 1 by omega) (by omega)), if_neg (show ¬ (gL t (p + 6) = 92 ∧ gL t (p + 7) = 117) from fun z => by have := gL_lit (v := 117) (by decide) rfl z.2; omega), none]
        exact wr _ rfl
    · rw [if_neg (show ¬ nI v ≤ (56319 : Int32) from nI_ge (a := 56319) (by omega) (by omega)), if_pos (by omega)]
      exact b87 v (by omega)
  by_cases c1 : v < 56320
  · rw [if_pos (show nI v < (56320 : Int32) from nI_lt (b := 56320) c1 (by decide)), if_neg (show ¬ (56320 ≤ v ∧ v ≤ 57343) by omega)]
    exact b75 (by omega)
  rw [if_neg (show ¬ nI v < (56320 : Int32) from nI_nlt (b := 56320) (by omega) (by omega))]
  by_cases c2 : 57343 < v
  · rw [if_pos (show (57343 : Int32) < nI v from nI_lt (a := 57343) c2 (by omega)), if_neg (show ¬ (56320 ≤ v ∧ v ≤ 57343) by omega)]
    exact b75 (by omega)
  rw [if_neg (show ¬ (57343 : Int32) < nI v from nI_nlt (a := 57343) (by omega) (by decide)), if_pos (show 56320 ≤ v ∧ v ≤ 57343 by omega), bd_of (wrong_eq F1 _ _)]
  exact wr _ rfl
theorem esc_chain (c : Int32) (σ : MSt) : (if c = (34 : Int32) then mm_escape_b110 c σ else (if c = (92 : Int32) then mm_escape_b110 c σ else (if c = (47 : Int32) then mm_escape_b110 c σ else (if c = (98 : Int32) then mm_escape_b110 (8 : Int32) σ else (if c = (102 : Int32) then mm_escape_b110 (12 : Int32) σ else (if c = (110 : Int32) then mm_escape_b110 (10 : Int32) σ else (if c = (114 : Int32) then mm_escape_b110 (13 : Int32) σ else (if c = (116 : Int32) then mm_escape_b110 (9 : Int32) σ else mm_escape_b110 (-1 : Int32) σ)))))))) = mm_escape_b110 (eX1_signOf c) σ := by
  by_cases c1 : c = 34
  · rw [if_pos c1, c1, show eX1_signOf 34 = 34 by decide]
  rw [if_neg c1]
  by_cases c2 : c = 92
  · rw [if_pos c2, c2, show eX1_signOf 92 = 92 by decide]
  rw [if_neg c2]
  by_cases c3 : c = 47
  · rw [if_pos c3, c3, show eX1_signOf 47 = 47 by decide]
  rw [if_neg c3]
  by_cases c4 : c = 98
  · rw [if_pos c4, c4, show eX1_signOf 98 = 8 by decide]
  rw [if_neg c4]
  by_cases c5 : c = 102
  · rw [if_pos c5, c5, show eX1_signOf 102 = 12 by decide]
  rw [if_neg c5]
  by_cases c6 : c = 110
  · rw [if_pos c6, c6, show eX1_signOf 110 = 10 by decide]
  rw [if_neg c6]
  by_cases c7 : c = 114
  · rw [if_pos c7, c7, show eX1_signOf 114 = 13 by decide]
  rw [if_neg c7]
  by_cases c8 : c = 116
  · rw [if_pos c8, c8, show eX1_signOf 116 = 9 by decide]
  rw [if_neg c8]
  unfold eX1_signOf
  rw [if_neg c1, if_neg c3, if_neg c2, if_neg c4, if_neg c5, if_neg c6, if_neg c7, if_neg c8]
theorem m_escape (hT : TpM σ t) (hf : mf_fault σ = 0) (hat : mf_at σ = nI p) (hp : p < t.length) (hL : MLt σ L) (hl : L.length + 4 ≤ 8200) : MLO σ L (if gL t (p + 1) = 117 then sCod t p else if letN (gL t (p + 1)) = 256 then .inl (1, p + 1) else .inr ([letN (gL t (p + 1))], p + 2)) (mm_escape σ) := by
  have hle := hT.2.1
  have ht := hT.2.2.1
  unfold mm_escape
  simp only [lt]
  obtain ⟨σ1, e1⟩ : ∃ σ1, σ1 = ms_at σ (nI (p + 1)) := ⟨_, rfl⟩
  have T1 : TpM σ1 t := by rw [e1]; exact hT.at _
  have A1 : mf_at σ1 = nI (p + 1) := by rw [e1, mG_at_at]
  have F1 : mf_fault σ1 = 0 := by rw [e1, mG_fault_at]; exact hf
  have L1 : MLt σ1 L := by rw [e1]; exact hL.at _
  have Q1 : MLq σ σ1 := by rw [e1]; exact MLq.at σ _
  rw [hat, nI_1, ← e1, bd_of (here_eq T1 (by omega) A1)]
  simp only []
  by_cases c : gL t (p + 1) = 117
  · rw [if_pos c, if_pos c, bd_eta]
    exact MLO.fr Q1 (m_coded T1 F1 A1 hp L1 hl)
  rw [if_neg c, if_neg c, esc_chain]
  unfold mm_escape_b110
  rcases letN_spec ht (p + 1) with ⟨h1, h2⟩ | ⟨h1, h2, h3⟩
  · rw [if_pos h1, h2, if_neg (by decide), bd_of (stuck_eq F1), A1]
    exact MBad.fr Q1.1.1 (MBad.of (k := 1) (MFr_rfl σ1) rfl)
  · rw [if_neg (show ¬ letN (gL t (p + 1)) = 256 by omega), h2, if_pos (nI_n0 (by omega))]
    obtain ⟨σ2, e2, q2, a2, l2⟩ := m_letterN L1 (by omega) (n := letN (gL t (p + 1))) (by omega) rfl
    rw [bd_of e2]
    refine ⟨_, rfl, (Q1.trans q2).trans (MLq.at σ2 _), ?_, l2.at _⟩
    rw [mG_at_at, a2, A1, nI_1]
end ESM
theorem m_copy {t : List Nat} {p n : Nat} {a1 : Int32} {k17 : Int32 → MSt → Option (Bool × MSt)} (hn : n ≤ 4) (hpn : p + n ≤ t.length) : ∀ (m i f : Nat) (σ : MSt) (L : List Nat), i + m = n → m < f → TpM σ t → mf_at σ = nI p → MLt σ L → L.length + m ≤ 8200 → ∃ σ', mm_string_L87 k17 f a1 (nI n) (nI i) σ = k17 a1 σ' ∧ MLq σ σ' ∧ mf_at σ' = nI (p + n) ∧ MLt σ' (L ++ sl t (p + i) m) := by
  intro m
  induction m with
  | zero =>
    intro i f σ L him hf hT hat hL hl
    obtain ⟨f, rfl⟩ : ∃ g, f = g + 1 := ⟨f - 1, by omega⟩
    have hle := hT.2.1
    refine ⟨ms_at σ (nI (p + n)), ?_, MLq.at σ _, by rw [mG_at_at], by rw [sl_0, List.append_nil]; exact hL.at _⟩
    show mm_string_b87 _ _ _ _ _ σ = _
    unfold mm_string_b87
    rw [if_pos (nI_le (by omega) (by omega)), hat, nI_add]
  | succ m ih =>
    intro i f σ L him hf hT hat hL hl
    obtain ⟨f, rfl⟩ : ∃ g, f = g + 1 := ⟨f - 1, by omega⟩
    have hle := hT.2.1
    have hb := getD_lt hT.2.2.1 (p + i)
    show ∃ σ', mm_string_b87 k17 (mm_string_L87 k17 f) a1 (nI n) (nI i) σ = _ ∧ _
    unfold mm_string_b87
    rw [if_neg (nI_ge (by omega) (by omega)), hat, nI_add, ck_in (vp_in_nI (by omega) (by decide)), nI_clamp (by omega), hT.2.2.2 _ (by omega)]
    obtain ⟨σ1, e1, q1, b1, l1⟩ := m_letterN hL (by omega) (n := t.getD (p + i) 0) hb rfl
    rw [bd_of e1]
    simp only [lt]
    rw [nI_1]
    obtain ⟨σ2, e2, q2, b2, l2⟩ := ih (i + 1) f σ1 _ (by omega) (by omega) (hT.fr q1.1.1) (b1.trans hat) l1 (by simp only [List.length_append, List.length_singleton]; omega)
    refine ⟨σ2, e2, q1.trans q2, b2, ?_⟩
    rw [sl_cons (by omega)]
    rw [List.append_assoc] at l2
    exact l2
/-- one sign of a string in the reference -/
theorem m_sgn {t : List Nat} {σ : MSt} {p : Nat} {L : List Nat} {a1 : Int32} {k17 : Int32 → MSt → Option (Bool × MSt)} (hT : TpM σ t) (hf : mf_fault σ = 0) (hat : mf_at σ = nI p) (hp : p ≤ t.length) (hL : MLt σ L) (hl : L.length + 4 ≤ 8200) (h34 : ¬ gL t p = 34) : match sSgn t p with
    | .inl kq => MBad σ kq.1 kq.2 (mm_string_b17 k17 a1 σ)
    | .inr y => ∃ σ', mm_string_b17 k17 a1 σ = k17 a1 σ' ∧ MLq σ σ' ∧ mf_at σ' = nI y.2 ∧ MLt σ' (L ++ y.1) := by
  have hle := hT.2.1
  have ht := hT.2.2.1
  unfold mm_string_b17
  rw [bd_of (here_eq hT (by omega) hat)]
  simp only []
  rw [if_neg h34, bd_of (here_eq hT (by omega) hat)]
  simp only []
  unfold sSgn
  by_cases c1 : gL t p = 92
  · have hp2 : p < t.length := gL_lit (v := 92) (by decide) rfl c1
    rw [if_pos c1, if_pos (show (32 : Int32) ≤ gL t p by rw [c1]; decide), if_pos c1]
    have he := m_escape hT hf hat hp2 hL hl
    cases hr : (if gL t (p + 1) = 117 then sCod t p else if letN (gL t (p + 1)) = 256 then .inl (1, p + 1) else .inr ([letN (gL t (p + 1))], p + 2) : Rd (List Nat × Nat)) with
    | inl kq =>
      rw [hr] at he
      obtain ⟨σ', ex, g⟩ := he
      simp only []
      rw [ex, bd_of rfl]
      exact ⟨σ', rfl, g⟩
    | inr y =>
      rw [hr] at he
      obtain ⟨σ', ex, g⟩ := he
      simp only []
      rw [ex, bd_of rfl]
      exact ⟨σ', rfl, g⟩
  rw [if_neg c1]
  by_cases c2 : gL t p < 32
  · rw [if_pos c2, if_neg (show ¬ (32 : Int32) ≤ gL t p from Int32.not_le.mpr c2), bd_of (stuck_eq hf), hat]
    exact MBad.of (k := 1) (MFr_rfl σ) rfl
  rw [if_neg c2, if_pos (show (32 : Int32) ≤ gL t p from Int32.not_lt.mp c2), if_neg c1]
  have hp2 : p < t.length := by
    rcases Nat.lt_or_ge p t.length with z | z
    · exact z
    · rw [gL_out z] at c2; exact absurd (by decide) c2
  have hs := sgn_bd t p t.length hp2
  rw [hat, hT.1, bd_of (signSize_eq hT hp2 (Nat.le_refl _))]
  simp only []
  by_cases c3 : sgn t p t.length = 0
  · rw [if_pos c3, if_pos (show nI (sgn t p t.length) = 0 by rw [c3]; rfl), hat, bd_of (wrong_eq hf _ _)]
    exact MBad.of (k := 2) (MFr_rfl σ) rfl
  · rw [if_neg c3, if_neg (show ¬ nI (sgn t p t.length) = 0 from nI_ne0 (by omega) (by omega))]
    exact m_copy hs.1 hs.2 (sgn t p t.length) 0 FU σ L (by omega) (by show _ < 100000; omega) hT hat hL (by omega)
theorem m_str_loop {t : List Nat} {b l0 : Nat} (hb : b < 4200) : ∀ (m f : Nat) (σ : MSt) (p : Nat) (L : List Nat), t.length - p < m → m < f → p ≤ t.length → TpM σ t → mf_fault σ = 0 → mf_at σ = nI p → MLt σ L → L.length + (t.length - p) + 4 ≤ 8200 → mf_places σ b = nI l0 → l0 ≤ L.length → match sStrF t m p with
    | .inl kq => MBad σ kq.1 kq.2 (mm_string_L17 f (nI b) σ)
    | .inr y => ∃ σ1, mm_string_L17 f (nI b) σ = some (true, ms_numbers (ms_at σ1 (nI y.2)) (vp_updL (mf_numbers σ) b (lN (L.length + y.1.length - l0)))) ∧ MLq σ σ1 ∧ MLt σ1 (L ++ y.1) := by
  intro m
  induction m with
  | zero => intro f σ p L h; omega
  | succ m ih =>
    intro f σ p L hm hf hp hT hfa hat hL hl hpl hl0
    obtain ⟨f, rfl⟩ : ∃ g, f = g + 1 := ⟨f - 1, by omega⟩
    have hle := hT.2.1
    show match sStrF t (m + 1) p with
      | .inl kq => MBad σ kq.1 kq.2 (mm_string_b17 (mm_string_L17 f) (nI b) σ)
      | .inr y => ∃ σ1, mm_string_b17 (mm_string_L17 f) (nI b) σ = some (true, ms_numbers (ms_at σ1 (nI y.2)) (vp_updL (mf_numbers σ) b (lN (L.length + y.1.length - l0)))) ∧ MLq σ σ1 ∧ MLt σ1 (L ++ y.1)
    unfold sStrF
    by_cases c : gL t p = 34
    · rw [if_pos c]
      refine ⟨σ, ?_, MLq.rfl' σ, by rw [List.append_nil]; exact hL⟩
      unfold mm_string_b17
      rw [bd_of (here_eq hT (by omega) hat)]
      simp only []
      rw [if_pos c, ck_in (vp_in_nI hb (by decide)), ck_in (vp_in_nI hb (by decide)), nI_clamp (by omega), hpl, hL.1, hat, nI_1, pk_sub hl0, nI_l (by omega)]
      rfl
    · rw [if_neg c]
      have hs := m_sgn (a1 := nI b) (k17 := mm_string_L17 f) hT hfa hat hp hL (by omega) c
      cases hr : sSgn t p with
      | inl kq =>
        rw [hr] at hs
        exact hs
      | inr y =>
        obtain ⟨b1, p1⟩ := y
        have g1 := sSgn_bd hT.2.2.1 hr
        rw [hr] at hs
        obtain ⟨σ1, e1, q1, a1, l1⟩ := hs
        have hal : (L ++ b1).length = L.length + b1.length := List.length_append
        have r := ih f σ1 p1 (L ++ b1) (by omega) (by omega) g1.2.1 (hT.fr q1.1.1) (q1.2.1.trans hfa) a1 l1 (by omega) (by rw [q1.2.2.2.2.2]; exact hpl) (by omega)
        simp only []
        cases hr2 : sStrF t m p1 with
        | inl kq =>
          rw [hr2] at r
          show MBad σ kq.1 kq.2 _
          rw [e1]
          exact MBad.fr q1.1.1 r
        | inr cq =>
          obtain ⟨c1, q⟩ := cq
          rw [hr2] at r
          obtain ⟨σ2, e2, q2, l2⟩ := r
          refine ⟨σ2, ?_, q1.trans q2, ?_⟩
          · rw [e1, e2, q1.2.2.2.2.1, hal]
            simp only [List.length_append, Nat.add_assoc]
          · simp only [← List.append_assoc]
            exact l2
