/-! PURE II: a head and its text, read by the reference -/
section HM
variable {t : List Nat}
theorem m_copyT {p n : Nat} {a3 : Int32} {k39 : Int32 → MSt → Option (Bool × MSt)} (hn : n ≤ 4) (hpn : p + n ≤ t.length) : ∀ (m i f : Nat) (σ : MSt) (L : List Nat), i + m = n → m < f → TpM σ t → mf_at σ = nI p → MLt σ L → L.length + m ≤ 8200 → ∃ σ', mm_text_L76 k39 f a3 (nI n) (nI i) σ = k39 a3 σ' ∧ MLq σ σ' ∧ mf_at σ' = nI (p + n) ∧ MLt σ' (L ++ sl t (p + i) m) := by
  intro m
  induction m with
  | zero =>
    intro i f σ L him hf hT hat hL hl
    obtain ⟨f, rfl⟩ : ∃ g, f = g + 1 := ⟨f - 1, by omega⟩
    have hle := hT.2.1
    refine ⟨ms_at σ (nI (p + n)), ?_, MLq.at σ _, by rw [mG_at_at], by rw [sl_0, List.append_nil]; exact hL.at _⟩
    show mm_text_b76 _ _ _ _ _ σ = _
    unfold mm_text_b76
    rw [if_pos (nI_le (by omega) (by omega)), hat, nI_add]
  | succ m ih =>
    intro i f σ L him hf hT hat hL hl
    obtain ⟨f, rfl⟩ : ∃ g, f = g + 1 := ⟨f - 1, by omega⟩
    have hle := hT.2.1
    have hb := getD_lt hT.2.2.1 (p + i)
    show ∃ σ', mm_text_b76 k39 (mm_text_L76 k39 f) a3 (nI n) (nI i) σ = _ ∧ _
    unfold mm_text_b76
    rw [if_neg (nI_ge (by omega) (by omega)), hat, nI_add, ck_in (vp_in_nI (by omega) (by decide)), nI_clamp (by omega), hT.2.2.2 _ (by omega)]
    obtain ⟨σ1, e1, q1, b1, l1⟩ := m_letterN hL (by omega) (n := t.getD (p + i) 0) hb rfl
    rw [bd_of e1]
    simp only [lt]
    rw [nI_1]
    obtain ⟨σ2, e2, q2, b2, l2⟩ := ih (i + 1) f σ1 _ (by omega) (by omega) (hT.fr q1.1.1) (b1.trans hat) l1 (by simp only [List.length_append, List.length_singleton]; omega)
    refine ⟨σ2, e2, q1.trans q2, b2, ?_⟩
    rw [sl_cons (by omega)]
    rw [List.append_assoc] at l2
    exact l2
theorem m_text_loop {e : Nat} (hel : e ≤ t.length) : ∀ (m f : Nat) (σ : MSt) (p : Nat) (L : List Nat), e - p < m → m < f → p ≤ e → TpM σ t → mf_fault σ = 0 → mf_at σ = nI p → MLt σ L → L.length + (e - p) + 4 ≤ 8200 → match sTxF t e m p with
    | some x => MBad σ 3 x (mm_text_L39 f (nI e) σ)
    | none => ∃ σ', mm_text_L39 f (nI e) σ = some (true, σ') ∧ MLq σ σ' ∧ mf_at σ' = nI e ∧ MLt σ' (L ++ sl t p (e - p)) := by
  intro m
  induction m with
  | zero => intro f σ p L h; omega
  | succ m ih =>
    intro f σ p L hm hf hp hT hfa hat hL hl
    obtain ⟨f, rfl⟩ : ∃ g, f = g + 1 := ⟨f - 1, by omega⟩
    have hle := hT.2.1
    unfold sTxF
    by_cases c : e ≤ p
    · rw [if_pos c]
      refine ⟨σ, ?_, MLq.rfl' σ, by rw [hat, show p = e by omega], by rw [show e - p = 0 by omega, sl_0, List.append_nil]; exact hL⟩
      show mm_text_b39 (mm_text_L39 f) _ σ = _
      unfold mm_text_b39
      rw [hat, if_pos (nI_le c (by omega))]
    · have hs := sgn_bd t p e (by omega)
      rw [if_neg c]
      have hb : mm_text_L39 (f + 1) (nI e) σ = if nI (sgn t p e) = 0 then some (false, mF σ (nI 3) (nI p)) else mm_text_L76 (mm_text_L39 f) FU (nI e) (nI (sgn t p e)) (0 : Int32) σ := by
        show mm_text_b39 (mm_text_L39 f) _ σ = _
        unfold mm_text_b39
        rw [hat, if_neg (nI_ge (by omega) (by omega)), bd_of (signSize_eq hT (by omega) hel)]
        simp only []
        rw [hat, bd_of (wrong_eq hfa _ _)]
        rfl
      rw [hb]
      by_cases c0 : sgn t p e = 0
      · rw [if_pos c0, if_pos (show nI (sgn t p e) = 0 by rw [c0]; rfl)]
        exact MBad.of (MFr_rfl σ) rfl
      · rw [if_neg c0, if_neg (nI_ne0 (by omega) (by omega))]
        obtain ⟨σ1, e1, q1, b1, l1⟩ := m_copyT (t := t) (p := p) (n := sgn t p e) (a3 := nI e) (k39 := mm_text_L39 f) hs.1 (by omega) (sgn t p e) 0 FU σ L (by omega) (by show _ < 100000; omega) hT hat hL (by omega)
        rw [show mm_text_L76 (mm_text_L39 f) FU (nI e) (nI (sgn t p e)) (0 : Int32) σ = _ from e1]
        have hll : (L ++ sl t (p + 0) (sgn t p e)).length = L.length + sgn t p e := by rw [List.length_append, sl_len (by omega)]
        have r := ih f σ1 (p + sgn t p e) _ (by omega) (by omega) hs.2 (hT.fr q1.1.1) (q1.2.1.trans hfa) b1 l1 (by rw [hll]; omega)
        cases hr : sTxF t e m (p + sgn t p e) with
        | some x =>
          rw [hr] at r
          exact MBad.fr q1.1.1 r
        | none =>
          rw [hr] at r
          obtain ⟨σ2, e2, q2, b2, l2⟩ := r
          refine ⟨σ2, e2, q1.trans q2, b2, ?_⟩
          have es : sl t p (e - p) = sl t p (sgn t p e) ++ sl t (p + sgn t p e) (e - (p + sgn t p e)) := by
            rw [← sl_app]
            congr 1
            omega
          rw [es]
          rw [List.append_assoc] at l2
          exact l2
theorem m_text {σ : MSt} {q v : Nat} {L : List Nat} (hT : TpM σ t) (hfa : mf_fault σ = 0) (hat : mf_at σ = nI q) (hq : q ≤ t.length) (hv : v < 2 ^ 64) (hL : MLt σ L) (hl : L.length ≤ 4000) : match sTx t v q with
    | .inl kq => MBad σ kq.1 kq.2 (mm_text (lN v) σ)
    | .inr ls => ∃ σ', mm_text (lN v) σ = some (true, σ') ∧ MLq σ σ' ∧ mf_at σ' = nI (q + v) ∧ MLt σ' (L ++ ls) := by
  have hle := hT.2.1
  have h21 : mm_text_b21 σ = some (false, mF σ (nI 1) (nI t.length)) := by
    unfold mm_text_b21
    rw [hT.1, bd_of (wrong_eq hfa _ _)]
    rfl
  have hb : mm_text (lN v) σ = if v ≤ t.length - q then mm_text_L39 FU (nI (q + v)) σ else some (false, mF σ (nI 1) (nI t.length)) := by
    unfold mm_text
    rw [hT.1, hat, pk_sub hq, nI_l (by omega), lN_i, h21]
    simp only [lt]
    rw [nI_add]
    by_cases c : v < 2 ^ 63
    · rw [if_neg (lN_nneg c)]
      by_cases c2 : v ≤ t.length - q
      · rw [if_pos c2, if_pos ((pk_lLE c (by omega)).mpr c2)]
      · rw [if_neg c2, if_neg (fun z => c2 ((pk_lLE c (by omega)).mp z))]
    · rw [if_pos (lN_neg (by omega) hv), if_neg (by omega)]
  unfold sTx
  rw [hb]
  by_cases c : t.length - q < v
  · rw [if_pos c, if_neg (by omega)]
    exact MBad.of (MFr_rfl σ) rfl
  · rw [if_neg c, if_pos (by omega)]
    have r := m_text_loop (t := t) (e := q + v) (by omega) (v + 1) FU σ q L (by omega) (by show _ < 100000; omega) (by omega) hT hfa hat hL (by omega)
    cases hr : sTxF t (q + v) (v + 1) q with
    | some x =>
      rw [hr] at r
      exact r
    | none =>
      rw [hr] at r
      rw [Nat.add_sub_cancel_left] at r
      exact r
section HT
variable {σ : MSt} {p d D o : Nat} {T : List Th} {L : List Nat} {key : Bool}
theorem m_b318 {q ty v : Nat} (hT : TpM σ t) (h : MR σ q T L) (hq : q ≤ t.length) (hTl : T.length ≤ 4000) (hLl : L.length ≤ 4000) (hty : ty < 8) (hv : v < 2 ^ 64) (hh : sHd t key p = .inr ((ty, v), q)) (hd : ¬ ((ty = 4 ∨ ty = 5) ∧ d = 0)) : MSc σ T L (mapR (fun y => ([y.1], y.2)) (sTk t key d p)) (mm_head_b318 (nI ty) (lN v) σ) := by
  obtain ⟨h1, h2, h3, h4⟩ := h
  unfold mm_head_b318
  rw [bd_of (thing_eq _ _ (by rw [h3.1]; exact vp_in_nI (by omega) (by decide)))]
  simp only []
  obtain ⟨σ1, e1⟩ : ∃ σ1, σ1 = mT σ (nI ty) (lN v) := ⟨_, rfl⟩
  rw [← e1]
  have H1 : MTh σ1 (T ++ [(ty, v, L.length)]) := by rw [e1]; exact MTh_mT h3 h4 (by omega) ty v
  have L1 : MLt σ1 L := by rw [e1]; exact MLt_mT h4 _ _
  have Q1 : MQu σ σ1 := by rw [e1]; exact MQu_mT σ _ _
  have A1 : mf_at σ1 = nI q := by rw [e1, at_mT]; exact h1
  have F1 : mf_fault σ1 = 0 := by rw [e1, fault_mT]; exact h2
  by_cases c3 : ty = 3
  · subst c3
    rw [if_pos (show nI 3 = (3 : Int32) from rfl)]
    have r := m_text (hT.fr Q1.1) F1 A1 hq hv L1 hLl
    cases hx : sTx t v q with
    | inl kq =>
      rw [hx] at r
      obtain ⟨σ2, e2, g2⟩ := r
      rw [sTk_x hh hx, bd_of e2]
      exact MBad.fr Q1.1 ⟨σ2, rfl, g2⟩
    | inr ls =>
      rw [hx] at r
      obtain ⟨σ2, e2, q2, a2, l2⟩ := r
      rw [sTk_t hh hx, bd_of e2]
      refine ⟨σ2, rfl, Q1.trans q2.1, a2, q2.2.1.trans F1, H1.lq q2, ?_⟩
      show MLt σ2 (L ++ (ls ++ []))
      rw [List.append_nil]
      exact l2
  · rw [if_neg (show ¬ nI ty = (3 : Int32) from fun z => c3 ((nI_eq (b := 3) (by omega) (by decide)).mp z)), sTk_s hh c3 hd]
    refine ⟨σ1, rfl, Q1, A1, F1, H1, ?_⟩
    show MLt σ1 (L ++ ([] ++ []))
    rw [List.append_nil, List.append_nil]
    exact L1
theorem m_b277 {q n ty v : Nat} (hT : TpM σ t) (h : MR σ p T L) (hp : p ≤ q) (hq : q ≤ t.length) (hqn : q = p + 1 + n) (hTl : T.length ≤ 4000) (hLl : L.length ≤ 4000) (hop : mf_open σ = nI o) (hdp : mf_depth σ = nI D) (hod : o + d = D) (hD : D ≤ 40) (hty : ty < 8) (hv : v < 2 ^ 64) (hh : sHd t key p = .inr ((ty, v), q)) : MSc σ T L (mapR (fun y => ([y.1], y.2)) (sTk t key d p)) (mm_head_b277 (nI p) (nI ty) (nI n) (lN v) σ) := by
  obtain ⟨h1, h2, h3, h4⟩ := h
  obtain ⟨σ1, e1⟩ : ∃ σ1, σ1 = ms_at σ (nI q) := ⟨_, rfl⟩
  have Q1 : MLq σ σ1 := by rw [e1]; exact MLq.at σ _
  have R1 : MR σ1 q T L := ⟨by rw [e1, mG_at_at], Q1.2.1.trans h2, h3.lq Q1, by rw [e1]; exact h4.at _⟩
  have T1 := hT.fr Q1.1.1
  have lift : ∀ {r x}, MSc σ1 T L r x → MSc σ T L r x := by
    intro r x hx
    cases r with
    | inl kq => exact MBad.fr Q1.1.1 hx
    | inr y =>
      obtain ⟨σ2, e2, q2, r2⟩ := hx
      exact ⟨σ2, e2, Q1.1.trans q2, r2⟩
  have hb : mm_head_b277 (nI p) (nI ty) (nI n) (lN v) σ = if ty = 4 ∨ ty = 5 then mm_head_b300 (nI p) (nI ty) (lN v) σ1 else mm_head_b318 (nI ty) (lN v) σ1 := by
    unfold mm_head_b277
    rw [h1, nI_1, nI_add, show p + (n + 1) = q by omega, ← e1]
    by_cases c4 : ty = 4
    · rw [if_pos (Or.inl c4), if_pos (show nI ty = (4 : Int32) by rw [c4]; rfl)]
    rw [if_neg (show ¬ nI ty = (4 : Int32) from fun z => c4 ((nI_eq (b := 4) (by omega) (by decide)).mp z))]
    by_cases c5 : ty = 5
    · rw [if_pos (Or.inr c5), if_pos (show nI ty = (5 : Int32) by rw [c5]; rfl)]
    rw [if_neg (show ¬ nI ty = (5 : Int32) from fun z => c5 ((nI_eq (b := 5) (by omega) (by decide)).mp z)), if_neg (fun z => z.elim c4 c5)]
  rw [hb]
  refine lift ?_
  by_cases c : ty = 4 ∨ ty = 5
  · rw [if_pos c]
    unfold mm_head_b300
    rw [Q1.1.2.1.1, hop, Q1.1.1.1.2.2, hdp]
    by_cases cd : d = 0
    · subst cd
      rw [if_pos (show nI o = nI D by rw [← hod]; rfl), bd_of (wrong_eq R1.2.1 _ _), sTk_d hh c]
      exact MBad.of (k := 4) (MFr_rfl σ1) rfl
    · rw [if_neg (fun z => by have := (nI_eq (by omega) (by omega)).mp z; omega)]
      exact m_b318 T1 R1 hq hTl hLl hty hv hh (fun z => cd z.2)
  · rw [if_neg c]
    exact m_b318 T1 R1 hq hTl hLl hty hv hh (fun z => c z.1)
theorem m_b187 {a2 a3 : Int32} {n : Nat} (hT : TpM σ t) (hat : mf_at σ = nI p) (hn : n ≤ 8) (hpn : p + n < t.length) : ∀ (m k f : Nat), k + m = n → m < f → mm_head_L187 f a2 a3 (nI n) (lN (bv t (p + 1) k)) (nI (k + 1)) σ = (if nI n = (1 : Int32) then mm_head_b239 a2 a3 (nI n) (lN (bv t (p + 1) n)) (24 : Int64) σ else mm_head_b239 a2 a3 (nI n) (lN (bv t (p + 1) n)) ((1 : Int64) <<< (Int32.toInt64 ((4 : Int32) * nI n) &&& 63)) σ) := by
  have hle := hT.2.1
  have ht := hT.2.2.1
  intro m
  induction m with
  | zero =>
    intro k f hk hf
    obtain ⟨f, rfl⟩ : ∃ g, f = g + 1 := ⟨f - 1, by omega⟩
    show mm_head_b187 _ _ _ _ _ _ σ = _
    unfold mm_head_b187
    rw [if_pos (nI_lt (by omega) (by omega)), show k = n by omega]
  | succ m ih =>
    intro k f hk hf
    obtain ⟨f, rfl⟩ : ∃ g, f = g + 1 := ⟨f - 1, by omega⟩
    have hb := getD_lt ht (p + 1 + k)
    have hv := bv_lt ht (p + 1) (k + 1)
    have h64 : 256 ^ (k + 1) ≤ 2 ^ 64 := Nat.le_trans (Nat.pow_le_pow_right (by decide) (show k + 1 ≤ 8 by omega)) (by decide)
    have e : bv t (p + 1) (k + 1) = bv t (p + 1) k * 256 + t.getD (p + 1 + k) 0 := rfl
    show mm_head_b187 (mm_head_L187 f) _ _ _ _ _ σ = _
    unfold mm_head_b187
    rw [if_neg (nI_nlt (by omega) (by omega)), hat, nI_add, ck_in (vp_in_nI (by omega) (by decide)), nI_clamp (by omega), hT.2.2.2 _ (by omega)]
    simp only [lt]
    rw [show p + (k + 1) = p + 1 + k by omega, shl8 hb (by rw [← e]; omega), ← e, nI_1]
    exact ih (k + 1) f (by omega) (by omega)
theorem m_b239 {a2 a3 : Int32} {n v : Nat} (hn : n = 1 ∨ n = 2 ∨ n = 4 ∨ n = 8) (hv : v < 256 ^ n) : (if nI n = (1 : Int32) then mm_head_b239 a2 a3 (nI n) (lN v) (24 : Int64) σ else mm_head_b239 a2 a3 (nI n) (lN v) ((1 : Int64) <<< (Int32.toInt64 ((4 : Int32) * nI n) &&& 63)) σ) = if nb v = n then mm_head_b277 a2 a3 (nI n) (lN v) σ else mm_head_b269 a2 σ := by
  have small : ∀ (n w : Nat) (s0 : Int64), n < 8 → s0 = lN w → w < 2 ^ 63 → v < 2 ^ 63 → (nb v = n ↔ w ≤ v) → mm_head_b239 a2 a3 (nI n) (lN v) s0 σ = if nb v = n then mm_head_b277 a2 a3 (nI n) (lN v) σ else mm_head_b269 a2 σ := by
    intro n w s0 h8 hs hw hv63 hiff
    unfold mm_head_b239
    rw [if_neg (show ¬ (8 : Int32) ≤ nI n from nI_ge (b := 8) h8 (by decide)), hs]
    by_cases c : w ≤ v
    · rw [if_pos (hiff.mpr c), if_pos ((pk_lLE hw hv63).mpr c)]
    · rw [if_neg (fun z => c (hiff.mp z)), if_neg (fun z => c ((pk_lLE hw hv63).mp z))]
  rcases hn with rfl | rfl | rfl | rfl
  · have hh : v < 256 := hv
    rw [if_pos (show nI 1 = (1 : Int32) from rfl)]
    refine small 1 24 24 (by decide) rfl (by decide) (by omega) ?_
    unfold nb
    repeat' split
    all_goals omega
  · have hh : v < 65536 := hv
    rw [if_neg (by decide)]
    refine small 2 256 _ (by decide) (by decide +kernel) (by decide) (by omega) ?_
    unfold nb
    repeat' split
    all_goals omega
  · have hh : v < 4294967296 := hv
    rw [if_neg (by decide)]
    refine small 4 65536 _ (by decide) (by decide +kernel) (by decide) (by omega) ?_
    unfold nb
    repeat' split
    all_goals omega
  · have hh : v < 2 ^ 64 := hv
    rw [if_neg (by decide)]
    unfold mm_head_b239
    rw [if_pos (by decide), show (Int64.toUInt64 (lN v) >>> ((Int32.toInt64 (32 : Int32)).toUInt64 &&& Int64.toUInt64 63)).toInt64 = lN (v / 2 ^ 32) from wb_shr (k := 32) hh (by decide)]
    have hiff : nb v = 8 ↔ ¬ v / 2 ^ 32 = 0 := by
      unfold nb
      repeat' split
      all_goals omega
    by_cases c : v / 2 ^ 32 = 0
    · rw [if_neg (fun z => (hiff.mp z) c), c, if_pos (show lN 0 = (0 : Int64) from rfl)]
    · rw [if_pos (hiff.mpr c), if_neg (lN_ne0 (by omega) (by omega))]
/-- the way through a head's first byte -/
def HHn (ty a key : Int32) : Nat :=
  let b110 : Nat := if a = (31 : Int32) then 6 else 0
  let b94 : Nat := if key = 0 then b110 else (if ty = (3 : Int32) then b110 else 2)
  let b63 : Nat := if ty = (2 : Int32) then 2 else (if ty = (6 : Int32) then 2 else (if ty = (7 : Int32) then (if a < (20 : Int32) then 2 else (if (22 : Int32) < a then 2 else b94)) else b94))
  if a ≤ (27 : Int32) then b63 else (if a < (31 : Int32) then 1 else (if ty < (2 : Int32) then 1 else (if ty = (7 : Int32) then 1 else b63)))
theorem HHn_hFt : ∀ ty, ty < 8 → ∀ a, a < 32 → HHn (nI ty) (nI a) (bI true) = hFt ty a true ∧ HHn (nI ty) (nI a) (bI false) = hFt ty a false := by decide +kernel
theorem hNb_M : ∀ a, a < 28 → (if (24 : Int32) ≤ nI a then (1 : Int32) <<< ((nI a - (24 : Int32)) &&& 31) else (0 : Int32)) = nI (hNb a) := by decide +kernel
theorem m_head (hT : TpM σ t) (h : MR σ p T L) (hp : p < t.length) (hTl : T.length ≤ p) (hLl : L.length ≤ p) (hop : mf_open σ = nI o) (hdp : mf_depth σ = nI D) (hod : o + d = D) (hD : D ≤ 40) : MSc σ T L (mapR (fun y => ([y.1], y.2)) (sTk t key d p)) (mm_head (bI key) σ) := by
  obtain ⟨h1, h2, h3, h4⟩ := id h
  have hle := hT.2.1
  have ht := hT.2.2.1
  have hb := getD_lt ht p
  obtain ⟨ty, ety⟩ : ∃ ty, ty = t.getD p 0 / 32 := ⟨_, rfl⟩
  obtain ⟨a, ea⟩ : ∃ a, a = t.getD p 0 % 32 := ⟨_, rfl⟩
  obtain ⟨F, eF⟩ : ∃ F : Nat → Option (Bool × MSt), F = fun k => if k = 0 then mm_head_b143 (nI p) (nI ty) (nI a) (if (24 : Int32) ≤ nI a then (1 : Int32) <<< ((nI a - (24 : Int32)) &&& 31) else (0 : Int32)) σ else some (false, mF σ (nI k) (nI p)) := ⟨_, rfl⟩
  have F1 : mm_head_b56 (nI p) σ = F 1 := by
    unfold mm_head_b56
    rw [bd_of (wrong_eq h2 _ _), eF]
    rfl
  have F2 : mm_head_b103 (nI p) σ = F 2 := by
    unfold mm_head_b103
    rw [bd_of (wrong_eq h2 _ _), eF]
    rfl
  have F6 : bd (mm_wrong (6 : Int32) (nI p) σ) (fun (x21 : Bool × MSt) => some (x21.1, x21.2)) = F 6 := by
    rw [bd_of (wrong_eq h2 _ _), eF]
    rfl
  have F0 : (if (24 : Int32) ≤ nI a then mm_head_b143 (nI p) (nI ty) (nI a) ((1 : Int32) <<< ((nI a - (24 : Int32)) &&& 31)) σ else mm_head_b143 (nI p) (nI ty) (nI a) (0 : Int32) σ) = F 0 := by
    rw [eF]
    show _ = if (0 : Nat) = 0 then mm_head_b143 (nI p) (nI ty) (nI a) (if (24 : Int32) ≤ nI a then (1 : Int32) <<< ((nI a - (24 : Int32)) &&& 31) else (0 : Int32)) σ else _
    rw [if_pos rfl]
    split <;> rfl
  have hH : mm_head (bI key) σ = F (HHn (nI ty) (nI a) (bI key)) := by
    unfold mm_head
    simp only [lt]
    rw [h1, ck_in (vp_in_nI (by omega) (by decide)), ck_in (vp_in_nI (by omega) (by decide)), nI_clamp (by omega), hT.2.2.2 p hp, show nI (t.getD p 0) &&& (31 : Int32) = nI a by rw [pk_andN (m := 31) (by omega) 5 (by decide), ea], show nI (t.getD p 0) >>> ((5 : Int32) &&& 31) = nI ty by rw [pk_shrN (by omega) _ 5 (by decide), ety]]
    unfold mm_head_b63 mm_head_b94 mm_head_b110
    rw [F6, F0]
    simp only [F1, F2]
    unfold HHn
    simp only [apply_ite F]
  have hHF : HHn (nI ty) (nI a) (bI key) = hFt ty a key := by
    cases key with
    | true => exact (HHn_hFt ty (by omega) a (by omega)).1
    | false => exact (HHn_hFt ty (by omega) a (by omega)).2
  rw [hH, hHF, eF]
  have hsp : sHd t key p = if hFt ty a key ≠ 0 then .inl (hFt ty a key, p) else
      if t.length - p ≤ hNb a then .inl (1, t.length) else if a < 24 then .inr ((ty, a), p + 1) else
      if nb (bv t (p + 1) (hNb a)) = hNb a then .inr ((ty, bv t (p + 1) (hNb a)), p + 1 + hNb a) else .inl (6, p) := by
    unfold sHd
    rw [if_neg (by omega), ety, ea]
  show MSc σ T L _ (if hFt ty a key = 0 then _ else _)
  by_cases c1 : hFt ty a key = 0
  · have ha := hFt_0 c1 (by omega)
    have h8 := hNb_le a
    rw [if_pos c1, hNb_M a ha]
    rw [if_neg (fun z => z c1)] at hsp
    unfold mm_head_b143
    rw [hT.1, h1, pk_sub (by omega), show nI (t.length - p) - (1 : Int32) = nI (t.length - p - 1) from pk_sub (b := 1) (by omega)]
    by_cases c2 : t.length - p ≤ hNb a
    · rw [if_pos c2] at hsp
      rw [if_neg (nI_ge (by omega) (by omega)), bd_of (wrong_eq h2 _ _), sTk_l hsp]
      exact MBad.of (k := 1) (MFr_rfl σ) rfl
    rw [if_neg c2] at hsp
    rw [if_pos (nI_le (by omega) (by omega))]
    simp only [lt]
    by_cases c3 : a < 24
    · have e0 : hNb a = 0 := by unfold hNb; rw [if_pos c3]
      rw [if_pos c3] at hsp
      rw [e0, if_pos (show nI 0 ≤ (0 : Int32) by decide), nI_l (by omega)]
      exact m_b277 hT h (by omega) (by omega) (by omega) (by omega) (by omega) hop hdp hod hD (by omega) (by omega) hsp
    · have hpos : hNb a = 1 ∨ hNb a = 2 ∨ hNb a = 4 ∨ hNb a = 8 := by
        unfold hNb
        rw [if_neg c3]
        repeat' split
        all_goals omega
      rw [if_neg c3] at hsp
      have hv := bv_lt ht (p + 1) (hNb a)
      have hl := m_b187 (a2 := nI p) (a3 := nI ty) hT h1 h8 (by omega) (hNb a) 0 FU (by omega) (by show _ < 100000; omega)
      rw [if_neg (nI_np (by omega) (by omega)), show mm_head_L187 FU (nI p) (nI ty) (nI (hNb a)) (0 : Int64) (1 : Int32) σ = _ from hl, m_b239 hpos hv]
      have hv64 : bv t (p + 1) (hNb a) < 2 ^ 64 := Nat.lt_of_lt_of_le hv (Nat.le_trans (Nat.pow_le_pow_right (by decide) h8) (by decide))
      by_cases c4 : nb (bv t (p + 1) (hNb a)) = hNb a
      · rw [if_pos c4] at hsp ⊢
        exact m_b277 hT h (by omega) (by omega) rfl (by omega) (by omega) hop hdp hod hD (by omega) hv64 hsp
      · rw [if_neg c4] at hsp ⊢
        unfold mm_head_b269
        rw [bd_of (wrong_eq h2 _ _), sTk_l hsp]
        exact MBad.of (k := 6) (MFr_rfl σ) rfl
  · rw [if_pos c1] at hsp
    rw [if_neg c1, sTk_l hsp]
    exact MBad.of (MFr_rfl σ) rfl
end HT
end HM
