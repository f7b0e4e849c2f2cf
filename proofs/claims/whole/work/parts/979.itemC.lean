/-! PURE KK: CBOR, read by the reference -/
theorem thL_two (T : List Th) (L : List Nat) (a b : List Tok) : T ++ thL L.length a ++ thL (L ++ ltL a).length b = T ++ thL L.length (a ++ b) := by
  rw [thL_app, List.length_append, List.append_assoc]
theorem ltL_two (L : List Nat) (a b : List Tok) : L ++ ltL a ++ ltL b = L ++ ltL (a ++ b) := by rw [ltL_app, List.append_assoc]
theorem gT_of {T : List Th} {U : List Th} {i : Nat} {x : Th} (h : gT T i = x) (hi : i < T.length) : gT (T ++ U) i = x := by rw [gT_app hi]; exact h
def COK (t : List Nat) (D : Nat) (σ : MSt) (p : Nat) (T : List Th) (L st lf' : List Nat) (r : Rd ((List Tok × List Nat) × Nat)) : Prop := match r with
  | .inl kq => ∀ f, t.length + 2 - p ≤ f → ∃ σ', mm_readsCbor_L2 f 1 σ = some σ' ∧ BadS σ σ' kq
  | .inr y => ∃ σ', CS t D σ' y.2 (T ++ thL L.length y.1.1) (L ++ ltL y.1.1) st lf' ∧ MG σ σ' ∧ ∀ f, t.length + 2 - p ≤ f → ∃ f' g', t.length + 2 - y.2 ≤ f' ∧ st.length + 1 ≤ g' ∧ mm_readsCbor_L2 f 1 σ = CB f' g' σ'
def VC (t : List Nat) (D d : Nat) : Prop := ∀ (σ : MSt) (p : Nat) (T : List Th) (L st lf lf' : List Nat), CS t D σ p T L st lf → DL lf lf' → (∀ l0 n, lf = l0 ++ [n] → n < 2 ^ 31) → mm_isKey σ = some (false, σ) → st.length + d = D → COK t D σ p T L st lf' (sIt t d p)
def CPK (t : List Nat) (D : Nat) (σ : MSt) (p : Nat) (T : List Th) (L st lf : List Nat) (r : Rd ((List Tok × List Nat) × Nat)) : Prop := match r with
  | .inl kq => ∀ f g, t.length + 2 - p ≤ f → st.length + 2 ≤ g → ∃ σ', CB f g σ = some σ' ∧ BadS σ σ' kq
  | .inr y => ∃ σ', CS t D σ' y.2 (T ++ thL L.length y.1.1) (L ++ ltL y.1.1) st lf ∧ MG σ σ' ∧ ∀ f g, t.length + 2 - p ≤ f → st.length + 2 ≤ g → ∃ f' g', t.length + 2 - y.2 ≤ f' ∧ st.length + 1 ≤ g' ∧ CB f g σ = CB f' g' σ'
theorem snoc_lt {lf : List Nat} {a : Nat} (h : a < 2 ^ 31) : ∀ l0 n, lf ++ [a] = l0 ++ [n] → n < 2 ^ 31 := by
  intro l0 n e
  have := congrArg List.getLast? e
  rw [List.getLast?_append, List.getLast?_append] at this
  have e2 : a = n := Option.some.inj this
  omega
section ITC
variable {t : List Nat} {D d : Nat}
theorem c_parts (hV : VC t D d) (hD : D ≤ 40) {isMap : Bool} {b : Nat} : ∀ (m : Nat) (σ : MSt) (p : Nat) (T : List Th) (L st lf : List Nat) (fst : Bool), m ≤ 100000 → CS t D σ p T L (st ++ [b]) (lf ++ [lft isMap m]) → b < T.length → (gT T b).1 = srt isMap → st.length + 1 + d = D → CPK t D σ p T L st lf (sIts t (sIt t d) d isMap m fst p) := by
  intro m
  induction m with
  | zero =>
    intro σ p T L st lf fst hm h hb hs hst
    have h' : CS t D σ p T L (st ++ [b]) (lf ++ [0]) := by
      have e : lft isMap 0 = 0 := by cases isMap <;> rfl
      rw [e] at h
      exact h
    refine ⟨ms_open σ (nI st.length), ?_, (cb_pop (f := 0) (g := 0) h').2.2, fun f g hf hg => ?_⟩
    · show CS t D _ p (T ++ []) (L ++ []) st lf
      rw [List.append_nil, List.append_nil]
      exact (cb_pop (f := 0) (g := 0) h').2.1
    · obtain ⟨g, rfl⟩ : ∃ k, g = k + 1 := ⟨g - 1, by omega⟩
      exact ⟨f, g, hf, by omega, (cb_pop h').1⟩
  | succ m ih =>
    intro σ p T L st lf fst hm h hb hs hst
    obtain ⟨hM, hl, hlf⟩ := id h
    obtain ⟨⟨hT, hDp⟩, hR, hO, hTl, hLl, hp⟩ := id hM
    have hle := hT.2.1
    have ht := hT.2.2.1
    have hlt : lft isMap m ≤ 200000 := by unfold lft; split <;> omega
    have hlen : (st ++ [b]).length = st.length + 1 := len_snoc st b
    -- behind the key
    have main : ∀ (ks : List Tok) (kj : List Nat) (p1 : Nat) (σ1 : MSt), sKy t isMap d p = .inr ((ks, kj), p1) → CS t D σ1 p1 (T ++ thL L.length ks) (L ++ ltL ks) (st ++ [b]) (lf ++ [lft isMap m + 1]) → MG σ σ1 → mm_isKey σ1 = some (false, σ1) → (∀ f g, t.length + 2 - p ≤ f → st.length + 2 ≤ g → ∃ f1, t.length + 2 - p1 ≤ f1 ∧ CB f g σ = mm_readsCbor_L2 f1 1 σ1) → CPK t D σ p T L st lf (sIts t (sIt t d) d isMap (m + 1) fst p) := by
      intro ks kj p1 σ1 hk C1 G1 key1 run1
      obtain ⟨k1, k2, k3, k4⟩ := sKy_bd ht hp hk
      have kl := k2.2.1
      have hv := hV σ1 p1 _ _ _ _ (lf ++ [lft isMap m]) C1 (Or.inr ⟨lf, lft isMap m, rfl, rfl⟩) (snoc_lt (by omega)) key1 (by rw [hlen]; exact hst)
      cases hi : sIt t d p1 with
      | inl kq =>
        rw [hi] at hv
        rw [sIts_v hk hi]
        intro f g hf hg
        obtain ⟨f1, z1, z2⟩ := run1 f g hf hg
        obtain ⟨σ', ex, gg⟩ := hv f1 z1
        exact ⟨σ', by rw [z2, ex], gg.fr G1.1⟩
      | inr vp =>
        obtain ⟨⟨vs, vj⟩, p2⟩ := vp
        obtain ⟨v1, v2, v3⟩ := sIt_bd ht d p1 kl vs vj p2 hi
        have vl := v2.2.1
        rw [hi] at hv
        obtain ⟨σ2, C2', G2, run2⟩ := hv
        have C2 : CS t D σ2 p2 (T ++ thL L.length (ks ++ vs)) (L ++ ltL (ks ++ vs)) (st ++ [b]) (lf ++ [lft isMap m]) := by
          rw [← thL_two, ← ltL_two]
          exact C2'
        have r := ih σ2 p2 _ _ st lf false (by omega) C2 (by rw [List.length_append]; omega) (by rw [gT_app hb]; exact hs) hst
        have run3 : ∀ f g, t.length + 2 - p ≤ f → st.length + 2 ≤ g → ∃ f' g', t.length + 2 - p2 ≤ f' ∧ st.length + 2 ≤ g' ∧ CB f g σ = CB f' g' σ2 := by
          intro f g hf hg
          obtain ⟨f1, z1, z2⟩ := run1 f g hf hg
          obtain ⟨f', g', w1, w2, w3⟩ := run2 f1 z1
          rw [hlen] at w2
          exact ⟨f', g', w1, by omega, by rw [z2, w3]⟩
        cases hr : sIts t (sIt t d) d isMap m false p2 with
        | inl kq =>
          rw [hr] at r
          rw [sIts_r hk hi hr]
          intro f g hf hg
          obtain ⟨f', g', w1, w2, w3⟩ := run3 f g hf hg
          obtain ⟨σ', ex, gg⟩ := r f' g' w1 w2
          exact ⟨σ', by rw [w3, ex], gg.fr (G1.trans G2).1⟩
        | inr y =>
          obtain ⟨⟨ys, yj⟩, q⟩ := y
          rw [hr] at r
          rw [sIts_o hk hi hr]
          obtain ⟨σ3, C3, G3, run4⟩ := r
          refine ⟨σ3, ?_, (G1.trans G2).trans G3, fun f g hf hg => ?_⟩
          · show CS t D σ3 q (T ++ thL L.length (ks ++ vs ++ ys)) (L ++ ltL (ks ++ vs ++ ys)) st lf
            rw [← thL_two T L (ks ++ vs) ys, ← ltL_two L (ks ++ vs) ys]
            exact C3
          · obtain ⟨f', g', w1, w2, w3⟩ := run3 f g hf hg
            obtain ⟨f2, g2, x1, x2, x3⟩ := run4 f' g' w1 w2
            exact ⟨f2, g2, x1, x2, by rw [w3, x3]⟩
    have hb42 : b < 4200 := by omega
    have hsb : mf_sorts σ b = nI (srt isMap) := by rw [(hR.2.2.1.2 b hb).1, hs]
    have hpos : 0 < lft isMap (m + 1) ∧ lft isMap (m + 1) ≤ 200002 := by unfold lft; split <;> omega
    have hgo : ∀ f g, st.length + 2 ≤ g → CB f g σ = mm_readsCbor_L2 f 1 σ := by
      intro f g hg
      obtain ⟨g, rfl⟩ : ∃ k, g = k + 1 := ⟨g - 1, by omega⟩
      exact cb_go h hpos.1 (by omega)
    have hkey := key_top h hb42 hsb (by omega)
    cases isMap with
    | false =>
      refine main [] [] p σ rfl ?_ ⟨MFr_rfl σ, rfl⟩ hkey (fun f g hf hg => ⟨f, hf, hgo f g hg⟩)
      show CS t D σ p (T ++ []) (L ++ []) _ _
      rw [List.append_nil, List.append_nil]
      exact h
    | true =>
      have hk2 : mm_isKey σ = some (true, σ) := by
        rw [hkey, decide_eq_true (show lft true (m + 1) % 2 = 0 by show 2 * (m + 1) % 2 = 0; omega)]
        rfl
      have ht1 := c_tok (lf' := lf ++ [lft true m + 1]) (d := d) h (Or.inr ⟨lf, lft true m + 1, rfl, rfl⟩) hk2 (by rw [hlen]; exact hst) hD (snoc_lt (by omega))
      cases hx : sTk t true d p with
      | inl kq =>
        rw [hx] at ht1
        rw [sIts_k (sKy_l hx)]
        intro f g hf hg
        obtain ⟨f, rfl⟩ : ∃ k, f = k + 1 := ⟨f - 1, by omega⟩
        obtain ⟨σ', ex, gg⟩ := ht1 f
        exact ⟨σ', by rw [hgo _ _ hg, ex], gg⟩
      | inr y =>
        obtain ⟨x, q⟩ := y
        obtain ⟨b1, b2, b3, b4, b5, b6, b7, b8⟩ := sTk_bd ht hx
        have x3 := b4 rfl
        rw [hx] at ht1
        obtain ⟨σ2, run, C2, G2⟩ := ht1
        have C2' : CS t D σ2 q (T ++ thL L.length [x]) (L ++ ltL [x]) (st ++ [b]) (lf ++ [lft true m + 1]) := C2
        have hsx : mf_sorts σ2 T.length = nI 3 := by
          have := (C2'.1.2.1.2.2.1.2 T.length (by rw [List.length_append, thL_len]; show T.length < T.length + 1; omega)).1
          rw [show gT (T ++ thL L.length [x]) T.length = (x.1, x.2.1, L.length) from gT_mid T [] _, x3] at this
          exact this
        have hsb2 : mf_sorts σ2 b = nI (srt true) := by
          rw [(C2'.1.2.1.2.2.1.2 b (by rw [List.length_append]; omega)).1, gT_app hb, hs]
        refine main [x] (jTk x ++ [58]) q σ2 (sKy_t hx) C2' G2 ?_ (fun f g hf hg => ?_)
        · rw [key_top C2' hb42 hsb2 (by omega), decide_eq_false (show ¬ (lft true m + 1) % 2 = 0 by show ¬ (2 * m + 1) % 2 = 0; omega)]
          rfl
        · obtain ⟨f, rfl⟩ : ∃ k, f = k + 1 := ⟨f - 1, by omega⟩
          refine ⟨f, by omega, ?_⟩
          rw [hgo _ _ hg, run, c_sca (by omega) hsx (by decide) (by decide) (by decide)]
          exact cb_go (g := 99999) C2' (by omega) (by omega)
theorem c_itemS (hD : D ≤ 40) (hV : ∀ d', d = d' + 1 → VC t D d') : VC t D d := by
  intro σ p T L st lf lf' h hdl hn hkey hst
  obtain ⟨hM, hl, hlf⟩ := id h
  obtain ⟨⟨hT, hDp⟩, hR, hO, hTl, hLl, hp⟩ := id hM
  have hle := hT.2.1
  have ht := hT.2.2.1
  have ht1 := c_tok (d := d) h hdl hkey hst hD hn
  cases hx : sTk t false d p with
  | inl kq =>
    rw [hx] at ht1
    rw [sIt_l hx]
    intro f hf
    obtain ⟨f, rfl⟩ : ∃ k, f = k + 1 := ⟨f - 1, by omega⟩
    exact ht1 f
  | inr y =>
    obtain ⟨x, q⟩ := y
    obtain ⟨b1, b2, b3, b4, b5, b6, b7, b8⟩ := sTk_bd ht hx
    have bq := b2.2.1
    rw [hx] at ht1
    obtain ⟨σ2, run, C2', G2⟩ := ht1
    have C2 : CS t D σ2 q (T ++ thL L.length [x]) (L ++ ltL [x]) st lf' := C2'
    have hT1 : T.length < (T ++ thL L.length [x]).length := by rw [List.length_append, thL_len]; show T.length < T.length + 1; omega
    have gx : gT (T ++ thL L.length [x]) T.length = (x.1, x.2.1, L.length) := gT_mid T [] _
    have hsx := C2.1.2.1.2.2.1.2 T.length hT1
    rw [gx] at hsx
    have hFU : ∀ k, k ≤ 100000 → k ≤ FU := fun k hk => hk
    have o40 := hO.2.1
    by_cases c : x.1 = 4 ∨ x.1 = 5
    · obtain ⟨isMap, e⟩ := srt_of c
      obtain ⟨ty, v, ls⟩ := x
      have e' : ty = srt isMap := e
      subst e'
      have hls : ls = [] := b8.2.2.2.2 (by show srt isMap ≠ 3; cases isMap <;> decide)
      subst hls
      have d0 := b5 c
      obtain ⟨d', rfl⟩ : ∃ g, d = g + 1 := ⟨d - 1, by omega⟩
      have hv64 : v < 2 ^ 64 := b8.2.1
      rw [sIt_b hx]
      by_cases v0 : v = 0
      · subst v0
        show COK t D σ p T L st lf' (.inr (((srt isMap, 0, []) :: [], opC isMap :: ([] ++ [clC isMap])), q))
        refine ⟨σ2, C2, G2, fun f hf => ?_⟩
        obtain ⟨f, rfl⟩ : ∃ k, f = k + 1 := ⟨f - 1, by omega⟩
        exact ⟨f, FU, by show t.length + 2 - q ≤ f; omega, hFU _ (by omega), by rw [run, c_box0 (by omega) hsx.1 hsx.2.1]⟩
      · obtain ⟨σ3, run3, C3, G3⟩ := c_push (v := v) (isMap := isMap) C2 (by omega) (by omega) hsx.1 hsx.2.1 (by omega) hv64
        have runs : ∀ f, t.length + 2 - p ≤ f → ∃ f1, t.length + 2 - q ≤ f1 ∧ mm_readsCbor_L2 f 1 σ = CB f1 FU σ3 := by
          intro f hf
          obtain ⟨f, rfl⟩ : ∃ k, f = k + 1 := ⟨f - 1, by omega⟩
          exact ⟨f, by omega, by rw [run, run3]⟩
        by_cases c1 : v ≤ 100000
        · rw [if_pos c1] at C3
          have r := c_parts (hV d' rfl) hD v σ3 q _ _ st lf' true c1 C3 hT1 (by rw [gx]) (by omega)
          unfold sBx
          cases hr : sIts t (sIt t d') d' isMap v true q with
          | inl kq =>
            rw [hr] at r
            intro f hf
            obtain ⟨f1, z1, z2⟩ := runs f hf
            obtain ⟨σ', ex, gg⟩ := r f1 FU z1 (hFU _ (by omega))
            exact ⟨σ', by rw [z2, ex], gg.fr (G2.trans G3).1⟩
          | inr y =>
            obtain ⟨⟨ys, yj⟩, q2⟩ := y
            rw [hr] at r
            obtain ⟨σ4, C4, G4, run4⟩ := r
            refine ⟨σ4, ?_, (G2.trans G3).trans G4, fun f hf => ?_⟩
            · show CS t D σ4 q2 (T ++ thL L.length ([(srt isMap, v, [])] ++ ys)) (L ++ ltL ([(srt isMap, v, [])] ++ ys)) st lf'
              rw [← thL_two T L [(srt isMap, v, [])] ys, ← ltL_two L [(srt isMap, v, [])] ys]
              exact C4
            · obtain ⟨f1, z1, z2⟩ := runs f hf
              obtain ⟨f2, g2, x1, x2, x3⟩ := run4 f1 FU z1 (hFU _ (by omega))
              exact ⟨f2, g2, x1, x2, by rw [z2, x3]⟩
        · rw [if_neg c1] at C3
          have r := c_parts (hV d' rfl) hD 100000 σ3 q _ _ st lf' true (Nat.le_refl _) C3 hT1 (by rw [gx]) (by omega)
          obtain ⟨k, e1, e2⟩ := sBx_big ht (sIt_bd ht d') (d := d') (v1 := v) (v2 := 100000) (isMap := isMap) bq (by omega) (by omega)
          rw [e2] at r
          rw [e1]
          intro f hf
          obtain ⟨f1, z1, z2⟩ := runs f hf
          obtain ⟨σ', ex, gg⟩ := r f1 FU z1 (hFU _ (by omega))
          exact ⟨σ', by rw [z2, ex], gg.fr (G2.trans G3).1⟩
    · rw [sIt_s hx (fun z => c (Or.inl z)) (fun z => c (Or.inr z))]
      refine ⟨σ2, C2, G2, fun f hf => ?_⟩
      obtain ⟨f, rfl⟩ : ∃ k, f = k + 1 := ⟨f - 1, by omega⟩
      exact ⟨f, FU, by show t.length + 2 - q ≤ f; omega, hFU _ (by omega), by rw [run, c_sca (by omega) hsx.1 b8.1 (fun z => c (Or.inl z)) (fun z => c (Or.inr z))]⟩
theorem c_item (hD : D ≤ 40) : ∀ d, VC t D d := by
  intro d
  induction d with
  | zero => exact c_itemS hD (fun d' e => by omega)
  | succ d ih => exact c_itemS hD (fun d' e => by
      have e2 : d' = d := by omega
      subst e2
      exact ih)
/-- what reading the whole tape comes to in the reference -/
theorem m_readsCbor {σ0 : MSt} (hD : D ≤ 40) (h : MS t D σ0 0 [] [] []) : match sIt t D 0 with
    | .inl kq => ∃ σ', mm_readsCbor σ0 = some σ' ∧ BadS σ0 σ' kq
    | .inr y => ∃ σ', MS t D σ' y.2 (thL 0 y.1.1) (ltL y.1.1) [] ∧ MG σ0 σ' ∧ mm_readsCbor σ0 = if y.2 = t.length then some σ' else some (mF σ' 1 (nI y.2)) := by
  have hle := h.1.1.2.1
  have C0 : CS t D σ0 0 [] [] [] [] := ⟨h, rfl, fun i hi => absurd hi (Nat.not_lt_zero _)⟩
  have v := c_item (t := t) hD D σ0 0 [] [] [] [] [] C0 (Or.inl ⟨rfl, rfl⟩) (fun l0 n e => by
    have := congrArg List.length e
    rw [len_snoc] at this
    exact absurd this (by show ¬ 0 = l0.length + 1; omega)) (key_none C0) (by show 0 + D = D; omega)
  cases hr : sIt t D 0 with
  | inl kq =>
    rw [hr] at v
    exact v FU (by show _ ≤ 100000; omega)
  | inr y =>
    obtain ⟨⟨ts, js⟩, q⟩ := y
    rw [hr] at v
    obtain ⟨σ', C1', G1, run⟩ := v
    have C1 : CS t D σ' q (thL 0 ts) (ltL ts) [] [] := C1'
    obtain ⟨f', g', z1, z2, z3⟩ := run FU (by show _ ≤ 100000; omega)
    have z1' : t.length + 2 - q ≤ f' := z1
    have z2' : 0 + 1 ≤ g' := z2
    have hq := C1.1.2.2.2.2.2
    refine ⟨σ', C1.1, G1, ?_⟩
    obtain ⟨f', rfl⟩ : ∃ k, f' = k + 1 := ⟨f' - 1, by omega⟩
    obtain ⟨g', rfl⟩ : ∃ k, g' = k + 1 := ⟨g' - 1, by omega⟩
    unfold mm_readsCbor
    rw [z3, cb_end C1]
    show mm_readsCbor_b2 (mm_readsCbor_L2 f') 0 σ' = _
    unfold mm_readsCbor_b2
    rw [if_pos rfl, C1.1.1.1.1, C1.1.2.1.1]
    show _ = if q = t.length then some σ' else some (mF σ' 1 (nI q))
    by_cases c : q = t.length
    · rw [if_pos c, if_pos (nI_le (by omega) (by omega))]
    · rw [if_neg c, if_neg (nI_ge (by omega) (by omega)), bd_of (wrong_eq C1.1.2.1.2.1 _ _)]
end ITC
