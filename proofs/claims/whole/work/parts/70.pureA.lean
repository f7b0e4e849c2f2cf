/-! PURE A: bytes, rows of bytes -/
def bb (v : Nat) : Int32 := (nI v).toInt8.toInt32
def lowb (x : Int32) : Nat := x.toBitVec.toNat % 256
theorem lowb_lt (x : Int32) : lowb x < 256 := Nat.mod_lt _ (by decide)
theorem lowb_nI {n : Nat} (h : n < 2 ^ 32) : lowb (nI n) = n % 256 := by
  unfold lowb
  rw [pk_tn h]
theorem bb_low (x : Int32) : bb (lowb x) = x.toInt8.toInt32 := by
  unfold bb
  congr 1
  apply Int8.toBitVec_inj.mp
  rw [Int32.toBitVec_toInt8, Int32.toBitVec_toInt8, BitVec.signExtend_eq_setWidth_of_le _ (by decide), BitVec.signExtend_eq_setWidth_of_le _ (by decide)]
  apply BitVec.eq_of_toNat_eq
  rw [BitVec.toNat_setWidth, BitVec.toNat_setWidth, pk_tn (Nat.lt_trans (lowb_lt x) (by decide))]
  unfold lowb
  omega
theorem bb_and {v : Nat} (h : v < 256) : bb v &&& 255 = nI v := by
  unfold bb
  have e1 : ∀ x : Int32, x.toInt8.toInt32 &&& 255 = x &&& 255 := by
    intro x
    apply Int32.toBitVec_inj.mp
    rw [Int32.toBitVec_and, Int32.toBitVec_and]
    apply BitVec.eq_of_getLsbD_eq
    intro i hi
    rw [BitVec.getLsbD_and, BitVec.getLsbD_and]
    by_cases h8 : i < 8
    · congr 1
      rw [Int8.toBitVec_toInt32, Int32.toBitVec_toInt8, BitVec.getLsbD_signExtend, BitVec.signExtend_eq_setWidth_of_le _ (by decide)]
      simp [hi, h8]
    · have : (Int32.toBitVec 255).getLsbD i = false := by
        have h255 : ∀ j, j < 32 → ¬ j < 8 → (Int32.toBitVec 255).getLsbD j = false := by decide
        exact h255 i hi h8
      rw [this, Bool.and_false, Bool.and_false]
  rw [e1, pk_andN (m := 255) (by omega) 8 (by decide)]
  congr 1
  omega
theorem bb_nar (x : Int32) : vp_nar .byte (x.toInt8.toInt32) = bb (lowb x) := by
  rw [pk_vb, bb_low]
theorem bb_fits (v : Nat) : fits .byte (.int (bb v)) = true := pk_fb _
theorem bb_inj {a b : Nat} (ha : a < 256) (hb : b < 256) (h : bb a = bb b) : a = b := by
  have e := congrArg (fun x => x &&& 255) h
  simp only [bb_and ha, bb_and hb] at e
  exact (nI_eq (by omega) (by omega)).mp e
/-- a row of capacity N holds the bytes l (those within the capacity) -/
def RowL (N : Nat) (r : RSt) (l : List Nat) : Prop := rf_sz r = nI l.length ∧ (∀ i, i < l.length → i < N → rf_f r i = bb (l.getD i 0)) ∧ ∀ x ∈ l, x < 256
theorem getD_lt {l : List Nat} (h : ∀ x ∈ l, x < 256) (i : Nat) : l.getD i 0 < 256 := by
  by_cases hi : i < l.length
  · rw [List.getD_eq_getElem?_getD, List.getElem?_eq_getElem hi]
    exact h _ (List.getElem_mem hi)
  · rw [List.getD_eq_getElem?_getD, List.getElem?_eq_none (by omega)]
    decide
theorem getD_app {l m : List Nat} {i : Nat} (h : i < l.length) : (l ++ m).getD i 0 = l.getD i 0 := by
  rw [List.getD_eq_getElem?_getD, List.getD_eq_getElem?_getD, List.getElem?_append_left h]
theorem getD_app2 {l m : List Nat} {i : Nat} (h : l.length ≤ i) : (l ++ m).getD i 0 = m.getD (i - l.length) 0 := by
  rw [List.getD_eq_getElem?_getD, List.getD_eq_getElem?_getD, List.getElem?_append_right h]
/-- the byte at a place, -1 outside -/
def gL (l : List Nat) (i : Nat) : Int32 := if i < l.length then nI (l.getD i 0) else -1
theorem gL_in {l : List Nat} {i : Nat} (h : i < l.length) : gL l i = nI (l.getD i 0) := if_pos h
theorem gL_out {l : List Nat} {i : Nat} (h : l.length ≤ i) : gL l i = -1 := if_neg (by omega)
theorem rr_size_eq (N : Nat) (r : RSt) : rr_size N r = some (rf_sz r, r) := rfl
theorem rr_at_row {N : Nat} {r : RSt} {l : List Nat} (h : RowL N r l) (hl : l.length ≤ N) (hN : N < 2 ^ 31) {i : Nat} (hi : i < 2 ^ 31) : rr_at N (nI i) r = some (gL l i, r) := by
  obtain ⟨h1, h2, h3⟩ := h
  unfold rr_at
  rw [if_neg (nI_pos hi), h1]
  by_cases c : i < l.length
  · rw [if_neg (nI_ge c (by omega)), if_pos (show nI i < Int32.ofNat N from nI_lt (by omega : i < N) hN), ck_in (vp_in_nI (by omega) hN), nI_clamp hi, h2 i c (by omega), bb_and (getD_lt h3 i), gL_in c]
  · rw [if_pos (nI_le (by omega) hi), gL_out (by omega)]
theorem rr_at_neg {N : Nat} {r : RSt} {x : Int32} (h : x < 0) : rr_at N x r = some (-1, r) := by
  unfold rr_at
  rw [if_pos h]
theorem rr_put_row {N : Nat} {r : RSt} {l : List Nat} (h : RowL N r l) (hN : N < 2 ^ 31) (hl : l.length + 1 < 2 ^ 31) (v : Int32) : ∃ r', rr_put N v r = some r' ∧ RowL N r' (l ++ [lowb v]) := by
  obtain ⟨h1, h2, h3⟩ := h
  have hsz : ∀ r2 : RSt, rf_sz r2 = nI l.length → rr_put_b30 N r2 = some (rs_sz r2 (nI (l.length + 1))) := by
    intro r2 e
    unfold rr_put_b30
    rw [e, nI_succ]
  have hmem : ∀ x ∈ l ++ [lowb v], x < 256 := by
    intro x hx
    rcases List.mem_append.mp hx with hx | hx
    · exact h3 x hx
    · rw [List.mem_singleton.mp hx]; exact lowb_lt v
  unfold rr_put
  rw [h1, if_neg (nI_pos (by omega))]
  by_cases c : l.length < N
  · rw [if_neg (show ¬ Int32.ofNat N ≤ nI l.length from nI_ge c hN), ck_in (vp_in_nI c hN), hsz _ (by rw [rG_sz_f]; exact h1)]
    refine ⟨_, rfl, ?_, ?_, hmem⟩
    · rw [rG_sz_sz, List.length_append]; rfl
    · intro i hi hiN
      rw [rG_f_sz, rG_f_f, nI_clamp (by omega), bb_nar]
      rw [List.length_append, List.length_singleton] at hi
      by_cases e : i = l.length
      · subst e
        rw [pk_us, getD_app2 (Nat.le_refl _), Nat.sub_self]
        rfl
      · rw [pk_un e, h2 i (by omega) hiN, getD_app (by omega)]
  · rw [if_pos (show Int32.ofNat N ≤ nI l.length from nI_le (by omega) (by omega)), hsz _ h1]
    refine ⟨_, rfl, ?_, ?_, hmem⟩
    · rw [rG_sz_sz, List.length_append]; rfl
    · intro i hi hiN
      rw [rG_f_sz, h2 i (by omega) hiN, getD_app (by omega)]
theorem rr_cut_row {N : Nat} {r : RSt} {l : List Nat} (h : RowL N r l) (hl : l.length < 2 ^ 31) {n : Nat} (hn : n ≤ l.length) : rr_cutTo N (nI n) r = some (rs_sz r (nI n)) ∧ RowL N (rs_sz r (nI n)) (l.take n) := by
  obtain ⟨h1, h2, h3⟩ := h
  have hlen : (l.take n).length = n := by rw [List.length_take]; omega
  refine ⟨?_, ?_, ?_, fun x hx => h3 x (List.mem_of_mem_take hx)⟩
  · unfold rr_cutTo
    rw [if_neg (nI_pos (by omega)), h1, if_neg (nI_nlt hn hl)]
  · rw [rG_sz_sz, hlen]
  · intro i hi hiN
    rw [hlen] at hi
    rw [rG_f_sz, h2 i (by omega) hiN, List.getD_eq_getElem?_getD, List.getD_eq_getElem?_getD, List.getElem?_take_of_lt hi]
/-- four bytes of an int, the highest first -/
def four4 (a : Int32) : List Nat := [a.toBitVec.toNat / 16777216 % 256, a.toBitVec.toNat / 65536 % 256, a.toBitVec.toNat / 256 % 256, a.toBitVec.toNat % 256]
theorem four4_len (a : Int32) : (four4 a).length = 4 := rfl
theorem lowb_ushr (a s : Int32) (k : Nat) (hs : ((s.toUInt32 &&& Int32.toUInt32 31).toBitVec % 32).toNat = k) : lowb ((a.toUInt32 >>> (s.toUInt32 &&& Int32.toUInt32 31)).toInt32) = a.toBitVec.toNat / 2 ^ k % 256 := by
  unfold lowb
  rw [pk_ushr a s k hs]
theorem rr_putFour_row {N : Nat} {r : RSt} {l : List Nat} (h : RowL N r l) (hN : N < 2 ^ 31) (hl : l.length + 4 < 2 ^ 31) (a : Int32) : ∃ r', rr_putFour N a r = some r' ∧ RowL N r' (l ++ four4 a) := by
  unfold rr_putFour
  obtain ⟨r1, e1, h1⟩ := rr_put_row h hN (by omega) ((Int32.toUInt32 a >>> (Int32.toUInt32 (24 : Int32) &&& Int32.toUInt32 31)).toInt32)
  rw [bd_of e1]
  obtain ⟨r2, e2, h2⟩ := rr_put_row h1 hN (by simp; omega) ((Int32.toUInt32 a >>> (Int32.toUInt32 (16 : Int32) &&& Int32.toUInt32 31)).toInt32)
  rw [bd_of e2]
  obtain ⟨r3, e3, h3⟩ := rr_put_row h2 hN (by simp; omega) ((Int32.toUInt32 a >>> (Int32.toUInt32 (8 : Int32) &&& Int32.toUInt32 31)).toInt32)
  rw [bd_of e3]
  obtain ⟨r4, e4, h4⟩ := rr_put_row h3 hN (by simp; omega) a
  rw [bd_of e4]
  refine ⟨r4, rfl, ?_⟩
  rw [lowb_ushr a 24 24 (by decide), lowb_ushr a 16 16 (by decide), lowb_ushr a 8 8 (by decide)] at h4
  have e : l ++ four4 a = l ++ [a.toBitVec.toNat / 2 ^ 24 % 256] ++ [a.toBitVec.toNat / 2 ^ 16 % 256] ++ [a.toBitVec.toNat / 2 ^ 8 % 256] ++ [lowb a] := by
    simp [four4, lowb]
  rw [e]
  exact h4
