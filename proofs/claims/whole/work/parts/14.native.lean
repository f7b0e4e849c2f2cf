/-! Math.min, Math.max, System.arraycopy, as a Row uses them -/
theorem wmin : (Cond.methodLink RX3 39 Lib.Math.min.name ∈ wT ∧ Cond.static Lib.Math.min.name ∈ wT) ∧ Cond.initialized "java/lang/Math" ∈ wT ∧ Cond.code Lib.Math.min.name Lib.Math.min.code 2 (some .int) ∈ wT := ⟨⟨wT_of (in1 (i := 175) rfl) rfl, wT_of (in1 (i := 176) rfl) rfl⟩, wT_of (in1 (i := 3) rfl) rfl, wT_of (in1 (i := 177) rfl) rfl⟩
theorem wacp : (Cond.methodLink RX3 42 arraycopyName ∈ wT ∧ Cond.native arraycopyName ∈ wT) ∧ Cond.static arraycopyName ∈ wT ∧ Cond.initialized "java/lang/System" ∈ wT := ⟨⟨wT_of (in1 (i := 178) rfl) rfl, wT_of (in1 (i := 180) rfl) rfl⟩, wT_of (in1 (i := 179) rfl) rfl, wT_of (in1 (i := 7) rfl) rfl⟩
def acOk (f : Nat → Int32) (n0 n1 : Nat) (sp dp n : Int32) : Prop := ¬ sp < 0 ∧ ¬ dp < 0 ∧ ¬ n < 0 ∧ sp.toNatClampNeg + n.toNatClampNeg ≤ n0 ∧ dp.toNatClampNeg + n.toNatClampNeg ≤ n1 ∧ (List.range n.toNatClampNeg).all (fun i => fits .byte (.int (f (sp.toNatClampNeg + i)))) = true
def cka {α : Type} (f : Nat → Int32) (n0 n1 : Nat) (sp dp n : Int32) (k : Option α) : Option α := if sp < 0 ∨ dp < 0 ∨ n < 0 ∨ ¬ sp.toNatClampNeg + n.toNatClampNeg ≤ n0 ∨ ¬ dp.toNatClampNeg + n.toNatClampNeg ≤ n1 ∨ ¬ (List.range n.toNatClampNeg).all (fun i => fits .byte (.int (f (sp.toNatClampNeg + i)))) = true then none else k
theorem cka_some {α : Type} {f : Nat → Int32} {n0 n1 : Nat} {sp dp n : Int32} {k : Option α} {r : α} (h : cka f n0 n1 sp dp n k = some r) : acOk f n0 n1 sp dp n ∧ k = some r := by
  unfold cka at h
  by_cases c : sp < 0 ∨ dp < 0 ∨ n < 0 ∨ ¬ sp.toNatClampNeg + n.toNatClampNeg ≤ n0 ∨ ¬ dp.toNatClampNeg + n.toNatClampNeg ≤ n1 ∨ ¬ (List.range n.toNatClampNeg).all (fun i => fits .byte (.int (f (sp.toNatClampNeg + i)))) = true
  · rw [if_pos c] at h; cases h
  · rw [if_neg c] at h
    refine ⟨⟨fun z => c (Or.inl z), fun z => c (Or.inr (Or.inl z)), fun z => c (Or.inr (Or.inr (Or.inl z))), ?_, ?_, ?_⟩, h⟩
    · exact Decidable.byContradiction fun z => c (Or.inr (Or.inr (Or.inr (Or.inl z))))
    · exact Decidable.byContradiction fun z => c (Or.inr (Or.inr (Or.inr (Or.inr (Or.inl z)))))
    · exact Decidable.byContradiction fun z => c (Or.inr (Or.inr (Or.inr (Or.inr (Or.inr z)))))
theorem cka_ok {α : Type} {f : Nat → Int32} {n0 n1 : Nat} {sp dp n : Int32} {k : Option α} (h : acOk f n0 n1 sp dp n) : cka f n0 n1 sp dp n k = k := by
  obtain ⟨h1, h2, h3, h4, h5, h6⟩ := h
  unfold cka
  rw [if_neg]
  rintro (z | z | z | z | z | z)
  · exact h1 z
  · exact h2 z
  · exact h3 z
  · exact z h4
  · exact z h5
  · exact z h6
section NAT
variable {p : Program} {l : Launch} {e : Env} {R : Room} {s : State} {m : MethodId} {args : Array Value} {below : List Frame} {meth : Method} {c : Code} {H : Heap} {locs : List Loc} {cells slots : Nat} {Q : State → Prop} {D : va_G} {aK aV : Nat → Nat} {A : Nat → Prop} {cc : ByteArray} {nL : Nat} {ret : Option FieldType} {pc : Nat} {ls : Array Slot} {rest : List Value} {cB cI cJ : ClassId} {tys : List (ClassId × FieldType)}
theorem mt_min {x y : Int32} (G : CX p s m args meth c D tys aK aV A RX3 cc nL ret) (hls : ls.size = nL) (hfr : 1 ≤ R.frames) (hlo : 21 ≤ R.locals) (hst : (rest.map fun v => v.category).sum ≤ 8) (hc : cells ≤ R.cells ∧ slots ≤ R.slots) (hdg : decode cc pc = .ok (.invokestatic 39, 3))
    (k : W p l e R s m args below meth c H locs cells slots Q (F0 m (pc + 3) ls (.int (if y < x then y else x) :: rest))) : W p l e R s m args below meth c H locs cells slots Q (F0 m pc ls (.int y :: .int x :: rest)) := by
  obtain ⟨hx, hb, hml, hown, hT, hrt, hlk, hK, hA, hG, hE⟩ := G
  exact va_mmin hx hb (hml.trans hls.symm) hown (hT _ wmin.1.1) (hT _ wmin.1.2) (hT _ wmin.2.1) (hT _ wmin.2.2) hfr (by omega) hc.1 hc.2 hdg k
theorem ac_words : nativeFrameWords "java/lang/System" "arraycopy" 5 + 11 ≤ 60 := by decide +kernel
theorem acR {r b N : Nat} {σ : RSt} {sp dp n : Int32} {f : Nat → Int32} (G : CX p s m args meth c D (gTy cB cI cJ) aK aV A RX3 cc nL ret) (hP : va_P D vwCl (rW cB r b N σ) H) (hD : va_D A (rW cB r b N σ)) (hS : va_S A s.heap H locs) (h0 : rf_f σ = f) (h : acOk f N N sp dp n) (hls : ls.size = nL) (hfr : 1 ≤ R.frames) (hlo : 68 ≤ R.locals) (hst : (rest.map fun v => v.category).sum ≤ 8) (hdg : decode cc pc = .ok (.invokestatic 42, 3))
    (k : ∀ (H1 : Heap) (locs1 : List Loc), va_P D vwCl (rW cB r b N (rs_f σ (va_cpy f f sp.toNatClampNeg dp.toNatClampNeg n.toNatClampNeg))) H1 → va_D A (rW cB r b N (rs_f σ (va_cpy f f sp.toNatClampNeg dp.toNatClampNeg n.toNatClampNeg))) → va_S A s.heap H1 locs1 → W p l e R s m args below meth c H1 locs1 cells slots Q (F0 m (pc + 3) ls rest)) : W p l e R s m args below meth c H locs cells slots Q (F0 m pc ls (.int n :: .int dp :: .ref b :: .int sp :: .ref b :: rest)) := by
  obtain ⟨hx, hb, hml, hown, hT, hrt, hlk, hK, hA, hG, hE⟩ := G
  obtain ⟨h1, h2, h3, h4, h5, h6⟩ := h
  subst h0
  have hw := ac_words
  exact va_copyi (ty := .byte) hx hb (hml.trans hls.symm) hown (hT _ wacp.1.1) (hT _ wacp.1.2) (hT _ wacp.2.1) (hT _ wacp.2.2) hK hP hD hS 1 1 0 0 rfl rfl rfl rfl rfl h1 h2 h3 h4 h5 (fun i hi => List.all_eq_true.mp h6 i (List.mem_range.mpr hi)) hfr (by omega) hdg k
end NAT
