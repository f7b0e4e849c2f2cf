/-! WORLDS: the states, their cells, fields, arrays, calls (printed by program) -/
abbrev gTy (cB cI cJ : ClassId) : List (ClassId × FieldType) := [(cB, .byte), (cI, .int), (cJ, .long)]
abbrev RSt : Type := (Nat → Int32) × Int32
def rf_f (σ : RSt) : (Nat → Int32) := σ.1
def rf_sz (σ : RSt) : Int32 := σ.2
def rs_f (σ : RSt) (v : (Nat → Int32)) : RSt := (v, σ.2)
def rs_sz (σ : RSt) (v : Int32) : RSt := (σ.1, v)
theorem rG_f_f (σ : RSt) (v : (Nat → Int32)) : rf_f (rs_f σ v) = v := rfl
theorem rG_f_sz (σ : RSt) (v : Int32) : rf_f (rs_sz σ v) = rf_f σ := rfl
theorem rG_sz_sz (σ : RSt) (v : Int32) : rf_sz (rs_sz σ v) = v := rfl
theorem rG_sz_f (σ : RSt) (v : (Nat → Int32)) : rf_sz (rs_f σ v) = rf_sz σ := rfl
def rW (cB : ClassId) (r b N : Nat) (σ : RSt) : va_W := [(r, .inr (2, [.ref b, .int (rf_sz σ)])), (b, .inl (cB, N, .inl (rf_f σ)))]
abbrev MSt : Type := Int32 × (Nat → Int32) × Int32 × Int32 × Int32 × (Nat → Int32) × Int32 × Int32 × (Nat → Int32) × (Nat → Int64) × (Nat → Int32) × Int32 × (Nat → Int32) × Int32 × (Nat → Int32) × (Nat → Int64) × Int32 × Int32 × Int32 × (Nat → Int32) × Int32 × (Nat → Int32)
def mf_thrown (σ : MSt) : Int32 := σ.1
def mf_tape (σ : MSt) : (Nat → Int32) := σ.2.1
def mf_taped (σ : MSt) : Int32 := σ.2.2.1
def mf_depth (σ : MSt) : Int32 := σ.2.2.2.1
def mf_room (σ : MSt) : Int32 := σ.2.2.2.2.1
def mf_written (σ : MSt) : (Nat → Int32) := σ.2.2.2.2.2.1
def mf_writtenMany (σ : MSt) : Int32 := σ.2.2.2.2.2.2.1
def mf_errorPlace (σ : MSt) : Int32 := σ.2.2.2.2.2.2.2.1
def mf_sorts (σ : MSt) : (Nat → Int32) := σ.2.2.2.2.2.2.2.2.1
def mf_numbers (σ : MSt) : (Nat → Int64) := σ.2.2.2.2.2.2.2.2.2.1
def mf_places (σ : MSt) : (Nat → Int32) := σ.2.2.2.2.2.2.2.2.2.2.1
def mf_things (σ : MSt) : Int32 := σ.2.2.2.2.2.2.2.2.2.2.2.1
def mf_letters (σ : MSt) : (Nat → Int32) := σ.2.2.2.2.2.2.2.2.2.2.2.2.1
def mf_lettersMany (σ : MSt) : Int32 := σ.2.2.2.2.2.2.2.2.2.2.2.2.2.1
def mf_openThing (σ : MSt) : (Nat → Int32) := σ.2.2.2.2.2.2.2.2.2.2.2.2.2.2.1
def mf_openLeft (σ : MSt) : (Nat → Int64) := σ.2.2.2.2.2.2.2.2.2.2.2.2.2.2.2.1
def mf_open (σ : MSt) : Int32 := σ.2.2.2.2.2.2.2.2.2.2.2.2.2.2.2.2.1
def mf_at (σ : MSt) : Int32 := σ.2.2.2.2.2.2.2.2.2.2.2.2.2.2.2.2.2.1
def mf_fault (σ : MSt) : Int32 := σ.2.2.2.2.2.2.2.2.2.2.2.2.2.2.2.2.2.2.1
def mf_fresh (σ : MSt) : (Nat → Int32) := σ.2.2.2.2.2.2.2.2.2.2.2.2.2.2.2.2.2.2.2.1
def mf_freshMany (σ : MSt) : Int32 := σ.2.2.2.2.2.2.2.2.2.2.2.2.2.2.2.2.2.2.2.2.1
def mf_figures (σ : MSt) : (Nat → Int32) := σ.2.2.2.2.2.2.2.2.2.2.2.2.2.2.2.2.2.2.2.2.2
def ms_thrown (σ : MSt) (v : Int32) : MSt := (v, σ.2)
def ms_tape (σ : MSt) (v : (Nat → Int32)) : MSt := (σ.1, v, σ.2.2)
def ms_taped (σ : MSt) (v : Int32) : MSt := (σ.1, σ.2.1, v, σ.2.2.2)
def ms_depth (σ : MSt) (v : Int32) : MSt := (σ.1, σ.2.1, σ.2.2.1, v, σ.2.2.2.2)
def ms_room (σ : MSt) (v : Int32) : MSt := (σ.1, σ.2.1, σ.2.2.1, σ.2.2.2.1, v, σ.2.2.2.2.2)
def ms_written (σ : MSt) (v : (Nat → Int32)) : MSt := (σ.1, σ.2.1, σ.2.2.1, σ.2.2.2.1, σ.2.2.2.2.1, v, σ.2.2.2.2.2.2)
def ms_writtenMany (σ : MSt) (v : Int32) : MSt := (σ.1, σ.2.1, σ.2.2.1, σ.2.2.2.1, σ.2.2.2.2.1, σ.2.2.2.2.2.1, v, σ.2.2.2.2.2.2.2)
def ms_errorPlace (σ : MSt) (v : Int32) : MSt := (σ.1, σ.2.1, σ.2.2.1, σ.2.2.2.1, σ.2.2.2.2.1, σ.2.2.2.2.2.1, σ.2.2.2.2.2.2.1, v, σ.2.2.2.2.2.2.2.2)
def ms_sorts (σ : MSt) (v : (Nat → Int32)) : MSt := (σ.1, σ.2.1, σ.2.2.1, σ.2.2.2.1, σ.2.2.2.2.1, σ.2.2.2.2.2.1, σ.2.2.2.2.2.2.1, σ.2.2.2.2.2.2.2.1, v, σ.2.2.2.2.2.2.2.2.2)
def ms_numbers (σ : MSt) (v : (Nat → Int64)) : MSt := (σ.1, σ.2.1, σ.2.2.1, σ.2.2.2.1, σ.2.2.2.2.1, σ.2.2.2.2.2.1, σ.2.2.2.2.2.2.1, σ.2.2.2.2.2.2.2.1, σ.2.2.2.2.2.2.2.2.1, v, σ.2.2.2.2.2.2.2.2.2.2)
def ms_places (σ : MSt) (v : (Nat → Int32)) : MSt := (σ.1, σ.2.1, σ.2.2.1, σ.2.2.2.1, σ.2.2.2.2.1, σ.2.2.2.2.2.1, σ.2.2.2.2.2.2.1, σ.2.2.2.2.2.2.2.1, σ.2.2.2.2.2.2.2.2.1, σ.2.2.2.2.2.2.2.2.2.1, v, σ.2.2.2.2.2.2.2.2.2.2.2)
def ms_things (σ : MSt) (v : Int32) : MSt := (σ.1, σ.2.1, σ.2.2.1, σ.2.2.2.1, σ.2.2.2.2.1, σ.2.2.2.2.2.1, σ.2.2.2.2.2.2.1, σ.2.2.2.2.2.2.2.1, σ.2.2.2.2.2.2.2.2.1, σ.2.2.2.2.2.2.2.2.2.1, σ.2.2.2.2.2.2.2.2.2.2.1, v, σ.2.2.2.2.2.2.2.2.2.2.2.2)
def ms_letters (σ : MSt) (v : (Nat → Int32)) : MSt := (σ.1, σ.2.1, σ.2.2.1, σ.2.2.2.1, σ.2.2.2.2.1, σ.2.2.2.2.2.1, σ.2.2.2.2.2.2.1, σ.2.2.2.2.2.2.2.1, σ.2.2.2.2.2.2.2.2.1, σ.2.2.2.2.2.2.2.2.2.1, σ.2.2.2.2.2.2.2.2.2.2.1, σ.2.2.2.2.2.2.2.2.2.2.2.1, v, σ.2.2.2.2.2.2.2.2.2.2.2.2.2)
def ms_lettersMany (σ : MSt) (v : Int32) : MSt := (σ.1, σ.2.1, σ.2.2.1, σ.2.2.2.1, σ.2.2.2.2.1, σ.2.2.2.2.2.1, σ.2.2.2.2.2.2.1, σ.2.2.2.2.2.2.2.1, σ.2.2.2.2.2.2.2.2.1, σ.2.2.2.2.2.2.2.2.2.1, σ.2.2.2.2.2.2.2.2.2.2.1, σ.2.2.2.2.2.2.2.2.2.2.2.1, σ.2.2.2.2.2.2.2.2.2.2.2.2.1, v, σ.2.2.2.2.2.2.2.2.2.2.2.2.2.2)
def ms_openThing (σ : MSt) (v : (Nat → Int32)) : MSt := (σ.1, σ.2.1, σ.2.2.1, σ.2.2.2.1, σ.2.2.2.2.1, σ.2.2.2.2.2.1, σ.2.2.2.2.2.2.1, σ.2.2.2.2.2.2.2.1, σ.2.2.2.2.2.2.2.2.1, σ.2.2.2.2.2.2.2.2.2.1, σ.2.2.2.2.2.2.2.2.2.2.1, σ.2.2.2.2.2.2.2.2.2.2.2.1, σ.2.2.2.2.2.2.2.2.2.2.2.2.1, σ.2.2.2.2.2.2.2.2.2.2.2.2.2.1, v, σ.2.2.2.2.2.2.2.2.2.2.2.2.2.2.2)
def ms_openLeft (σ : MSt) (v : (Nat → Int64)) : MSt := (σ.1, σ.2.1, σ.2.2.1, σ.2.2.2.1, σ.2.2.2.2.1, σ.2.2.2.2.2.1, σ.2.2.2.2.2.2.1, σ.2.2.2.2.2.2.2.1, σ.2.2.2.2.2.2.2.2.1, σ.2.2.2.2.2.2.2.2.2.1, σ.2.2.2.2.2.2.2.2.2.2.1, σ.2.2.2.2.2.2.2.2.2.2.2.1, σ.2.2.2.2.2.2.2.2.2.2.2.2.1, σ.2.2.2.2.2.2.2.2.2.2.2.2.2.1, σ.2.2.2.2.2.2.2.2.2.2.2.2.2.2.1, v, σ.2.2.2.2.2.2.2.2.2.2.2.2.2.2.2.2)
def ms_open (σ : MSt) (v : Int32) : MSt := (σ.1, σ.2.1, σ.2.2.1, σ.2.2.2.1, σ.2.2.2.2.1, σ.2.2.2.2.2.1, σ.2.2.2.2.2.2.1, σ.2.2.2.2.2.2.2.1, σ.2.2.2.2.2.2.2.2.1, σ.2.2.2.2.2.2.2.2.2.1, σ.2.2.2.2.2.2.2.2.2.2.1, σ.2.2.2.2.2.2.2.2.2.2.2.1, σ.2.2.2.2.2.2.2.2.2.2.2.2.1, σ.2.2.2.2.2.2.2.2.2.2.2.2.2.1, σ.2.2.2.2.2.2.2.2.2.2.2.2.2.2.1, σ.2.2.2.2.2.2.2.2.2.2.2.2.2.2.2.1, v, σ.2.2.2.2.2.2.2.2.2.2.2.2.2.2.2.2.2)
def ms_at (σ : MSt) (v : Int32) : MSt := (σ.1, σ.2.1, σ.2.2.1, σ.2.2.2.1, σ.2.2.2.2.1, σ.2.2.2.2.2.1, σ.2.2.2.2.2.2.1, σ.2.2.2.2.2.2.2.1, σ.2.2.2.2.2.2.2.2.1, σ.2.2.2.2.2.2.2.2.2.1, σ.2.2.2.2.2.2.2.2.2.2.1, σ.2.2.2.2.2.2.2.2.2.2.2.1, σ.2.2.2.2.2.2.2.2.2.2.2.2.1, σ.2.2.2.2.2.2.2.2.2.2.2.2.2.1, σ.2.2.2.2.2.2.2.2.2.2.2.2.2.2.1, σ.2.2.2.2.2.2.2.2.2.2.2.2.2.2.2.1, σ.2.2.2.2.2.2.2.2.2.2.2.2.2.2.2.2.1, v, σ.2.2.2.2.2.2.2.2.2.2.2.2.2.2.2.2.2.2)
def ms_fault (σ : MSt) (v : Int32) : MSt := (σ.1, σ.2.1, σ.2.2.1, σ.2.2.2.1, σ.2.2.2.2.1, σ.2.2.2.2.2.1, σ.2.2.2.2.2.2.1, σ.2.2.2.2.2.2.2.1, σ.2.2.2.2.2.2.2.2.1, σ.2.2.2.2.2.2.2.2.2.1, σ.2.2.2.2.2.2.2.2.2.2.1, σ.2.2.2.2.2.2.2.2.2.2.2.1, σ.2.2.2.2.2.2.2.2.2.2.2.2.1, σ.2.2.2.2.2.2.2.2.2.2.2.2.2.1, σ.2.2.2.2.2.2.2.2.2.2.2.2.2.2.1, σ.2.2.2.2.2.2.2.2.2.2.2.2.2.2.2.1, σ.2.2.2.2.2.2.2.2.2.2.2.2.2.2.2.2.1, σ.2.2.2.2.2.2.2.2.2.2.2.2.2.2.2.2.2.1, v, σ.2.2.2.2.2.2.2.2.2.2.2.2.2.2.2.2.2.2.2)
def ms_fresh (σ : MSt) (v : (Nat → Int32)) : MSt := (σ.1, σ.2.1, σ.2.2.1, σ.2.2.2.1, σ.2.2.2.2.1, σ.2.2.2.2.2.1, σ.2.2.2.2.2.2.1, σ.2.2.2.2.2.2.2.1, σ.2.2.2.2.2.2.2.2.1, σ.2.2.2.2.2.2.2.2.2.1, σ.2.2.2.2.2.2.2.2.2.2.1, σ.2.2.2.2.2.2.2.2.2.2.2.1, σ.2.2.2.2.2.2.2.2.2.2.2.2.1, σ.2.2.2.2.2.2.2.2.2.2.2.2.2.1, σ.2.2.2.2.2.2.2.2.2.2.2.2.2.2.1, σ.2.2.2.2.2.2.2.2.2.2.2.2.2.2.2.1, σ.2.2.2.2.2.2.2.2.2.2.2.2.2.2.2.2.1, σ.2.2.2.2.2.2.2.2.2.2.2.2.2.2.2.2.2.1, σ.2.2.2.2.2.2.2.2.2.2.2.2.2.2.2.2.2.2.1, v, σ.2.2.2.2.2.2.2.2.2.2.2.2.2.2.2.2.2.2.2.2)
def ms_freshMany (σ : MSt) (v : Int32) : MSt := (σ.1, σ.2.1, σ.2.2.1, σ.2.2.2.1, σ.2.2.2.2.1, σ.2.2.2.2.2.1, σ.2.2.2.2.2.2.1, σ.2.2.2.2.2.2.2.1, σ.2.2.2.2.2.2.2.2.1, σ.2.2.2.2.2.2.2.2.2.1, σ.2.2.2.2.2.2.2.2.2.2.1, σ.2.2.2.2.2.2.2.2.2.2.2.1, σ.2.2.2.2.2.2.2.2.2.2.2.2.1, σ.2.2.2.2.2.2.2.2.2.2.2.2.2.1, σ.2.2.2.2.2.2.2.2.2.2.2.2.2.2.1, σ.2.2.2.2.2.2.2.2.2.2.2.2.2.2.2.1, σ.2.2.2.2.2.2.2.2.2.2.2.2.2.2.2.2.1, σ.2.2.2.2.2.2.2.2.2.2.2.2.2.2.2.2.2.1, σ.2.2.2.2.2.2.2.2.2.2.2.2.2.2.2.2.2.2.1, σ.2.2.2.2.2.2.2.2.2.2.2.2.2.2.2.2.2.2.2.1, v, σ.2.2.2.2.2.2.2.2.2.2.2.2.2.2.2.2.2.2.2.2.2)
def ms_figures (σ : MSt) (v : (Nat → Int32)) : MSt := (σ.1, σ.2.1, σ.2.2.1, σ.2.2.2.1, σ.2.2.2.2.1, σ.2.2.2.2.2.1, σ.2.2.2.2.2.2.1, σ.2.2.2.2.2.2.2.1, σ.2.2.2.2.2.2.2.2.1, σ.2.2.2.2.2.2.2.2.2.1, σ.2.2.2.2.2.2.2.2.2.2.1, σ.2.2.2.2.2.2.2.2.2.2.2.1, σ.2.2.2.2.2.2.2.2.2.2.2.2.1, σ.2.2.2.2.2.2.2.2.2.2.2.2.2.1, σ.2.2.2.2.2.2.2.2.2.2.2.2.2.2.1, σ.2.2.2.2.2.2.2.2.2.2.2.2.2.2.2.1, σ.2.2.2.2.2.2.2.2.2.2.2.2.2.2.2.2.1, σ.2.2.2.2.2.2.2.2.2.2.2.2.2.2.2.2.2.1, σ.2.2.2.2.2.2.2.2.2.2.2.2.2.2.2.2.2.2.1, σ.2.2.2.2.2.2.2.2.2.2.2.2.2.2.2.2.2.2.2.1, σ.2.2.2.2.2.2.2.2.2.2.2.2.2.2.2.2.2.2.2.2.1, v)
theorem mG_thrown_thrown (σ : MSt) (v : Int32) : mf_thrown (ms_thrown σ v) = v := rfl
theorem mG_thrown_tape (σ : MSt) (v : (Nat → Int32)) : mf_thrown (ms_tape σ v) = mf_thrown σ := rfl
theorem mG_thrown_taped (σ : MSt) (v : Int32) : mf_thrown (ms_taped σ v) = mf_thrown σ := rfl
theorem mG_thrown_depth (σ : MSt) (v : Int32) : mf_thrown (ms_depth σ v) = mf_thrown σ := rfl
theorem mG_thrown_room (σ : MSt) (v : Int32) : mf_thrown (ms_room σ v) = mf_thrown σ := rfl
theorem mG_thrown_written (σ : MSt) (v : (Nat → Int32)) : mf_thrown (ms_written σ v) = mf_thrown σ := rfl
theorem mG_thrown_writtenMany (σ : MSt) (v : Int32) : mf_thrown (ms_writtenMany σ v) = mf_thrown σ := rfl
theorem mG_thrown_errorPlace (σ : MSt) (v : Int32) : mf_thrown (ms_errorPlace σ v) = mf_thrown σ := rfl
theorem mG_thrown_sorts (σ : MSt) (v : (Nat → Int32)) : mf_thrown (ms_sorts σ v) = mf_thrown σ := rfl
theorem mG_thrown_numbers (σ : MSt) (v : (Nat → Int64)) : mf_thrown (ms_numbers σ v) = mf_thrown σ := rfl
theorem mG_thrown_places (σ : MSt) (v : (Nat → Int32)) : mf_thrown (ms_places σ v) = mf_thrown σ := rfl
theorem mG_thrown_things (σ : MSt) (v : Int32) : mf_thrown (ms_things σ v) = mf_thrown σ := rfl
theorem mG_thrown_letters (σ : MSt) (v : (Nat → Int32)) : mf_thrown (ms_letters σ v) = mf_thrown σ := rfl
theorem mG_thrown_lettersMany (σ : MSt) (v : Int32) : mf_thrown (ms_lettersMany σ v) = mf_thrown σ := rfl
theorem mG_thrown_openThing (σ : MSt) (v : (Nat → Int32)) : mf_thrown (ms_openThing σ v) = mf_thrown σ := rfl
theorem mG_thrown_openLeft (σ : MSt) (v : (Nat → Int64)) : mf_thrown (ms_openLeft σ v) = mf_thrown σ := rfl
theorem mG_thrown_open (σ : MSt) (v : Int32) : mf_thrown (ms_open σ v) = mf_thrown σ := rfl
theorem mG_thrown_at (σ : MSt) (v : Int32) : mf_thrown (ms_at σ v) = mf_thrown σ := rfl
theorem mG_thrown_fault (σ : MSt) (v : Int32) : mf_thrown (ms_fault σ v) = mf_thrown σ := rfl
theorem mG_thrown_fresh (σ : MSt) (v : (Nat → Int32)) : mf_thrown (ms_fresh σ v) = mf_thrown σ := rfl
theorem mG_thrown_freshMany (σ : MSt) (v : Int32) : mf_thrown (ms_freshMany σ v) = mf_thrown σ := rfl
theorem mG_thrown_figures (σ : MSt) (v : (Nat → Int32)) : mf_thrown (ms_figures σ v) = mf_thrown σ := rfl
theorem mG_tape_tape (σ : MSt) (v : (Nat → Int32)) : mf_tape (ms_tape σ v) = v := rfl
theorem mG_tape_thrown (σ : MSt) (v : Int32) : mf_tape (ms_thrown σ v) = mf_tape σ := rfl
theorem mG_tape_taped (σ : MSt) (v : Int32) : mf_tape (ms_taped σ v) = mf_tape σ := rfl
theorem mG_tape_depth (σ : MSt) (v : Int32) : mf_tape (ms_depth σ v) = mf_tape σ := rfl
theorem mG_tape_room (σ : MSt) (v : Int32) : mf_tape (ms_room σ v) = mf_tape σ := rfl
theorem mG_tape_written (σ : MSt) (v : (Nat → Int32)) : mf_tape (ms_written σ v) = mf_tape σ := rfl
theorem mG_tape_writtenMany (σ : MSt) (v : Int32) : mf_tape (ms_writtenMany σ v) = mf_tape σ := rfl
theorem mG_tape_errorPlace (σ : MSt) (v : Int32) : mf_tape (ms_errorPlace σ v) = mf_tape σ := rfl
theorem mG_tape_sorts (σ : MSt) (v : (Nat → Int32)) : mf_tape (ms_sorts σ v) = mf_tape σ := rfl
theorem mG_tape_numbers (σ : MSt) (v : (Nat → Int64)) : mf_tape (ms_numbers σ v) = mf_tape σ := rfl
theorem mG_tape_places (σ : MSt) (v : (Nat → Int32)) : mf_tape (ms_places σ v) = mf_tape σ := rfl
theorem mG_tape_things (σ : MSt) (v : Int32) : mf_tape (ms_things σ v) = mf_tape σ := rfl
theorem mG_tape_letters (σ : MSt) (v : (Nat → Int32)) : mf_tape (ms_letters σ v) = mf_tape σ := rfl
theorem mG_tape_lettersMany (σ : MSt) (v : Int32) : mf_tape (ms_lettersMany σ v) = mf_tape σ := rfl
theorem mG_tape_openThing (σ : MSt) (v : (Nat → Int32)) : mf_tape (ms_openThing σ v) = mf_tape σ := rfl
theorem mG_tape_openLeft (σ : MSt) (v : (Nat → Int64)) : mf_tape (ms_openLeft σ v) = mf_tape σ := rfl
theorem mG_tape_open (σ : MSt) (v : Int32) : mf_tape (ms_open σ v) = mf_tape σ := rfl
theorem mG_tape_at (σ : MSt) (v : Int32) : mf_tape (ms_at σ v) = mf_tape σ := rfl
theorem mG_tape_fault (σ : MSt) (v : Int32) : mf_tape (ms_fault σ v) = mf_tape σ := rfl
theorem mG_tape_fresh (σ : MSt) (v : (Nat → Int32)) : mf_tape (ms_fresh σ v) = mf_tape σ := rfl
theorem mG_tape_freshMany (σ : MSt) (v : Int32) : mf_tape (ms_freshMany σ v) = mf_tape σ := rfl
theorem mG_tape_figures (σ : MSt) (v : (Nat → Int32)) : mf_tape (ms_figures σ v) = mf_tape σ := rfl
theorem mG_taped_taped (σ : MSt) (v : Int32) : mf_taped (ms_taped σ v) = v := rfl
theorem mG_taped_thrown (σ : MSt) (v : Int32) : mf_taped (ms_thrown σ v) = mf_taped σ := rfl
theorem mG_taped_tape (σ : MSt) (v : (Nat → Int32)) : mf_taped (ms_tape σ v) = mf_taped σ := rfl
theorem mG_taped_depth (σ : MSt) (v : Int32) : mf_taped (ms_depth σ v) = mf_taped σ := rfl
theorem mG_taped_room (σ : MSt) (v : Int32) : mf_taped (ms_room σ v) = mf_taped σ := rfl
theorem mG_taped_written (σ : MSt) (v : (Nat → Int32)) : mf_taped (ms_written σ v) = mf_taped σ := rfl
theorem mG_taped_writtenMany (σ : MSt) (v : Int32) : mf_taped (ms_writtenMany σ v) = mf_taped σ := rfl
theorem mG_taped_errorPlace (σ : MSt) (v : Int32) : mf_taped (ms_errorPlace σ v) = mf_taped σ := rfl
theorem mG_taped_sorts (σ : MSt) (v : (Nat → Int32)) : mf_taped (ms_sorts σ v) = mf_taped σ := rfl
theorem mG_taped_numbers (σ : MSt) (v : (Nat → Int64)) : mf_taped (ms_numbers σ v) = mf_taped σ := rfl
theorem mG_taped_places (σ : MSt) (v : (Nat → Int32)) : mf_taped (ms_places σ v) = mf_taped σ := rfl
theorem mG_taped_things (σ : MSt) (v : Int32) : mf_taped (ms_things σ v) = mf_taped σ := rfl
theorem mG_taped_letters (σ : MSt) (v : (Nat → Int32)) : mf_taped (ms_letters σ v) = mf_taped σ := rfl
theorem mG_taped_lettersMany (σ : MSt) (v : Int32) : mf_taped (ms_lettersMany σ v) = mf_taped σ := rfl
theorem mG_taped_openThing (σ : MSt) (v : (Nat → Int32)) : mf_taped (ms_openThing σ v) = mf_taped σ := rfl
theorem mG_taped_openLeft (σ : MSt) (v : (Nat → Int64)) : mf_taped (ms_openLeft σ v) = mf_taped σ := rfl
theorem mG_taped_open (σ : MSt) (v : Int32) : mf_taped (ms_open σ v) = mf_taped σ := rfl
theorem mG_taped_at (σ : MSt) (v : Int32) : mf_taped (ms_at σ v) = mf_taped σ := rfl
theorem mG_taped_fault (σ : MSt) (v : Int32) : mf_taped (ms_fault σ v) = mf_taped σ := rfl
theorem mG_taped_fresh (σ : MSt) (v : (Nat → Int32)) : mf_taped (ms_fresh σ v) = mf_taped σ := rfl
theorem mG_taped_freshMany (σ : MSt) (v : Int32) : mf_taped (ms_freshMany σ v) = mf_taped σ := rfl
theorem mG_taped_figures (σ : MSt) (v : (Nat → Int32)) : mf_taped (ms_figures σ v) = mf_taped σ := rfl
theorem mG_depth_depth (σ : MSt) (v : Int32) : mf_depth (ms_depth σ v) = v := rfl
theorem mG_depth_thrown (σ : MSt) (v : Int32) : mf_depth (ms_thrown σ v) = mf_depth σ := rfl
theorem mG_depth_tape (σ : MSt) (v : (Nat → Int32)) : mf_depth (ms_tape σ v) = mf_depth σ := rfl
theorem mG_depth_taped (σ : MSt) (v : Int32) : mf_depth (ms_taped σ v) = mf_depth σ := rfl
theorem mG_depth_room (σ : MSt) (v : Int32) : mf_depth (ms_room σ v) = mf_depth σ := rfl
theorem mG_depth_written (σ : MSt) (v : (Nat → Int32)) : mf_depth (ms_written σ v) = mf_depth σ := rfl
theorem mG_depth_writtenMany (σ : MSt) (v : Int32) : mf_depth (ms_writtenMany σ v) = mf_depth σ := rfl
theorem mG_depth_errorPlace (σ : MSt) (v : Int32) : mf_depth (ms_errorPlace σ v) = mf_depth σ := rfl
theorem mG_depth_sorts (σ : MSt) (v : (Nat → Int32)) : mf_depth (ms_sorts σ v) = mf_depth σ := rfl
theorem mG_depth_numbers (σ : MSt) (v : (Nat → Int64)) : mf_depth (ms_numbers σ v) = mf_depth σ := rfl
theorem mG_depth_places (σ : MSt) (v : (Nat → Int32)) : mf_depth (ms_places σ v) = mf_depth σ := rfl
theorem mG_depth_things (σ : MSt) (v : Int32) : mf_depth (ms_things σ v) = mf_depth σ := rfl
theorem mG_depth_letters (σ : MSt) (v : (Nat → Int32)) : mf_depth (ms_letters σ v) = mf_depth σ := rfl
theorem mG_depth_lettersMany (σ : MSt) (v : Int32) : mf_depth (ms_lettersMany σ v) = mf_depth σ := rfl
theorem mG_depth_openThing (σ : MSt) (v : (Nat → Int32)) : mf_depth (ms_openThing σ v) = mf_depth σ := rfl
theorem mG_depth_openLeft (σ : MSt) (v : (Nat → Int64)) : mf_depth (ms_openLeft σ v) = mf_depth σ := rfl
theorem mG_depth_open (σ : MSt) (v : Int32) : mf_depth (ms_open σ v) = mf_depth σ := rfl
theorem mG_depth_at (σ : MSt) (v : Int32) : mf_depth (ms_at σ v) = mf_depth σ := rfl
theorem mG_depth_fault (σ : MSt) (v : Int32) : mf_depth (ms_fault σ v) = mf_depth σ := rfl
theorem mG_depth_fresh (σ : MSt) (v : (Nat → Int32)) : mf_depth (ms_fresh σ v) = mf_depth σ := rfl
theorem mG_depth_freshMany (σ : MSt) (v : Int32) : mf_depth (ms_freshMany σ v) = mf_depth σ := rfl
theorem mG_depth_figures (σ : MSt) (v : (Nat → Int32)) : mf_depth (ms_figures σ v) = mf_depth σ := rfl
theorem mG_room_room (σ : MSt) (v : Int32) : mf_room (ms_room σ v) = v := rfl
theorem mG_room_thrown (σ : MSt) (v : Int32) : mf_room (ms_thrown σ v) = mf_room σ := rfl
theorem mG_room_tape (σ : MSt) (v : (Nat → Int32)) : mf_room (ms_tape σ v) = mf_room σ := rfl
theorem mG_room_taped (σ : MSt) (v : Int32) : mf_room (ms_taped σ v) = mf_room σ := rfl
theorem mG_room_depth (σ : MSt) (v : Int32) : mf_room (ms_depth σ v) = mf_room σ := rfl
theorem mG_room_written (σ : MSt) (v : (Nat → Int32)) : mf_room (ms_written σ v) = mf_room σ := rfl
theorem mG_room_writtenMany (σ : MSt) (v : Int32) : mf_room (ms_writtenMany σ v) = mf_room σ := rfl
theorem mG_room_errorPlace (σ : MSt) (v : Int32) : mf_room (ms_errorPlace σ v) = mf_room σ := rfl
theorem mG_room_sorts (σ : MSt) (v : (Nat → Int32)) : mf_room (ms_sorts σ v) = mf_room σ := rfl
theorem mG_room_numbers (σ : MSt) (v : (Nat → Int64)) : mf_room (ms_numbers σ v) = mf_room σ := rfl
theorem mG_room_places (σ : MSt) (v : (Nat → Int32)) : mf_room (ms_places σ v) = mf_room σ := rfl
theorem mG_room_things (σ : MSt) (v : Int32) : mf_room (ms_things σ v) = mf_room σ := rfl
theorem mG_room_letters (σ : MSt) (v : (Nat → Int32)) : mf_room (ms_letters σ v) = mf_room σ := rfl
theorem mG_room_lettersMany (σ : MSt) (v : Int32) : mf_room (ms_lettersMany σ v) = mf_room σ := rfl
theorem mG_room_openThing (σ : MSt) (v : (Nat → Int32)) : mf_room (ms_openThing σ v) = mf_room σ := rfl
theorem mG_room_openLeft (σ : MSt) (v : (Nat → Int64)) : mf_room (ms_openLeft σ v) = mf_room σ := rfl
theorem mG_room_open (σ : MSt) (v : Int32) : mf_room (ms_open σ v) = mf_room σ := rfl
theorem mG_room_at (σ : MSt) (v : Int32) : mf_room (ms_at σ v) = mf_room σ := rfl
theorem mG_room_fault (σ : MSt) (v : Int32) : mf_room (ms_fault σ v) = mf_room σ := rfl
theorem mG_room_fresh (σ : MSt) (v : (Nat → Int32)) : mf_room (ms_fresh σ v) = mf_room σ := rfl
theorem mG_room_freshMany (σ : MSt) (v : Int32) : mf_room (ms_freshMany σ v) = mf_room σ := rfl
theorem mG_room_figures (σ : MSt) (v : (Nat → Int32)) : mf_room (ms_figures σ v) = mf_room σ := rfl
theorem mG_written_written (σ : MSt) (v : (Nat → Int32)) : mf_written (ms_written σ v) = v := rfl
theorem mG_written_thrown (σ : MSt) (v : Int32) : mf_written (ms_thrown σ v) = mf_written σ := rfl
theorem mG_written_tape (σ : MSt) (v : (Nat → Int32)) : mf_written (ms_tape σ v) = mf_written σ := rfl
theorem mG_written_taped (σ : MSt) (v : Int32) : mf_written (ms_taped σ v) = mf_written σ := rfl
theorem mG_written_depth (σ : MSt) (v : Int32) : mf_written (ms_depth σ v) = mf_written σ := rfl
theorem mG_written_room (σ : MSt) (v : Int32) : mf_written (ms_room σ v) = mf_written σ := rfl
theorem mG_written_writtenMany (σ : MSt) (v : Int32) : mf_written (ms_writtenMany σ v) = mf_written σ := rfl
theorem mG_written_errorPlace (σ : MSt) (v : Int32) : mf_written (ms_errorPlace σ v) = mf_written σ := rfl
theorem mG_written_sorts (σ : MSt) (v : (Nat → Int32)) : mf_written (ms_sorts σ v) = mf_written σ := rfl
theorem mG_written_numbers (σ : MSt) (v : (Nat → Int64)) : mf_written (ms_numbers σ v) = mf_written σ := rfl
theorem mG_written_places (σ : MSt) (v : (Nat → Int32)) : mf_written (ms_places σ v) = mf_written σ := rfl
theorem mG_written_things (σ : MSt) (v : Int32) : mf_written (ms_things σ v) = mf_written σ := rfl
theorem mG_written_letters (σ : MSt) (v : (Nat → Int32)) : mf_written (ms_letters σ v) = mf_written σ := rfl
theorem mG_written_lettersMany (σ : MSt) (v : Int32) : mf_written (ms_lettersMany σ v) = mf_written σ := rfl
theorem mG_written_openThing (σ : MSt) (v : (Nat → Int32)) : mf_written (ms_openThing σ v) = mf_written σ := rfl
theorem mG_written_openLeft (σ : MSt) (v : (Nat → Int64)) : mf_written (ms_openLeft σ v) = mf_written σ := rfl
theorem mG_written_open (σ : MSt) (v : Int32) : mf_written (ms_open σ v) = mf_written σ := rfl
theorem mG_written_at (σ : MSt) (v : Int32) : mf_written (ms_at σ v) = mf_written σ := rfl
theorem mG_written_fault (σ : MSt) (v : Int32) : mf_written (ms_fault σ v) = mf_written σ := rfl
theorem mG_written_fresh (σ : MSt) (v : (Nat → Int32)) : mf_written (ms_fresh σ v) = mf_written σ := rfl
theorem mG_written_freshMany (σ : MSt) (v : Int32) : mf_written (ms_freshMany σ v) = mf_written σ := rfl
theorem mG_written_figures (σ : MSt) (v : (Nat → Int32)) : mf_written (ms_figures σ v) = mf_written σ := rfl
theorem mG_writtenMany_writtenMany (σ : MSt) (v : Int32) : mf_writtenMany (ms_writtenMany σ v) = v := rfl
theorem mG_writtenMany_thrown (σ : MSt) (v : Int32) : mf_writtenMany (ms_thrown σ v) = mf_writtenMany σ := rfl
theorem mG_writtenMany_tape (σ : MSt) (v : (Nat → Int32)) : mf_writtenMany (ms_tape σ v) = mf_writtenMany σ := rfl
theorem mG_writtenMany_taped (σ : MSt) (v : Int32) : mf_writtenMany (ms_taped σ v) = mf_writtenMany σ := rfl
theorem mG_writtenMany_depth (σ : MSt) (v : Int32) : mf_writtenMany (ms_depth σ v) = mf_writtenMany σ := rfl
theorem mG_writtenMany_room (σ : MSt) (v : Int32) : mf_writtenMany (ms_room σ v) = mf_writtenMany σ := rfl
theorem mG_writtenMany_written (σ : MSt) (v : (Nat → Int32)) : mf_writtenMany (ms_written σ v) = mf_writtenMany σ := rfl
theorem mG_writtenMany_errorPlace (σ : MSt) (v : Int32) : mf_writtenMany (ms_errorPlace σ v) = mf_writtenMany σ := rfl
theorem mG_writtenMany_sorts (σ : MSt) (v : (Nat → Int32)) : mf_writtenMany (ms_sorts σ v) = mf_writtenMany σ := rfl
theorem mG_writtenMany_numbers (σ : MSt) (v : (Nat → Int64)) : mf_writtenMany (ms_numbers σ v) = mf_writtenMany σ := rfl
theorem mG_writtenMany_places (σ : MSt) (v : (Nat → Int32)) : mf_writtenMany (ms_places σ v) = mf_writtenMany σ := rfl
theorem mG_writtenMany_things (σ : MSt) (v : Int32) : mf_writtenMany (ms_things σ v) = mf_writtenMany σ := rfl
theorem mG_writtenMany_letters (σ : MSt) (v : (Nat → Int32)) : mf_writtenMany (ms_letters σ v) = mf_writtenMany σ := rfl
theorem mG_writtenMany_lettersMany (σ : MSt) (v : Int32) : mf_writtenMany (ms_lettersMany σ v) = mf_writtenMany σ := rfl
theorem mG_writtenMany_openThing (σ : MSt) (v : (Nat → Int32)) : mf_writtenMany (ms_openThing σ v) = mf_writtenMany σ := rfl
theorem mG_writtenMany_openLeft (σ : MSt) (v : (Nat → Int64)) : mf_writtenMany (ms_openLeft σ v) = mf_writtenMany σ := rfl
theorem mG_writtenMany_open (σ : MSt) (v : Int32) : mf_writtenMany (ms_open σ v) = mf_writtenMany σ := rfl
theorem mG_writtenMany_at (σ : MSt) (v : Int32) : mf_writtenMany (ms_at σ v) = mf_writtenMany σ := rfl
theorem mG_writtenMany_fault (σ : MSt) (v : Int32) : mf_writtenMany (ms_fault σ v) = mf_writtenMany σ := rfl
theorem mG_writtenMany_fresh (σ : MSt) (v : (Nat → Int32)) : mf_writtenMany (ms_fresh σ v) = mf_writtenMany σ := rfl
theorem mG_writtenMany_freshMany (σ : MSt) (v : Int32) : mf_writtenMany (ms_freshMany σ v) = mf_writtenMany σ := rfl
theorem mG_writtenMany_figures (σ : MSt) (v : (Nat → Int32)) : mf_writtenMany (ms_figures σ v) = mf_writtenMany σ := rfl
theorem mG_errorPlace_errorPlace (σ : MSt) (v : Int32) : mf_errorPlace (ms_errorPlace σ v) = v := rfl
theorem mG_errorPlace_thrown (σ : MSt) (v : Int32) : mf_errorPlace (ms_thrown σ v) = mf_errorPlace σ := rfl
theorem mG_errorPlace_tape (σ : MSt) (v : (Nat → Int32)) : mf_errorPlace (ms_tape σ v) = mf_errorPlace σ := rfl
theorem mG_errorPlace_taped (σ : MSt) (v : Int32) : mf_errorPlace (ms_taped σ v) = mf_errorPlace σ := rfl
theorem mG_errorPlace_depth (σ : MSt) (v : Int32) : mf_errorPlace (ms_depth σ v) = mf_errorPlace σ := rfl
theorem mG_errorPlace_room (σ : MSt) (v : Int32) : mf_errorPlace (ms_room σ v) = mf_errorPlace σ := rfl
theorem mG_errorPlace_written (σ : MSt) (v : (Nat → Int32)) : mf_errorPlace (ms_written σ v) = mf_errorPlace σ := rfl
theorem mG_errorPlace_writtenMany (σ : MSt) (v : Int32) : mf_errorPlace (ms_writtenMany σ v) = mf_errorPlace σ := rfl
theorem mG_errorPlace_sorts (σ : MSt) (v : (Nat → Int32)) : mf_errorPlace (ms_sorts σ v) = mf_errorPlace σ := rfl
theorem mG_errorPlace_numbers (σ : MSt) (v : (Nat → Int64)) : mf_errorPlace (ms_numbers σ v) = mf_errorPlace σ := rfl
theorem mG_errorPlace_places (σ : MSt) (v : (Nat → Int32)) : mf_errorPlace (ms_places σ v) = mf_errorPlace σ := rfl
theorem mG_errorPlace_things (σ : MSt) (v : Int32) : mf_errorPlace (ms_things σ v) = mf_errorPlace σ := rfl
theorem mG_errorPlace_letters (σ : MSt) (v : (Nat → Int32)) : mf_errorPlace (ms_letters σ v) = mf_errorPlace σ := rfl
theorem mG_errorPlace_lettersMany (σ : MSt) (v : Int32) : mf_errorPlace (ms_lettersMany σ v) = mf_errorPlace σ := rfl
theorem mG_errorPlace_openThing (σ : MSt) (v : (Nat → Int32)) : mf_errorPlace (ms_openThing σ v) = mf_errorPlace σ := rfl
theorem mG_errorPlace_openLeft (σ : MSt) (v : (Nat → Int64)) : mf_errorPlace (ms_openLeft σ v) = mf_errorPlace σ := rfl
theorem mG_errorPlace_open (σ : MSt) (v : Int32) : mf_errorPlace (ms_open σ v) = mf_errorPlace σ := rfl
theorem mG_errorPlace_at (σ : MSt) (v : Int32) : mf_errorPlace (ms_at σ v) = mf_errorPlace σ := rfl
theorem mG_errorPlace_fault (σ : MSt) (v : Int32) : mf_errorPlace (ms_fault σ v) = mf_errorPlace σ := rfl
theorem mG_errorPlace_fresh (σ : MSt) (v : (Nat → Int32)) : mf_errorPlace (ms_fresh σ v) = mf_errorPlace σ := rfl
theorem mG_errorPlace_freshMany (σ : MSt) (v : Int32) : mf_errorPlace (ms_freshMany σ v) = mf_errorPlace σ := rfl
theorem mG_errorPlace_figures (σ : MSt) (v : (Nat → Int32)) : mf_errorPlace (ms_figures σ v) = mf_errorPlace σ := rfl
theorem mG_sorts_sorts (σ : MSt) (v : (Nat → Int32)) : mf_sorts (ms_sorts σ v) = v := rfl
theorem mG_sorts_thrown (σ : MSt) (v : Int32) : mf_sorts (ms_thrown σ v) = mf_sorts σ := rfl
theorem mG_sorts_tape (σ : MSt) (v : (Nat → Int32)) : mf_sorts (ms_tape σ v) = mf_sorts σ := rfl
theorem mG_sorts_taped (σ : MSt) (v : Int32) : mf_sorts (ms_taped σ v) = mf_sorts σ := rfl
theorem mG_sorts_depth (σ : MSt) (v : Int32) : mf_sorts (ms_depth σ v) = mf_sorts σ := rfl
theorem mG_sorts_room (σ : MSt) (v : Int32) : mf_sorts (ms_room σ v) = mf_sorts σ := rfl
theorem mG_sorts_written (σ : MSt) (v : (Nat → Int32)) : mf_sorts (ms_written σ v) = mf_sorts σ := rfl
theorem mG_sorts_writtenMany (σ : MSt) (v : Int32) : mf_sorts (ms_writtenMany σ v) = mf_sorts σ := rfl
theorem mG_sorts_errorPlace (σ : MSt) (v : Int32) : mf_sorts (ms_errorPlace σ v) = mf_sorts σ := rfl
theorem mG_sorts_numbers (σ : MSt) (v : (Nat → Int64)) : mf_sorts (ms_numbers σ v) = mf_sorts σ := rfl
theorem mG_sorts_places (σ : MSt) (v : (Nat → Int32)) : mf_sorts (ms_places σ v) = mf_sorts σ := rfl
theorem mG_sorts_things (σ : MSt) (v : Int32) : mf_sorts (ms_things σ v) = mf_sorts σ := rfl
theorem mG_sorts_letters (σ : MSt) (v : (Nat → Int32)) : mf_sorts (ms_letters σ v) = mf_sorts σ := rfl
theorem mG_sorts_lettersMany (σ : MSt) (v : Int32) : mf_sorts (ms_lettersMany σ v) = mf_sorts σ := rfl
theorem mG_sorts_openThing (σ : MSt) (v : (Nat → Int32)) : mf_sorts (ms_openThing σ v) = mf_sorts σ := rfl
theorem mG_sorts_openLeft (σ : MSt) (v : (Nat → Int64)) : mf_sorts (ms_openLeft σ v) = mf_sorts σ := rfl
theorem mG_sorts_open (σ : MSt) (v : Int32) : mf_sorts (ms_open σ v) = mf_sorts σ := rfl
theorem mG_sorts_at (σ : MSt) (v : Int32) : mf_sorts (ms_at σ v) = mf_sorts σ := rfl
theorem mG_sorts_fault (σ : MSt) (v : Int32) : mf_sorts (ms_fault σ v) = mf_sorts σ := rfl
theorem mG_sorts_fresh (σ : MSt) (v : (Nat → Int32)) : mf_sorts (ms_fresh σ v) = mf_sorts σ := rfl
theorem mG_sorts_freshMany (σ : MSt) (v : Int32) : mf_sorts (ms_freshMany σ v) = mf_sorts σ := rfl
theorem mG_sorts_figures (σ : MSt) (v : (Nat → Int32)) : mf_sorts (ms_figures σ v) = mf_sorts σ := rfl
theorem mG_numbers_numbers (σ : MSt) (v : (Nat → Int64)) : mf_numbers (ms_numbers σ v) = v := rfl
theorem mG_numbers_thrown (σ : MSt) (v : Int32) : mf_numbers (ms_thrown σ v) = mf_numbers σ := rfl
theorem mG_numbers_tape (σ : MSt) (v : (Nat → Int32)) : mf_numbers (ms_tape σ v) = mf_numbers σ := rfl
theorem mG_numbers_taped (σ : MSt) (v : Int32) : mf_numbers (ms_taped σ v) = mf_numbers σ := rfl
theorem mG_numbers_depth (σ : MSt) (v : Int32) : mf_numbers (ms_depth σ v) = mf_numbers σ := rfl
theorem mG_numbers_room (σ : MSt) (v : Int32) : mf_numbers (ms_room σ v) = mf_numbers σ := rfl
theorem mG_numbers_written (σ : MSt) (v : (Nat → Int32)) : mf_numbers (ms_written σ v) = mf_numbers σ := rfl
theorem mG_numbers_writtenMany (σ : MSt) (v : Int32) : mf_numbers (ms_writtenMany σ v) = mf_numbers σ := rfl
theorem mG_numbers_errorPlace (σ : MSt) (v : Int32) : mf_numbers (ms_errorPlace σ v) = mf_numbers σ := rfl
theorem mG_numbers_sorts (σ : MSt) (v : (Nat → Int32)) : mf_numbers (ms_sorts σ v) = mf_numbers σ := rfl
theorem mG_numbers_places (σ : MSt) (v : (Nat → Int32)) : mf_numbers (ms_places σ v) = mf_numbers σ := rfl
theorem mG_numbers_things (σ : MSt) (v : Int32) : mf_numbers (ms_things σ v) = mf_numbers σ := rfl
theorem mG_numbers_letters (σ : MSt) (v : (Nat → Int32)) : mf_numbers (ms_letters σ v) = mf_numbers σ := rfl
theorem mG_numbers_lettersMany (σ : MSt) (v : Int32) : mf_numbers (ms_lettersMany σ v) = mf_numbers σ := rfl
theorem mG_numbers_openThing (σ : MSt) (v : (Nat → Int32)) : mf_numbers (ms_openThing σ v) = mf_numbers σ := rfl
theorem mG_numbers_openLeft (σ : MSt) (v : (Nat → Int64)) : mf_numbers (ms_openLeft σ v) = mf_numbers σ := rfl
theorem mG_numbers_open (σ : MSt) (v : Int32) : mf_numbers (ms_open σ v) = mf_numbers σ := rfl
theorem mG_numbers_at (σ : MSt) (v : Int32) : mf_numbers (ms_at σ v) = mf_numbers σ := rfl
theorem mG_numbers_fault (σ : MSt) (v : Int32) : mf_numbers (ms_fault σ v) = mf_numbers σ := rfl
theorem mG_numbers_fresh (σ : MSt) (v : (Nat → Int32)) : mf_numbers (ms_fresh σ v) = mf_numbers σ := rfl
theorem mG_numbers_freshMany (σ : MSt) (v : Int32) : mf_numbers (ms_freshMany σ v) = mf_numbers σ := rfl
theorem mG_numbers_figures (σ : MSt) (v : (Nat → Int32)) : mf_numbers (ms_figures σ v) = mf_numbers σ := rfl
theorem mG_places_places (σ : MSt) (v : (Nat → Int32)) : mf_places (ms_places σ v) = v := rfl
theorem mG_places_thrown (σ : MSt) (v : Int32) : mf_places (ms_thrown σ v) = mf_places σ := rfl
theorem mG_places_tape (σ : MSt) (v : (Nat → Int32)) : mf_places (ms_tape σ v) = mf_places σ := rfl
theorem mG_places_taped (σ : MSt) (v : Int32) : mf_places (ms_taped σ v) = mf_places σ := rfl
theorem mG_places_depth (σ : MSt) (v : Int32) : mf_places (ms_depth σ v) = mf_places σ := rfl
theorem mG_places_room (σ : MSt) (v : Int32) : mf_places (ms_room σ v) = mf_places σ := rfl
theorem mG_places_written (σ : MSt) (v : (Nat → Int32)) : mf_places (ms_written σ v) = mf_places σ := rfl
theorem mG_places_writtenMany (σ : MSt) (v : Int32) : mf_places (ms_writtenMany σ v) = mf_places σ := rfl
theorem mG_places_errorPlace (σ : MSt) (v : Int32) : mf_places (ms_errorPlace σ v) = mf_places σ := rfl
theorem mG_places_sorts (σ : MSt) (v : (Nat → Int32)) : mf_places (ms_sorts σ v) = mf_places σ := rfl
theorem mG_places_numbers (σ : MSt) (v : (Nat → Int64)) : mf_places (ms_numbers σ v) = mf_places σ := rfl
theorem mG_places_things (σ : MSt) (v : Int32) : mf_places (ms_things σ v) = mf_places σ := rfl
theorem mG_places_letters (σ : MSt) (v : (Nat → Int32)) : mf_places (ms_letters σ v) = mf_places σ := rfl
theorem mG_places_lettersMany (σ : MSt) (v : Int32) : mf_places (ms_lettersMany σ v) = mf_places σ := rfl
theorem mG_places_openThing (σ : MSt) (v : (Nat → Int32)) : mf_places (ms_openThing σ v) = mf_places σ := rfl
theorem mG_places_openLeft (σ : MSt) (v : (Nat → Int64)) : mf_places (ms_openLeft σ v) = mf_places σ := rfl
theorem mG_places_open (σ : MSt) (v : Int32) : mf_places (ms_open σ v) = mf_places σ := rfl
theorem mG_places_at (σ : MSt) (v : Int32) : mf_places (ms_at σ v) = mf_places σ := rfl
theorem mG_places_fault (σ : MSt) (v : Int32) : mf_places (ms_fault σ v) = mf_places σ := rfl
theorem mG_places_fresh (σ : MSt) (v : (Nat → Int32)) : mf_places (ms_fresh σ v) = mf_places σ := rfl
theorem mG_places_freshMany (σ : MSt) (v : Int32) : mf_places (ms_freshMany σ v) = mf_places σ := rfl
theorem mG_places_figures (σ : MSt) (v : (Nat → Int32)) : mf_places (ms_figures σ v) = mf_places σ := rfl
theorem mG_things_things (σ : MSt) (v : Int32) : mf_things (ms_things σ v) = v := rfl
theorem mG_things_thrown (σ : MSt) (v : Int32) : mf_things (ms_thrown σ v) = mf_things σ := rfl
theorem mG_things_tape (σ : MSt) (v : (Nat → Int32)) : mf_things (ms_tape σ v) = mf_things σ := rfl
theorem mG_things_taped (σ : MSt) (v : Int32) : mf_things (ms_taped σ v) = mf_things σ := rfl
theorem mG_things_depth (σ : MSt) (v : Int32) : mf_things (ms_depth σ v) = mf_things σ := rfl
theorem mG_things_room (σ : MSt) (v : Int32) : mf_things (ms_room σ v) = mf_things σ := rfl
theorem mG_things_written (σ : MSt) (v : (Nat → Int32)) : mf_things (ms_written σ v) = mf_things σ := rfl
theorem mG_things_writtenMany (σ : MSt) (v : Int32) : mf_things (ms_writtenMany σ v) = mf_things σ := rfl
theorem mG_things_errorPlace (σ : MSt) (v : Int32) : mf_things (ms_errorPlace σ v) = mf_things σ := rfl
theorem mG_things_sorts (σ : MSt) (v : (Nat → Int32)) : mf_things (ms_sorts σ v) = mf_things σ := rfl
theorem mG_things_numbers (σ : MSt) (v : (Nat → Int64)) : mf_things (ms_numbers σ v) = mf_things σ := rfl
theorem mG_things_places (σ : MSt) (v : (Nat → Int32)) : mf_things (ms_places σ v) = mf_things σ := rfl
theorem mG_things_letters (σ : MSt) (v : (Nat → Int32)) : mf_things (ms_letters σ v) = mf_things σ := rfl
theorem mG_things_lettersMany (σ : MSt) (v : Int32) : mf_things (ms_lettersMany σ v) = mf_things σ := rfl
theorem mG_things_openThing (σ : MSt) (v : (Nat → Int32)) : mf_things (ms_openThing σ v) = mf_things σ := rfl
theorem mG_things_openLeft (σ : MSt) (v : (Nat → Int64)) : mf_things (ms_openLeft σ v) = mf_things σ := rfl
theorem mG_things_open (σ : MSt) (v : Int32) : mf_things (ms_open σ v) = mf_things σ := rfl
theorem mG_things_at (σ : MSt) (v : Int32) : mf_things (ms_at σ v) = mf_things σ := rfl
theorem mG_things_fault (σ : MSt) (v : Int32) : mf_things (ms_fault σ v) = mf_things σ := rfl
theorem mG_things_fresh (σ : MSt) (v : (Nat → Int32)) : mf_things (ms_fresh σ v) = mf_things σ := rfl
theorem mG_things_freshMany (σ : MSt) (v : Int32) : mf_things (ms_freshMany σ v) = mf_things σ := rfl
theorem mG_things_figures (σ : MSt) (v : (Nat → Int32)) : mf_things (ms_figures σ v) = mf_things σ := rfl
theorem mG_letters_letters (σ : MSt) (v : (Nat → Int32)) : mf_letters (ms_letters σ v) = v := rfl
theorem mG_letters_thrown (σ : MSt) (v : Int32) : mf_letters (ms_thrown σ v) = mf_letters σ := rfl
theorem mG_letters_tape (σ : MSt) (v : (Nat → Int32)) : mf_letters (ms_tape σ v) = mf_letters σ := rfl
theorem mG_letters_taped (σ : MSt) (v : Int32) : mf_letters (ms_taped σ v) = mf_letters σ := rfl
theorem mG_letters_depth (σ : MSt) (v : Int32) : mf_letters (ms_depth σ v) = mf_letters σ := rfl
theorem mG_letters_room (σ : MSt) (v : Int32) : mf_letters (ms_room σ v) = mf_letters σ := rfl
theorem mG_letters_written (σ : MSt) (v : (Nat → Int32)) : mf_letters (ms_written σ v) = mf_letters σ := rfl
theorem mG_letters_writtenMany (σ : MSt) (v : Int32) : mf_letters (ms_writtenMany σ v) = mf_letters σ := rfl
theorem mG_letters_errorPlace (σ : MSt) (v : Int32) : mf_letters (ms_errorPlace σ v) = mf_letters σ := rfl
theorem mG_letters_sorts (σ : MSt) (v : (Nat → Int32)) : mf_letters (ms_sorts σ v) = mf_letters σ := rfl
theorem mG_letters_numbers (σ : MSt) (v : (Nat → Int64)) : mf_letters (ms_numbers σ v) = mf_letters σ := rfl
theorem mG_letters_places (σ : MSt) (v : (Nat → Int32)) : mf_letters (ms_places σ v) = mf_letters σ := rfl
theorem mG_letters_things (σ : MSt) (v : Int32) : mf_letters (ms_things σ v) = mf_letters σ := rfl
theorem mG_letters_lettersMany (σ : MSt) (v : Int32) : mf_letters (ms_lettersMany σ v) = mf_letters σ := rfl
theorem mG_letters_openThing (σ : MSt) (v : (Nat → Int32)) : mf_letters (ms_openThing σ v) = mf_letters σ := rfl
theorem mG_letters_openLeft (σ : MSt) (v : (Nat → Int64)) : mf_letters (ms_openLeft σ v) = mf_letters σ := rfl
theorem mG_letters_open (σ : MSt) (v : Int32) : mf_letters (ms_open σ v) = mf_letters σ := rfl
theorem mG_letters_at (σ : MSt) (v : Int32) : mf_letters (ms_at σ v) = mf_letters σ := rfl
theorem mG_letters_fault (σ : MSt) (v : Int32) : mf_letters (ms_fault σ v) = mf_letters σ := rfl
theorem mG_letters_fresh (σ : MSt) (v : (Nat → Int32)) : mf_letters (ms_fresh σ v) = mf_letters σ := rfl
theorem mG_letters_freshMany (σ : MSt) (v : Int32) : mf_letters (ms_freshMany σ v) = mf_letters σ := rfl
theorem mG_letters_figures (σ : MSt) (v : (Nat → Int32)) : mf_letters (ms_figures σ v) = mf_letters σ := rfl
theorem mG_lettersMany_lettersMany (σ : MSt) (v : Int32) : mf_lettersMany (ms_lettersMany σ v) = v := rfl
theorem mG_lettersMany_thrown (σ : MSt) (v : Int32) : mf_lettersMany (ms_thrown σ v) = mf_lettersMany σ := rfl
theorem mG_lettersMany_tape (σ : MSt) (v : (Nat → Int32)) : mf_lettersMany (ms_tape σ v) = mf_lettersMany σ := rfl
theorem mG_lettersMany_taped (σ : MSt) (v : Int32) : mf_lettersMany (ms_taped σ v) = mf_lettersMany σ := rfl
theorem mG_lettersMany_depth (σ : MSt) (v : Int32) : mf_lettersMany (ms_depth σ v) = mf_lettersMany σ := rfl
theorem mG_lettersMany_room (σ : MSt) (v : Int32) : mf_lettersMany (ms_room σ v) = mf_lettersMany σ := rfl
theorem mG_lettersMany_written (σ : MSt) (v : (Nat → Int32)) : mf_lettersMany (ms_written σ v) = mf_lettersMany σ := rfl
theorem mG_lettersMany_writtenMany (σ : MSt) (v : Int32) : mf_lettersMany (ms_writtenMany σ v) = mf_lettersMany σ := rfl
theorem mG_lettersMany_errorPlace (σ : MSt) (v : Int32) : mf_lettersMany (ms_errorPlace σ v) = mf_lettersMany σ := rfl
theorem mG_lettersMany_sorts (σ : MSt) (v : (Nat → Int32)) : mf_lettersMany (ms_sorts σ v) = mf_lettersMany σ := rfl
theorem mG_lettersMany_numbers (σ : MSt) (v : (Nat → Int64)) : mf_lettersMany (ms_numbers σ v) = mf_lettersMany σ := rfl
theorem mG_lettersMany_places (σ : MSt) (v : (Nat → Int32)) : mf_lettersMany (ms_places σ v) = mf_lettersMany σ := rfl
theorem mG_lettersMany_things (σ : MSt) (v : Int32) : mf_lettersMany (ms_things σ v) = mf_lettersMany σ := rfl
theorem mG_lettersMany_letters (σ : MSt) (v : (Nat → Int32)) : mf_lettersMany (ms_letters σ v) = mf_lettersMany σ := rfl
theorem mG_lettersMany_openThing (σ : MSt) (v : (Nat → Int32)) : mf_lettersMany (ms_openThing σ v) = mf_lettersMany σ := rfl
theorem mG_lettersMany_openLeft (σ : MSt) (v : (Nat → Int64)) : mf_lettersMany (ms_openLeft σ v) = mf_lettersMany σ := rfl
theorem mG_lettersMany_open (σ : MSt) (v : Int32) : mf_lettersMany (ms_open σ v) = mf_lettersMany σ := rfl
theorem mG_lettersMany_at (σ : MSt) (v : Int32) : mf_lettersMany (ms_at σ v) = mf_lettersMany σ := rfl
theorem mG_lettersMany_fault (σ : MSt) (v : Int32) : mf_lettersMany (ms_fault σ v) = mf_lettersMany σ := rfl
theorem mG_lettersMany_fresh (σ : MSt) (v : (Nat → Int32)) : mf_lettersMany (ms_fresh σ v) = mf_lettersMany σ := rfl
theorem mG_lettersMany_freshMany (σ : MSt) (v : Int32) : mf_lettersMany (ms_freshMany σ v) = mf_lettersMany σ := rfl
theorem mG_lettersMany_figures (σ : MSt) (v : (Nat → Int32)) : mf_lettersMany (ms_figures σ v) = mf_lettersMany σ := rfl
theorem mG_openThing_openThing (σ : MSt) (v : (Nat → Int32)) : mf_openThing (ms_openThing σ v) = v := rfl
theorem mG_openThing_thrown (σ : MSt) (v : Int32) : mf_openThing (ms_thrown σ v) = mf_openThing σ := rfl
theorem mG_openThing_tape (σ : MSt) (v : (Nat → Int32)) : mf_openThing (ms_tape σ v) = mf_openThing σ := rfl
theorem mG_openThing_taped (σ : MSt) (v : Int32) : mf_openThing (ms_taped σ v) = mf_openThing σ := rfl
theorem mG_openThing_depth (σ : MSt) (v : Int32) : mf_openThing (ms_depth σ v) = mf_openThing σ := rfl
theorem mG_openThing_room (σ : MSt) (v : Int32) : mf_openThing (ms_room σ v) = mf_openThing σ := rfl
theorem mG_openThing_written (σ : MSt) (v : (Nat → Int32)) : mf_openThing (ms_written σ v) = mf_openThing σ := rfl
theorem mG_openThing_writtenMany (σ : MSt) (v : Int32) : mf_openThing (ms_writtenMany σ v) = mf_openThing σ := rfl
theorem mG_openThing_errorPlace (σ : MSt) (v : Int32) : mf_openThing (ms_errorPlace σ v) = mf_openThing σ := rfl
theorem mG_openThing_sorts (σ : MSt) (v : (Nat → Int32)) : mf_openThing (ms_sorts σ v) = mf_openThing σ := rfl
theorem mG_openThing_numbers (σ : MSt) (v : (Nat → Int64)) : mf_openThing (ms_numbers σ v) = mf_openThing σ := rfl
theorem mG_openThing_places (σ : MSt) (v : (Nat → Int32)) : mf_openThing (ms_places σ v) = mf_openThing σ := rfl
theorem mG_openThing_things (σ : MSt) (v : Int32) : mf_openThing (ms_things σ v) = mf_openThing σ := rfl
theorem mG_openThing_letters (σ : MSt) (v : (Nat → Int32)) : mf_openThing (ms_letters σ v) = mf_openThing σ := rfl
theorem mG_openThing_lettersMany (σ : MSt) (v : Int32) : mf_openThing (ms_lettersMany σ v) = mf_openThing σ := rfl
theorem mG_openThing_openLeft (σ : MSt) (v : (Nat → Int64)) : mf_openThing (ms_openLeft σ v) = mf_openThing σ := rfl
theorem mG_openThing_open (σ : MSt) (v : Int32) : mf_openThing (ms_open σ v) = mf_openThing σ := rfl
theorem mG_openThing_at (σ : MSt) (v : Int32) : mf_openThing (ms_at σ v) = mf_openThing σ := rfl
theorem mG_openThing_fault (σ : MSt) (v : Int32) : mf_openThing (ms_fault σ v) = mf_openThing σ := rfl
theorem mG_openThing_fresh (σ : MSt) (v : (Nat → Int32)) : mf_openThing (ms_fresh σ v) = mf_openThing σ := rfl
theorem mG_openThing_freshMany (σ : MSt) (v : Int32) : mf_openThing (ms_freshMany σ v) = mf_openThing σ := rfl
theorem mG_openThing_figures (σ : MSt) (v : (Nat → Int32)) : mf_openThing (ms_figures σ v) = mf_openThing σ := rfl
theorem mG_openLeft_openLeft (σ : MSt) (v : (Nat → Int64)) : mf_openLeft (ms_openLeft σ v) = v := rfl
theorem mG_openLeft_thrown (σ : MSt) (v : Int32) : mf_openLeft (ms_thrown σ v) = mf_openLeft σ := rfl
theorem mG_openLeft_tape (σ : MSt) (v : (Nat → Int32)) : mf_openLeft (ms_tape σ v) = mf_openLeft σ := rfl
theorem mG_openLeft_taped (σ : MSt) (v : Int32) : mf_openLeft (ms_taped σ v) = mf_openLeft σ := rfl
theorem mG_openLeft_depth (σ : MSt) (v : Int32) : mf_openLeft (ms_depth σ v) = mf_openLeft σ := rfl
theorem mG_openLeft_room (σ : MSt) (v : Int32) : mf_openLeft (ms_room σ v) = mf_openLeft σ := rfl
theorem mG_openLeft_written (σ : MSt) (v : (Nat → Int32)) : mf_openLeft (ms_written σ v) = mf_openLeft σ := rfl
theorem mG_openLeft_writtenMany (σ : MSt) (v : Int32) : mf_openLeft (ms_writtenMany σ v) = mf_openLeft σ := rfl
theorem mG_openLeft_errorPlace (σ : MSt) (v : Int32) : mf_openLeft (ms_errorPlace σ v) = mf_openLeft σ := rfl
theorem mG_openLeft_sorts (σ : MSt) (v : (Nat → Int32)) : mf_openLeft (ms_sorts σ v) = mf_openLeft σ := rfl
theorem mG_openLeft_numbers (σ : MSt) (v : (Nat → Int64)) : mf_openLeft (ms_numbers σ v) = mf_openLeft σ := rfl
theorem mG_openLeft_places (σ : MSt) (v : (Nat → Int32)) : mf_openLeft (ms_places σ v) = mf_openLeft σ := rfl
theorem mG_openLeft_things (σ : MSt) (v : Int32) : mf_openLeft (ms_things σ v) = mf_openLeft σ := rfl
theorem mG_openLeft_letters (σ : MSt) (v : (Nat → Int32)) : mf_openLeft (ms_letters σ v) = mf_openLeft σ := rfl
theorem mG_openLeft_lettersMany (σ : MSt) (v : Int32) : mf_openLeft (ms_lettersMany σ v) = mf_openLeft σ := rfl
theorem mG_openLeft_openThing (σ : MSt) (v : (Nat → Int32)) : mf_openLeft (ms_openThing σ v) = mf_openLeft σ := rfl
theorem mG_openLeft_open (σ : MSt) (v : Int32) : mf_openLeft (ms_open σ v) = mf_openLeft σ := rfl
theorem mG_openLeft_at (σ : MSt) (v : Int32) : mf_openLeft (ms_at σ v) = mf_openLeft σ := rfl
theorem mG_openLeft_fault (σ : MSt) (v : Int32) : mf_openLeft (ms_fault σ v) = mf_openLeft σ := rfl
theorem mG_openLeft_fresh (σ : MSt) (v : (Nat → Int32)) : mf_openLeft (ms_fresh σ v) = mf_openLeft σ := rfl
theorem mG_openLeft_freshMany (σ : MSt) (v : Int32) : mf_openLeft (ms_freshMany σ v) = mf_openLeft σ := rfl
theorem mG_openLeft_figures (σ : MSt) (v : (Nat → Int32)) : mf_openLeft (ms_figures σ v) = mf_openLeft σ := rfl
theorem mG_open_open (σ : MSt) (v : Int32) : mf_open (ms_open σ v) = v := rfl
theorem mG_open_thrown (σ : MSt) (v : Int32) : mf_open (ms_thrown σ v) = mf_open σ := rfl
theorem mG_open_tape (σ : MSt) (v : (Nat → Int32)) : mf_open (ms_tape σ v) = mf_open σ := rfl
theorem mG_open_taped (σ : MSt) (v : Int32) : mf_open (ms_taped σ v) = mf_open σ := rfl
theorem mG_open_depth (σ : MSt) (v : Int32) : mf_open (ms_depth σ v) = mf_open σ := rfl
theorem mG_open_room (σ : MSt) (v : Int32) : mf_open (ms_room σ v) = mf_open σ := rfl
theorem mG_open_written (σ : MSt) (v : (Nat → Int32)) : mf_open (ms_written σ v) = mf_open σ := rfl
theorem mG_open_writtenMany (σ : MSt) (v : Int32) : mf_open (ms_writtenMany σ v) = mf_open σ := rfl
theorem mG_open_errorPlace (σ : MSt) (v : Int32) : mf_open (ms_errorPlace σ v) = mf_open σ := rfl
theorem mG_open_sorts (σ : MSt) (v : (Nat → Int32)) : mf_open (ms_sorts σ v) = mf_open σ := rfl
theorem mG_open_numbers (σ : MSt) (v : (Nat → Int64)) : mf_open (ms_numbers σ v) = mf_open σ := rfl
theorem mG_open_places (σ : MSt) (v : (Nat → Int32)) : mf_open (ms_places σ v) = mf_open σ := rfl
theorem mG_open_things (σ : MSt) (v : Int32) : mf_open (ms_things σ v) = mf_open σ := rfl
theorem mG_open_letters (σ : MSt) (v : (Nat → Int32)) : mf_open (ms_letters σ v) = mf_open σ := rfl
theorem mG_open_lettersMany (σ : MSt) (v : Int32) : mf_open (ms_lettersMany σ v) = mf_open σ := rfl
theorem mG_open_openThing (σ : MSt) (v : (Nat → Int32)) : mf_open (ms_openThing σ v) = mf_open σ := rfl
theorem mG_open_openLeft (σ : MSt) (v : (Nat → Int64)) : mf_open (ms_openLeft σ v) = mf_open σ := rfl
theorem mG_open_at (σ : MSt) (v : Int32) : mf_open (ms_at σ v) = mf_open σ := rfl
theorem mG_open_fault (σ : MSt) (v : Int32) : mf_open (ms_fault σ v) = mf_open σ := rfl
theorem mG_open_fresh (σ : MSt) (v : (Nat → Int32)) : mf_open (ms_fresh σ v) = mf_open σ := rfl
theorem mG_open_freshMany (σ : MSt) (v : Int32) : mf_open (ms_freshMany σ v) = mf_open σ := rfl
theorem mG_open_figures (σ : MSt) (v : (Nat → Int32)) : mf_open (ms_figures σ v) = mf_open σ := rfl
theorem mG_at_at (σ : MSt) (v : Int32) : mf_at (ms_at σ v) = v := rfl
theorem mG_at_thrown (σ : MSt) (v : Int32) : mf_at (ms_thrown σ v) = mf_at σ := rfl
theorem mG_at_tape (σ : MSt) (v : (Nat → Int32)) : mf_at (ms_tape σ v) = mf_at σ := rfl
theorem mG_at_taped (σ : MSt) (v : Int32) : mf_at (ms_taped σ v) = mf_at σ := rfl
theorem mG_at_depth (σ : MSt) (v : Int32) : mf_at (ms_depth σ v) = mf_at σ := rfl
theorem mG_at_room (σ : MSt) (v : Int32) : mf_at (ms_room σ v) = mf_at σ := rfl
theorem mG_at_written (σ : MSt) (v : (Nat → Int32)) : mf_at (ms_written σ v) = mf_at σ := rfl
theorem mG_at_writtenMany (σ : MSt) (v : Int32) : mf_at (ms_writtenMany σ v) = mf_at σ := rfl
theorem mG_at_errorPlace (σ : MSt) (v : Int32) : mf_at (ms_errorPlace σ v) = mf_at σ := rfl
theorem mG_at_sorts (σ : MSt) (v : (Nat → Int32)) : mf_at (ms_sorts σ v) = mf_at σ := rfl
theorem mG_at_numbers (σ : MSt) (v : (Nat → Int64)) : mf_at (ms_numbers σ v) = mf_at σ := rfl
theorem mG_at_places (σ : MSt) (v : (Nat → Int32)) : mf_at (ms_places σ v) = mf_at σ := rfl
theorem mG_at_things (σ : MSt) (v : Int32) : mf_at (ms_things σ v) = mf_at σ := rfl
theorem mG_at_letters (σ : MSt) (v : (Nat → Int32)) : mf_at (ms_letters σ v) = mf_at σ := rfl
theorem mG_at_lettersMany (σ : MSt) (v : Int32) : mf_at (ms_lettersMany σ v) = mf_at σ := rfl
theorem mG_at_openThing (σ : MSt) (v : (Nat → Int32)) : mf_at (ms_openThing σ v) = mf_at σ := rfl
theorem mG_at_openLeft (σ : MSt) (v : (Nat → Int64)) : mf_at (ms_openLeft σ v) = mf_at σ := rfl
theorem mG_at_open (σ : MSt) (v : Int32) : mf_at (ms_open σ v) = mf_at σ := rfl
theorem mG_at_fault (σ : MSt) (v : Int32) : mf_at (ms_fault σ v) = mf_at σ := rfl
theorem mG_at_fresh (σ : MSt) (v : (Nat → Int32)) : mf_at (ms_fresh σ v) = mf_at σ := rfl
theorem mG_at_freshMany (σ : MSt) (v : Int32) : mf_at (ms_freshMany σ v) = mf_at σ := rfl
theorem mG_at_figures (σ : MSt) (v : (Nat → Int32)) : mf_at (ms_figures σ v) = mf_at σ := rfl
theorem mG_fault_fault (σ : MSt) (v : Int32) : mf_fault (ms_fault σ v) = v := rfl
theorem mG_fault_thrown (σ : MSt) (v : Int32) : mf_fault (ms_thrown σ v) = mf_fault σ := rfl
theorem mG_fault_tape (σ : MSt) (v : (Nat → Int32)) : mf_fault (ms_tape σ v) = mf_fault σ := rfl
theorem mG_fault_taped (σ : MSt) (v : Int32) : mf_fault (ms_taped σ v) = mf_fault σ := rfl
theorem mG_fault_depth (σ : MSt) (v : Int32) : mf_fault (ms_depth σ v) = mf_fault σ := rfl
theorem mG_fault_room (σ : MSt) (v : Int32) : mf_fault (ms_room σ v) = mf_fault σ := rfl
theorem mG_fault_written (σ : MSt) (v : (Nat → Int32)) : mf_fault (ms_written σ v) = mf_fault σ := rfl
theorem mG_fault_writtenMany (σ : MSt) (v : Int32) : mf_fault (ms_writtenMany σ v) = mf_fault σ := rfl
theorem mG_fault_errorPlace (σ : MSt) (v : Int32) : mf_fault (ms_errorPlace σ v) = mf_fault σ := rfl
theorem mG_fault_sorts (σ : MSt) (v : (Nat → Int32)) : mf_fault (ms_sorts σ v) = mf_fault σ := rfl
theorem mG_fault_numbers (σ : MSt) (v : (Nat → Int64)) : mf_fault (ms_numbers σ v) = mf_fault σ := rfl
theorem mG_fault_places (σ : MSt) (v : (Nat → Int32)) : mf_fault (ms_places σ v) = mf_fault σ := rfl
theorem mG_fault_things (σ : MSt) (v : Int32) : mf_fault (ms_things σ v) = mf_fault σ := rfl
theorem mG_fault_letters (σ : MSt) (v : (Nat → Int32)) : mf_fault (ms_letters σ v) = mf_fault σ := rfl
theorem mG_fault_lettersMany (σ : MSt) (v : Int32) : mf_fault (ms_lettersMany σ v) = mf_fault σ := rfl
theorem mG_fault_openThing (σ : MSt) (v : (Nat → Int32)) : mf_fault (ms_openThing σ v) = mf_fault σ := rfl
theorem mG_fault_openLeft (σ : MSt) (v : (Nat → Int64)) : mf_fault (ms_openLeft σ v) = mf_fault σ := rfl
theorem mG_fault_open (σ : MSt) (v : Int32) : mf_fault (ms_open σ v) = mf_fault σ := rfl
theorem mG_fault_at (σ : MSt) (v : Int32) : mf_fault (ms_at σ v) = mf_fault σ := rfl
theorem mG_fault_fresh (σ : MSt) (v : (Nat → Int32)) : mf_fault (ms_fresh σ v) = mf_fault σ := rfl
theorem mG_fault_freshMany (σ : MSt) (v : Int32) : mf_fault (ms_freshMany σ v) = mf_fault σ := rfl
theorem mG_fault_figures (σ : MSt) (v : (Nat → Int32)) : mf_fault (ms_figures σ v) = mf_fault σ := rfl
theorem mG_fresh_fresh (σ : MSt) (v : (Nat → Int32)) : mf_fresh (ms_fresh σ v) = v := rfl
theorem mG_fresh_thrown (σ : MSt) (v : Int32) : mf_fresh (ms_thrown σ v) = mf_fresh σ := rfl
theorem mG_fresh_tape (σ : MSt) (v : (Nat → Int32)) : mf_fresh (ms_tape σ v) = mf_fresh σ := rfl
theorem mG_fresh_taped (σ : MSt) (v : Int32) : mf_fresh (ms_taped σ v) = mf_fresh σ := rfl
theorem mG_fresh_depth (σ : MSt) (v : Int32) : mf_fresh (ms_depth σ v) = mf_fresh σ := rfl
theorem mG_fresh_room (σ : MSt) (v : Int32) : mf_fresh (ms_room σ v) = mf_fresh σ := rfl
theorem mG_fresh_written (σ : MSt) (v : (Nat → Int32)) : mf_fresh (ms_written σ v) = mf_fresh σ := rfl
theorem mG_fresh_writtenMany (σ : MSt) (v : Int32) : mf_fresh (ms_writtenMany σ v) = mf_fresh σ := rfl
theorem mG_fresh_errorPlace (σ : MSt) (v : Int32) : mf_fresh (ms_errorPlace σ v) = mf_fresh σ := rfl
theorem mG_fresh_sorts (σ : MSt) (v : (Nat → Int32)) : mf_fresh (ms_sorts σ v) = mf_fresh σ := rfl
theorem mG_fresh_numbers (σ : MSt) (v : (Nat → Int64)) : mf_fresh (ms_numbers σ v) = mf_fresh σ := rfl
theorem mG_fresh_places (σ : MSt) (v : (Nat → Int32)) : mf_fresh (ms_places σ v) = mf_fresh σ := rfl
theorem mG_fresh_things (σ : MSt) (v : Int32) : mf_fresh (ms_things σ v) = mf_fresh σ := rfl
theorem mG_fresh_letters (σ : MSt) (v : (Nat → Int32)) : mf_fresh (ms_letters σ v) = mf_fresh σ := rfl
theorem mG_fresh_lettersMany (σ : MSt) (v : Int32) : mf_fresh (ms_lettersMany σ v) = mf_fresh σ := rfl
theorem mG_fresh_openThing (σ : MSt) (v : (Nat → Int32)) : mf_fresh (ms_openThing σ v) = mf_fresh σ := rfl
theorem mG_fresh_openLeft (σ : MSt) (v : (Nat → Int64)) : mf_fresh (ms_openLeft σ v) = mf_fresh σ := rfl
theorem mG_fresh_open (σ : MSt) (v : Int32) : mf_fresh (ms_open σ v) = mf_fresh σ := rfl
theorem mG_fresh_at (σ : MSt) (v : Int32) : mf_fresh (ms_at σ v) = mf_fresh σ := rfl
theorem mG_fresh_fault (σ : MSt) (v : Int32) : mf_fresh (ms_fault σ v) = mf_fresh σ := rfl
theorem mG_fresh_freshMany (σ : MSt) (v : Int32) : mf_fresh (ms_freshMany σ v) = mf_fresh σ := rfl
theorem mG_fresh_figures (σ : MSt) (v : (Nat → Int32)) : mf_fresh (ms_figures σ v) = mf_fresh σ := rfl
theorem mG_freshMany_freshMany (σ : MSt) (v : Int32) : mf_freshMany (ms_freshMany σ v) = v := rfl
theorem mG_freshMany_thrown (σ : MSt) (v : Int32) : mf_freshMany (ms_thrown σ v) = mf_freshMany σ := rfl
theorem mG_freshMany_tape (σ : MSt) (v : (Nat → Int32)) : mf_freshMany (ms_tape σ v) = mf_freshMany σ := rfl
theorem mG_freshMany_taped (σ : MSt) (v : Int32) : mf_freshMany (ms_taped σ v) = mf_freshMany σ := rfl
theorem mG_freshMany_depth (σ : MSt) (v : Int32) : mf_freshMany (ms_depth σ v) = mf_freshMany σ := rfl
theorem mG_freshMany_room (σ : MSt) (v : Int32) : mf_freshMany (ms_room σ v) = mf_freshMany σ := rfl
theorem mG_freshMany_written (σ : MSt) (v : (Nat → Int32)) : mf_freshMany (ms_written σ v) = mf_freshMany σ := rfl
theorem mG_freshMany_writtenMany (σ : MSt) (v : Int32) : mf_freshMany (ms_writtenMany σ v) = mf_freshMany σ := rfl
theorem mG_freshMany_errorPlace (σ : MSt) (v : Int32) : mf_freshMany (ms_errorPlace σ v) = mf_freshMany σ := rfl
theorem mG_freshMany_sorts (σ : MSt) (v : (Nat → Int32)) : mf_freshMany (ms_sorts σ v) = mf_freshMany σ := rfl
theorem mG_freshMany_numbers (σ : MSt) (v : (Nat → Int64)) : mf_freshMany (ms_numbers σ v) = mf_freshMany σ := rfl
theorem mG_freshMany_places (σ : MSt) (v : (Nat → Int32)) : mf_freshMany (ms_places σ v) = mf_freshMany σ := rfl
theorem mG_freshMany_things (σ : MSt) (v : Int32) : mf_freshMany (ms_things σ v) = mf_freshMany σ := rfl
theorem mG_freshMany_letters (σ : MSt) (v : (Nat → Int32)) : mf_freshMany (ms_letters σ v) = mf_freshMany σ := rfl
theorem mG_freshMany_lettersMany (σ : MSt) (v : Int32) : mf_freshMany (ms_lettersMany σ v) = mf_freshMany σ := rfl
theorem mG_freshMany_openThing (σ : MSt) (v : (Nat → Int32)) : mf_freshMany (ms_openThing σ v) = mf_freshMany σ := rfl
theorem mG_freshMany_openLeft (σ : MSt) (v : (Nat → Int64)) : mf_freshMany (ms_openLeft σ v) = mf_freshMany σ := rfl
theorem mG_freshMany_open (σ : MSt) (v : Int32) : mf_freshMany (ms_open σ v) = mf_freshMany σ := rfl
theorem mG_freshMany_at (σ : MSt) (v : Int32) : mf_freshMany (ms_at σ v) = mf_freshMany σ := rfl
theorem mG_freshMany_fault (σ : MSt) (v : Int32) : mf_freshMany (ms_fault σ v) = mf_freshMany σ := rfl
theorem mG_freshMany_fresh (σ : MSt) (v : (Nat → Int32)) : mf_freshMany (ms_fresh σ v) = mf_freshMany σ := rfl
theorem mG_freshMany_figures (σ : MSt) (v : (Nat → Int32)) : mf_freshMany (ms_figures σ v) = mf_freshMany σ := rfl
theorem mG_figures_figures (σ : MSt) (v : (Nat → Int32)) : mf_figures (ms_figures σ v) = v := rfl
theorem mG_figures_thrown (σ : MSt) (v : Int32) : mf_figures (ms_thrown σ v) = mf_figures σ := rfl
theorem mG_figures_tape (σ : MSt) (v : (Nat → Int32)) : mf_figures (ms_tape σ v) = mf_figures σ := rfl
theorem mG_figures_taped (σ : MSt) (v : Int32) : mf_figures (ms_taped σ v) = mf_figures σ := rfl
theorem mG_figures_depth (σ : MSt) (v : Int32) : mf_figures (ms_depth σ v) = mf_figures σ := rfl
theorem mG_figures_room (σ : MSt) (v : Int32) : mf_figures (ms_room σ v) = mf_figures σ := rfl
theorem mG_figures_written (σ : MSt) (v : (Nat → Int32)) : mf_figures (ms_written σ v) = mf_figures σ := rfl
theorem mG_figures_writtenMany (σ : MSt) (v : Int32) : mf_figures (ms_writtenMany σ v) = mf_figures σ := rfl
theorem mG_figures_errorPlace (σ : MSt) (v : Int32) : mf_figures (ms_errorPlace σ v) = mf_figures σ := rfl
theorem mG_figures_sorts (σ : MSt) (v : (Nat → Int32)) : mf_figures (ms_sorts σ v) = mf_figures σ := rfl
theorem mG_figures_numbers (σ : MSt) (v : (Nat → Int64)) : mf_figures (ms_numbers σ v) = mf_figures σ := rfl
theorem mG_figures_places (σ : MSt) (v : (Nat → Int32)) : mf_figures (ms_places σ v) = mf_figures σ := rfl
theorem mG_figures_things (σ : MSt) (v : Int32) : mf_figures (ms_things σ v) = mf_figures σ := rfl
theorem mG_figures_letters (σ : MSt) (v : (Nat → Int32)) : mf_figures (ms_letters σ v) = mf_figures σ := rfl
theorem mG_figures_lettersMany (σ : MSt) (v : Int32) : mf_figures (ms_lettersMany σ v) = mf_figures σ := rfl
theorem mG_figures_openThing (σ : MSt) (v : (Nat → Int32)) : mf_figures (ms_openThing σ v) = mf_figures σ := rfl
theorem mG_figures_openLeft (σ : MSt) (v : (Nat → Int64)) : mf_figures (ms_openLeft σ v) = mf_figures σ := rfl
theorem mG_figures_open (σ : MSt) (v : Int32) : mf_figures (ms_open σ v) = mf_figures σ := rfl
theorem mG_figures_at (σ : MSt) (v : Int32) : mf_figures (ms_at σ v) = mf_figures σ := rfl
theorem mG_figures_fault (σ : MSt) (v : Int32) : mf_figures (ms_fault σ v) = mf_figures σ := rfl
theorem mG_figures_fresh (σ : MSt) (v : (Nat → Int32)) : mf_figures (ms_fresh σ v) = mf_figures σ := rfl
theorem mG_figures_freshMany (σ : MSt) (v : Int32) : mf_figures (ms_freshMany σ v) = mf_figures σ := rfl
def mW (cB cI cJ : ClassId) (q : Nat → Nat) (σ : MSt) : va_W := [(q 0, .inr (4, [.int (mf_thrown σ), .ref (q 1), .int (mf_taped σ), .int (mf_depth σ), .int (mf_room σ), .ref (q 2), .int (mf_writtenMany σ), .int (mf_errorPlace σ), .ref (q 3), .ref (q 4), .ref (q 5), .int (mf_things σ), .ref (q 6), .int (mf_lettersMany σ), .ref (q 7), .ref (q 8), .int (mf_open σ), .int (mf_at σ), .int (mf_fault σ), .ref (q 9), .int (mf_freshMany σ), .ref (q 10)])), (q 1, .inl (cI, 4000, .inl (mf_tape σ))), (q 2, .inl (cB, 6000, .inl (mf_written σ))), (q 3, .inl (cI, 4200, .inl (mf_sorts σ))), (q 4, .inl (cJ, 4200, .inr (.inl (mf_numbers σ)))), (q 5, .inl (cI, 4200, .inl (mf_places σ))), (q 6, .inl (cB, 8200, .inl (mf_letters σ))), (q 7, .inl (cI, 64, .inl (mf_openThing σ))), (q 8, .inl (cJ, 64, .inr (.inl (mf_openLeft σ)))), (q 9, .inl (cB, 6000, .inl (mf_fresh σ))), (q 10, .inl (cI, 24, .inl (mf_figures σ)))]
abbrev JSt : Type := Int32 × Int32 × Int32 × Int32 × RSt × RSt
def jf_depthLimit (σ : JSt) : Int32 := σ.1
def jf_place (σ : JSt) : Int32 := σ.2.1
def jf_faultKind (σ : JSt) : Int32 := σ.2.2.1
def jf_faultPlace (σ : JSt) : Int32 := σ.2.2.2.1
def jf_tape (σ : JSt) : RSt := σ.2.2.2.2.1
def jf_target (σ : JSt) : RSt := σ.2.2.2.2.2
def js_depthLimit (σ : JSt) (v : Int32) : JSt := (v, σ.2)
def js_place (σ : JSt) (v : Int32) : JSt := (σ.1, v, σ.2.2)
def js_faultKind (σ : JSt) (v : Int32) : JSt := (σ.1, σ.2.1, v, σ.2.2.2)
def js_faultPlace (σ : JSt) (v : Int32) : JSt := (σ.1, σ.2.1, σ.2.2.1, v, σ.2.2.2.2)
def js_tape (σ : JSt) (v : RSt) : JSt := (σ.1, σ.2.1, σ.2.2.1, σ.2.2.2.1, v, σ.2.2.2.2.2)
def js_target (σ : JSt) (v : RSt) : JSt := (σ.1, σ.2.1, σ.2.2.1, σ.2.2.2.1, σ.2.2.2.2.1, v)
abbrev KSt : Type := Int32 × Int32 × Int32 × Int32 × Int32 × Int64 × RSt × RSt
def kf_depthLimit (σ : KSt) : Int32 := σ.1
def kf_place (σ : KSt) : Int32 := σ.2.1
def kf_faultKind (σ : KSt) : Int32 := σ.2.2.1
def kf_faultPlace (σ : KSt) : Int32 := σ.2.2.2.1
def kf_type (σ : KSt) : Int32 := σ.2.2.2.2.1
def kf_number (σ : KSt) : Int64 := σ.2.2.2.2.2.1
def kf_tape (σ : KSt) : RSt := σ.2.2.2.2.2.2.1
def kf_target (σ : KSt) : RSt := σ.2.2.2.2.2.2.2
def ks_depthLimit (σ : KSt) (v : Int32) : KSt := (v, σ.2)
def ks_place (σ : KSt) (v : Int32) : KSt := (σ.1, v, σ.2.2)
def ks_faultKind (σ : KSt) (v : Int32) : KSt := (σ.1, σ.2.1, v, σ.2.2.2)
def ks_faultPlace (σ : KSt) (v : Int32) : KSt := (σ.1, σ.2.1, σ.2.2.1, v, σ.2.2.2.2)
def ks_type (σ : KSt) (v : Int32) : KSt := (σ.1, σ.2.1, σ.2.2.1, σ.2.2.2.1, v, σ.2.2.2.2.2)
def ks_number (σ : KSt) (v : Int64) : KSt := (σ.1, σ.2.1, σ.2.2.1, σ.2.2.2.1, σ.2.2.2.2.1, v, σ.2.2.2.2.2.2)
def ks_tape (σ : KSt) (v : RSt) : KSt := (σ.1, σ.2.1, σ.2.2.1, σ.2.2.2.1, σ.2.2.2.2.1, σ.2.2.2.2.2.1, v, σ.2.2.2.2.2.2.2)
def ks_target (σ : KSt) (v : RSt) : KSt := (σ.1, σ.2.1, σ.2.2.1, σ.2.2.2.1, σ.2.2.2.2.1, σ.2.2.2.2.2.1, σ.2.2.2.2.2.2.1, v)
abbrev TSt : Type := Int32 × Int32 × Int32 × RSt × RSt × RSt
def tf_depth (σ : TSt) : Int32 := σ.1
def tf_room (σ : TSt) : Int32 := σ.2.1
def tf_faultPlace (σ : TSt) : Int32 := σ.2.2.1
def tf_tape (σ : TSt) : RSt := σ.2.2.2.1
def tf_written (σ : TSt) : RSt := σ.2.2.2.2.1
def tf_measure (σ : TSt) : RSt := σ.2.2.2.2.2
def ts_depth (σ : TSt) (v : Int32) : TSt := (v, σ.2)
def ts_room (σ : TSt) (v : Int32) : TSt := (σ.1, v, σ.2.2)
def ts_faultPlace (σ : TSt) (v : Int32) : TSt := (σ.1, σ.2.1, v, σ.2.2.2)
def ts_tape (σ : TSt) (v : RSt) : TSt := (σ.1, σ.2.1, σ.2.2.1, v, σ.2.2.2.2)
def ts_written (σ : TSt) (v : RSt) : TSt := (σ.1, σ.2.1, σ.2.2.1, σ.2.2.2.1, v, σ.2.2.2.2.2)
def ts_measure (σ : TSt) (v : RSt) : TSt := (σ.1, σ.2.1, σ.2.2.1, σ.2.2.2.1, σ.2.2.2.2.1, v)
theorem jG_depthLimit_depthLimit (σ : JSt) (v : Int32) : jf_depthLimit (js_depthLimit σ v) = v := rfl
theorem jG_depthLimit_place (σ : JSt) (v : Int32) : jf_depthLimit (js_place σ v) = jf_depthLimit σ := rfl
theorem jG_depthLimit_faultKind (σ : JSt) (v : Int32) : jf_depthLimit (js_faultKind σ v) = jf_depthLimit σ := rfl
theorem jG_depthLimit_faultPlace (σ : JSt) (v : Int32) : jf_depthLimit (js_faultPlace σ v) = jf_depthLimit σ := rfl
theorem jG_depthLimit_tape (σ : JSt) (v : RSt) : jf_depthLimit (js_tape σ v) = jf_depthLimit σ := rfl
theorem jG_depthLimit_target (σ : JSt) (v : RSt) : jf_depthLimit (js_target σ v) = jf_depthLimit σ := rfl
theorem jG_place_place (σ : JSt) (v : Int32) : jf_place (js_place σ v) = v := rfl
theorem jG_place_depthLimit (σ : JSt) (v : Int32) : jf_place (js_depthLimit σ v) = jf_place σ := rfl
theorem jG_place_faultKind (σ : JSt) (v : Int32) : jf_place (js_faultKind σ v) = jf_place σ := rfl
theorem jG_place_faultPlace (σ : JSt) (v : Int32) : jf_place (js_faultPlace σ v) = jf_place σ := rfl
theorem jG_place_tape (σ : JSt) (v : RSt) : jf_place (js_tape σ v) = jf_place σ := rfl
theorem jG_place_target (σ : JSt) (v : RSt) : jf_place (js_target σ v) = jf_place σ := rfl
theorem jG_faultKind_faultKind (σ : JSt) (v : Int32) : jf_faultKind (js_faultKind σ v) = v := rfl
theorem jG_faultKind_depthLimit (σ : JSt) (v : Int32) : jf_faultKind (js_depthLimit σ v) = jf_faultKind σ := rfl
theorem jG_faultKind_place (σ : JSt) (v : Int32) : jf_faultKind (js_place σ v) = jf_faultKind σ := rfl
theorem jG_faultKind_faultPlace (σ : JSt) (v : Int32) : jf_faultKind (js_faultPlace σ v) = jf_faultKind σ := rfl
theorem jG_faultKind_tape (σ : JSt) (v : RSt) : jf_faultKind (js_tape σ v) = jf_faultKind σ := rfl
theorem jG_faultKind_target (σ : JSt) (v : RSt) : jf_faultKind (js_target σ v) = jf_faultKind σ := rfl
theorem jG_faultPlace_faultPlace (σ : JSt) (v : Int32) : jf_faultPlace (js_faultPlace σ v) = v := rfl
theorem jG_faultPlace_depthLimit (σ : JSt) (v : Int32) : jf_faultPlace (js_depthLimit σ v) = jf_faultPlace σ := rfl
theorem jG_faultPlace_place (σ : JSt) (v : Int32) : jf_faultPlace (js_place σ v) = jf_faultPlace σ := rfl
theorem jG_faultPlace_faultKind (σ : JSt) (v : Int32) : jf_faultPlace (js_faultKind σ v) = jf_faultPlace σ := rfl
theorem jG_faultPlace_tape (σ : JSt) (v : RSt) : jf_faultPlace (js_tape σ v) = jf_faultPlace σ := rfl
theorem jG_faultPlace_target (σ : JSt) (v : RSt) : jf_faultPlace (js_target σ v) = jf_faultPlace σ := rfl
theorem jG_tape_tape (σ : JSt) (v : RSt) : jf_tape (js_tape σ v) = v := rfl
theorem jG_tape_depthLimit (σ : JSt) (v : Int32) : jf_tape (js_depthLimit σ v) = jf_tape σ := rfl
theorem jG_tape_place (σ : JSt) (v : Int32) : jf_tape (js_place σ v) = jf_tape σ := rfl
theorem jG_tape_faultKind (σ : JSt) (v : Int32) : jf_tape (js_faultKind σ v) = jf_tape σ := rfl
theorem jG_tape_faultPlace (σ : JSt) (v : Int32) : jf_tape (js_faultPlace σ v) = jf_tape σ := rfl
theorem jG_tape_target (σ : JSt) (v : RSt) : jf_tape (js_target σ v) = jf_tape σ := rfl
theorem jG_target_target (σ : JSt) (v : RSt) : jf_target (js_target σ v) = v := rfl
theorem jG_target_depthLimit (σ : JSt) (v : Int32) : jf_target (js_depthLimit σ v) = jf_target σ := rfl
theorem jG_target_place (σ : JSt) (v : Int32) : jf_target (js_place σ v) = jf_target σ := rfl
theorem jG_target_faultKind (σ : JSt) (v : Int32) : jf_target (js_faultKind σ v) = jf_target σ := rfl
theorem jG_target_faultPlace (σ : JSt) (v : Int32) : jf_target (js_faultPlace σ v) = jf_target σ := rfl
theorem jG_target_tape (σ : JSt) (v : RSt) : jf_target (js_tape σ v) = jf_target σ := rfl
theorem kG_depthLimit_depthLimit (σ : KSt) (v : Int32) : kf_depthLimit (ks_depthLimit σ v) = v := rfl
theorem kG_depthLimit_place (σ : KSt) (v : Int32) : kf_depthLimit (ks_place σ v) = kf_depthLimit σ := rfl
theorem kG_depthLimit_faultKind (σ : KSt) (v : Int32) : kf_depthLimit (ks_faultKind σ v) = kf_depthLimit σ := rfl
theorem kG_depthLimit_faultPlace (σ : KSt) (v : Int32) : kf_depthLimit (ks_faultPlace σ v) = kf_depthLimit σ := rfl
theorem kG_depthLimit_type (σ : KSt) (v : Int32) : kf_depthLimit (ks_type σ v) = kf_depthLimit σ := rfl
theorem kG_depthLimit_number (σ : KSt) (v : Int64) : kf_depthLimit (ks_number σ v) = kf_depthLimit σ := rfl
theorem kG_depthLimit_tape (σ : KSt) (v : RSt) : kf_depthLimit (ks_tape σ v) = kf_depthLimit σ := rfl
theorem kG_depthLimit_target (σ : KSt) (v : RSt) : kf_depthLimit (ks_target σ v) = kf_depthLimit σ := rfl
theorem kG_place_place (σ : KSt) (v : Int32) : kf_place (ks_place σ v) = v := rfl
theorem kG_place_depthLimit (σ : KSt) (v : Int32) : kf_place (ks_depthLimit σ v) = kf_place σ := rfl
theorem kG_place_faultKind (σ : KSt) (v : Int32) : kf_place (ks_faultKind σ v) = kf_place σ := rfl
theorem kG_place_faultPlace (σ : KSt) (v : Int32) : kf_place (ks_faultPlace σ v) = kf_place σ := rfl
theorem kG_place_type (σ : KSt) (v : Int32) : kf_place (ks_type σ v) = kf_place σ := rfl
theorem kG_place_number (σ : KSt) (v : Int64) : kf_place (ks_number σ v) = kf_place σ := rfl
theorem kG_place_tape (σ : KSt) (v : RSt) : kf_place (ks_tape σ v) = kf_place σ := rfl
theorem kG_place_target (σ : KSt) (v : RSt) : kf_place (ks_target σ v) = kf_place σ := rfl
theorem kG_faultKind_faultKind (σ : KSt) (v : Int32) : kf_faultKind (ks_faultKind σ v) = v := rfl
theorem kG_faultKind_depthLimit (σ : KSt) (v : Int32) : kf_faultKind (ks_depthLimit σ v) = kf_faultKind σ := rfl
theorem kG_faultKind_place (σ : KSt) (v : Int32) : kf_faultKind (ks_place σ v) = kf_faultKind σ := rfl
theorem kG_faultKind_faultPlace (σ : KSt) (v : Int32) : kf_faultKind (ks_faultPlace σ v) = kf_faultKind σ := rfl
theorem kG_faultKind_type (σ : KSt) (v : Int32) : kf_faultKind (ks_type σ v) = kf_faultKind σ := rfl
theorem kG_faultKind_number (σ : KSt) (v : Int64) : kf_faultKind (ks_number σ v) = kf_faultKind σ := rfl
theorem kG_faultKind_tape (σ : KSt) (v : RSt) : kf_faultKind (ks_tape σ v) = kf_faultKind σ := rfl
theorem kG_faultKind_target (σ : KSt) (v : RSt) : kf_faultKind (ks_target σ v) = kf_faultKind σ := rfl
theorem kG_faultPlace_faultPlace (σ : KSt) (v : Int32) : kf_faultPlace (ks_faultPlace σ v) = v := rfl
theorem kG_faultPlace_depthLimit (σ : KSt) (v : Int32) : kf_faultPlace (ks_depthLimit σ v) = kf_faultPlace σ := rfl
theorem kG_faultPlace_place (σ : KSt) (v : Int32) : kf_faultPlace (ks_place σ v) = kf_faultPlace σ := rfl
theorem kG_faultPlace_faultKind (σ : KSt) (v : Int32) : kf_faultPlace (ks_faultKind σ v) = kf_faultPlace σ := rfl
theorem kG_faultPlace_type (σ : KSt) (v : Int32) : kf_faultPlace (ks_type σ v) = kf_faultPlace σ := rfl
theorem kG_faultPlace_number (σ : KSt) (v : Int64) : kf_faultPlace (ks_number σ v) = kf_faultPlace σ := rfl
theorem kG_faultPlace_tape (σ : KSt) (v : RSt) : kf_faultPlace (ks_tape σ v) = kf_faultPlace σ := rfl
theorem kG_faultPlace_target (σ : KSt) (v : RSt) : kf_faultPlace (ks_target σ v) = kf_faultPlace σ := rfl
theorem kG_type_type (σ : KSt) (v : Int32) : kf_type (ks_type σ v) = v := rfl
theorem kG_type_depthLimit (σ : KSt) (v : Int32) : kf_type (ks_depthLimit σ v) = kf_type σ := rfl
theorem kG_type_place (σ : KSt) (v : Int32) : kf_type (ks_place σ v) = kf_type σ := rfl
theorem kG_type_faultKind (σ : KSt) (v : Int32) : kf_type (ks_faultKind σ v) = kf_type σ := rfl
theorem kG_type_faultPlace (σ : KSt) (v : Int32) : kf_type (ks_faultPlace σ v) = kf_type σ := rfl
theorem kG_type_number (σ : KSt) (v : Int64) : kf_type (ks_number σ v) = kf_type σ := rfl
theorem kG_type_tape (σ : KSt) (v : RSt) : kf_type (ks_tape σ v) = kf_type σ := rfl
theorem kG_type_target (σ : KSt) (v : RSt) : kf_type (ks_target σ v) = kf_type σ := rfl
theorem kG_number_number (σ : KSt) (v : Int64) : kf_number (ks_number σ v) = v := rfl
theorem kG_number_depthLimit (σ : KSt) (v : Int32) : kf_number (ks_depthLimit σ v) = kf_number σ := rfl
theorem kG_number_place (σ : KSt) (v : Int32) : kf_number (ks_place σ v) = kf_number σ := rfl
theorem kG_number_faultKind (σ : KSt) (v : Int32) : kf_number (ks_faultKind σ v) = kf_number σ := rfl
theorem kG_number_faultPlace (σ : KSt) (v : Int32) : kf_number (ks_faultPlace σ v) = kf_number σ := rfl
theorem kG_number_type (σ : KSt) (v : Int32) : kf_number (ks_type σ v) = kf_number σ := rfl
theorem kG_number_tape (σ : KSt) (v : RSt) : kf_number (ks_tape σ v) = kf_number σ := rfl
theorem kG_number_target (σ : KSt) (v : RSt) : kf_number (ks_target σ v) = kf_number σ := rfl
theorem kG_tape_tape (σ : KSt) (v : RSt) : kf_tape (ks_tape σ v) = v := rfl
theorem kG_tape_depthLimit (σ : KSt) (v : Int32) : kf_tape (ks_depthLimit σ v) = kf_tape σ := rfl
theorem kG_tape_place (σ : KSt) (v : Int32) : kf_tape (ks_place σ v) = kf_tape σ := rfl
theorem kG_tape_faultKind (σ : KSt) (v : Int32) : kf_tape (ks_faultKind σ v) = kf_tape σ := rfl
theorem kG_tape_faultPlace (σ : KSt) (v : Int32) : kf_tape (ks_faultPlace σ v) = kf_tape σ := rfl
theorem kG_tape_type (σ : KSt) (v : Int32) : kf_tape (ks_type σ v) = kf_tape σ := rfl
theorem kG_tape_number (σ : KSt) (v : Int64) : kf_tape (ks_number σ v) = kf_tape σ := rfl
theorem kG_tape_target (σ : KSt) (v : RSt) : kf_tape (ks_target σ v) = kf_tape σ := rfl
theorem kG_target_target (σ : KSt) (v : RSt) : kf_target (ks_target σ v) = v := rfl
theorem kG_target_depthLimit (σ : KSt) (v : Int32) : kf_target (ks_depthLimit σ v) = kf_target σ := rfl
theorem kG_target_place (σ : KSt) (v : Int32) : kf_target (ks_place σ v) = kf_target σ := rfl
theorem kG_target_faultKind (σ : KSt) (v : Int32) : kf_target (ks_faultKind σ v) = kf_target σ := rfl
theorem kG_target_faultPlace (σ : KSt) (v : Int32) : kf_target (ks_faultPlace σ v) = kf_target σ := rfl
theorem kG_target_type (σ : KSt) (v : Int32) : kf_target (ks_type σ v) = kf_target σ := rfl
theorem kG_target_number (σ : KSt) (v : Int64) : kf_target (ks_number σ v) = kf_target σ := rfl
theorem kG_target_tape (σ : KSt) (v : RSt) : kf_target (ks_tape σ v) = kf_target σ := rfl
theorem tG_depth_depth (σ : TSt) (v : Int32) : tf_depth (ts_depth σ v) = v := rfl
theorem tG_depth_room (σ : TSt) (v : Int32) : tf_depth (ts_room σ v) = tf_depth σ := rfl
theorem tG_depth_faultPlace (σ : TSt) (v : Int32) : tf_depth (ts_faultPlace σ v) = tf_depth σ := rfl
theorem tG_depth_tape (σ : TSt) (v : RSt) : tf_depth (ts_tape σ v) = tf_depth σ := rfl
theorem tG_depth_written (σ : TSt) (v : RSt) : tf_depth (ts_written σ v) = tf_depth σ := rfl
theorem tG_depth_measure (σ : TSt) (v : RSt) : tf_depth (ts_measure σ v) = tf_depth σ := rfl
theorem tG_room_room (σ : TSt) (v : Int32) : tf_room (ts_room σ v) = v := rfl
theorem tG_room_depth (σ : TSt) (v : Int32) : tf_room (ts_depth σ v) = tf_room σ := rfl
theorem tG_room_faultPlace (σ : TSt) (v : Int32) : tf_room (ts_faultPlace σ v) = tf_room σ := rfl
theorem tG_room_tape (σ : TSt) (v : RSt) : tf_room (ts_tape σ v) = tf_room σ := rfl
theorem tG_room_written (σ : TSt) (v : RSt) : tf_room (ts_written σ v) = tf_room σ := rfl
theorem tG_room_measure (σ : TSt) (v : RSt) : tf_room (ts_measure σ v) = tf_room σ := rfl
theorem tG_faultPlace_faultPlace (σ : TSt) (v : Int32) : tf_faultPlace (ts_faultPlace σ v) = v := rfl
theorem tG_faultPlace_depth (σ : TSt) (v : Int32) : tf_faultPlace (ts_depth σ v) = tf_faultPlace σ := rfl
theorem tG_faultPlace_room (σ : TSt) (v : Int32) : tf_faultPlace (ts_room σ v) = tf_faultPlace σ := rfl
theorem tG_faultPlace_tape (σ : TSt) (v : RSt) : tf_faultPlace (ts_tape σ v) = tf_faultPlace σ := rfl
theorem tG_faultPlace_written (σ : TSt) (v : RSt) : tf_faultPlace (ts_written σ v) = tf_faultPlace σ := rfl
theorem tG_faultPlace_measure (σ : TSt) (v : RSt) : tf_faultPlace (ts_measure σ v) = tf_faultPlace σ := rfl
theorem tG_tape_tape (σ : TSt) (v : RSt) : tf_tape (ts_tape σ v) = v := rfl
theorem tG_tape_depth (σ : TSt) (v : Int32) : tf_tape (ts_depth σ v) = tf_tape σ := rfl
theorem tG_tape_room (σ : TSt) (v : Int32) : tf_tape (ts_room σ v) = tf_tape σ := rfl
theorem tG_tape_faultPlace (σ : TSt) (v : Int32) : tf_tape (ts_faultPlace σ v) = tf_tape σ := rfl
theorem tG_tape_written (σ : TSt) (v : RSt) : tf_tape (ts_written σ v) = tf_tape σ := rfl
theorem tG_tape_measure (σ : TSt) (v : RSt) : tf_tape (ts_measure σ v) = tf_tape σ := rfl
theorem tG_written_written (σ : TSt) (v : RSt) : tf_written (ts_written σ v) = v := rfl
theorem tG_written_depth (σ : TSt) (v : Int32) : tf_written (ts_depth σ v) = tf_written σ := rfl
theorem tG_written_room (σ : TSt) (v : Int32) : tf_written (ts_room σ v) = tf_written σ := rfl
theorem tG_written_faultPlace (σ : TSt) (v : Int32) : tf_written (ts_faultPlace σ v) = tf_written σ := rfl
theorem tG_written_tape (σ : TSt) (v : RSt) : tf_written (ts_tape σ v) = tf_written σ := rfl
theorem tG_written_measure (σ : TSt) (v : RSt) : tf_written (ts_measure σ v) = tf_written σ := rfl
theorem tG_measure_measure (σ : TSt) (v : RSt) : tf_measure (ts_measure σ v) = v := rfl
theorem tG_measure_depth (σ : TSt) (v : Int32) : tf_measure (ts_depth σ v) = tf_measure σ := rfl
theorem tG_measure_room (σ : TSt) (v : Int32) : tf_measure (ts_room σ v) = tf_measure σ := rfl
theorem tG_measure_faultPlace (σ : TSt) (v : Int32) : tf_measure (ts_faultPlace σ v) = tf_measure σ := rfl
theorem tG_measure_tape (σ : TSt) (v : RSt) : tf_measure (ts_tape σ v) = tf_measure σ := rfl
theorem tG_measure_written (σ : TSt) (v : RSt) : tf_measure (ts_written σ v) = tf_measure σ := rfl
def jW (cB : ClassId) (N : Nat) (q : Nat → Nat) (σ : JSt) : va_W := [(q 0, .inr (1, [.ref (q 1), .ref (q 3), .int (jf_depthLimit σ), .int (jf_place σ), .int (jf_faultKind σ), .int (jf_faultPlace σ)])), (q 1, .inr (2, [.ref (q 2), .int (rf_sz (jf_tape σ))])), (q 2, .inl (cB, 4000, .inl (rf_f (jf_tape σ)))), (q 3, .inr (2, [.ref (q 4), .int (rf_sz (jf_target σ))])), (q 4, .inl (cB, N, .inl (rf_f (jf_target σ))))]
def kW (cB : ClassId) (N : Nat) (q : Nat → Nat) (σ : KSt) : va_W := [(q 0, .inr (0, [.ref (q 1), .ref (q 3), .int (kf_depthLimit σ), .int (kf_place σ), .int (kf_faultKind σ), .int (kf_faultPlace σ), .int (kf_type σ), .long (kf_number σ)])), (q 1, .inr (2, [.ref (q 2), .int (rf_sz (kf_tape σ))])), (q 2, .inl (cB, 4000, .inl (rf_f (kf_tape σ)))), (q 3, .inr (2, [.ref (q 4), .int (rf_sz (kf_target σ))])), (q 4, .inl (cB, N, .inl (rf_f (kf_target σ))))]
def tW (cB : ClassId) (q : Nat → Nat) (σ : TSt) : va_W := [(q 0, .inr (3, [.ref (q 1), .ref (q 3), .ref (q 5), .int (tf_depth σ), .int (tf_room σ), .int (tf_faultPlace σ)])), (q 1, .inr (2, [.ref (q 2), .int (rf_sz (tf_tape σ))])), (q 2, .inl (cB, 4000, .inl (rf_f (tf_tape σ)))), (q 3, .inr (2, [.ref (q 4), .int (rf_sz (tf_written σ))])), (q 4, .inl (cB, 6000, .inl (rf_f (tf_written σ)))), (q 5, .inr (2, [.ref (q 6), .int (rf_sz (tf_measure σ))])), (q 6, .inl (cB, 0, .inl (rf_f (tf_measure σ))))]
theorem gm_X5_thrown {p : Program} {l : Launch} {e : Env} {R : Room} {s : State} {m : MethodId} {args : Array Value} {below : List Frame} {meth : Method} {c : Code} {H : Heap} {locs : List Loc} {cells slots : Nat} {Q : State → Prop} {D : va_G} {aK aV : Nat → Nat} {A : Nat → Prop} {cc : ByteArray} {nL : Nat} {ret : Option FieldType} {pc : Nat} {ls : Array Slot} {rest : List Value} {cB cI cJ : ClassId} {q : Nat → Nat} {σ : MSt} {v : Int32} (G : CX p s m args meth c D (gTy cB cI cJ) aK aV A RX5 cc nL ret) (hP : va_P D vwCl (mW cB cI cJ q σ) H) (hdg : decode cc pc = .ok (.getfield 52, 3)) (hv : mf_thrown σ = v) (k : W p l e R s m args below meth c H locs cells slots Q (F0 m (pc + 3) ls (.int v :: rest))) : W p l e R s m args below meth c H locs cells slots Q (F0 m pc ls (.ref (q 0) :: rest)) := by
  obtain ⟨hx, hb, hml, hown, hT, hrt, hlk, hK, hA, hG, hE⟩ := G
  subst hv
  exact va_get (ci := 4) (v := .int (mf_thrown σ)) (C := RX5) (T := TX5) (N := 22) hx hb hT i_X5 hown hK hP 0 rfl rfl 0 (by decide) (hT _ wfl_X5_52) (fun _ h9 => h9) rfl hdg k
theorem pm_X5_thrown {p : Program} {l : Launch} {e : Env} {R : Room} {s : State} {m : MethodId} {args : Array Value} {below : List Frame} {meth : Method} {c : Code} {H : Heap} {locs : List Loc} {cells slots : Nat} {Q : State → Prop} {D : va_G} {aK aV : Nat → Nat} {A : Nat → Prop} {cc : ByteArray} {nL : Nat} {ret : Option FieldType} {pc : Nat} {ls : Array Slot} {rest : List Value} {cB cI cJ : ClassId} {q : Nat → Nat} {σ : MSt} {v : Int32} (G : CX p s m args meth c D (gTy cB cI cJ) aK aV A RX5 cc nL ret) (hP : va_P D vwCl (mW cB cI cJ q σ) H) (hD : va_D A (mW cB cI cJ q σ)) (hS : va_S A s.heap H locs) (hdg : decode cc pc = .ok (.putfield 52, 3)) (k : ∀ (H1 : Heap) (locs1 : List Loc), va_P D vwCl (mW cB cI cJ q (ms_thrown σ v)) H1 → va_D A (mW cB cI cJ q (ms_thrown σ v)) → va_S A s.heap H1 locs1 → W p l e R s m args below meth c H1 locs1 cells slots Q (F0 m (pc + 3) ls rest)) : W p l e R s m args below meth c H locs cells slots Q (F0 m pc ls (.int v :: .ref (q 0) :: rest)) := by
  obtain ⟨hx, hb, hml, hown, hT, hrt, hlk, hK, hA, hG, hE⟩ := G
  exact va_put (ci := 4) (v := .int v) (ty := .int) (C := RX5) (T := TX5) (N := 22) hx hb hT i_X5 tyX5 tyX5_ok nmX5 hown hK hP hD hS 0 rfl rfl 0 (by decide) (hT _ wfl_X5_52) (fun _ h9 => h9) rfl (by decide +kernel) rfl rfl (Nat.le_of_ble_eq_true rfl) hdg k
theorem gm_X5_tape {p : Program} {l : Launch} {e : Env} {R : Room} {s : State} {m : MethodId} {args : Array Value} {below : List Frame} {meth : Method} {c : Code} {H : Heap} {locs : List Loc} {cells slots : Nat} {Q : State → Prop} {D : va_G} {aK aV : Nat → Nat} {A : Nat → Prop} {cc : ByteArray} {nL : Nat} {ret : Option FieldType} {pc : Nat} {ls : Array Slot} {rest : List Value} {cB cI cJ : ClassId} {q : Nat → Nat} {σ : MSt} (G : CX p s m args meth c D (gTy cB cI cJ) aK aV A RX5 cc nL ret) (hP : va_P D vwCl (mW cB cI cJ q σ) H) (hdg : decode cc pc = .ok (.getfield 7, 3)) (k : W p l e R s m args below meth c H locs cells slots Q (F0 m (pc + 3) ls (.ref (q 1) :: rest))) : W p l e R s m args below meth c H locs cells slots Q (F0 m pc ls (.ref (q 0) :: rest)) := by
  obtain ⟨hx, hb, hml, hown, hT, hrt, hlk, hK, hA, hG, hE⟩ := G
  exact va_get (ci := 4) (v := .ref (q 1)) (C := RX5) (T := TX5) (N := 22) hx hb hT i_X5 hown hK hP 0 rfl rfl 1 (by decide) (hT _ wfl_X5_7) (fun _ h9 => h9) rfl hdg k
theorem lm_tape {p : Program} {l : Launch} {e : Env} {R : Room} {s : State} {m : MethodId} {args : Array Value} {below : List Frame} {meth : Method} {c : Code} {H : Heap} {locs : List Loc} {cells slots : Nat} {Q : State → Prop} {D : va_G} {aK aV : Nat → Nat} {A : Nat → Prop} {cc : ByteArray} {nL : Nat} {ret : Option FieldType} {pc : Nat} {ls : Array Slot} {rest : List Value} {cB cI cJ : ClassId} {q : Nat → Nat} {σ : MSt} {i : Int32} {f : Nat → Int32} (G : CX p s m args meth c D (gTy cB cI cJ) aK aV A RX5 cc nL ret) (hP : va_P D vwCl (mW cB cI cJ q σ) H) (hin : vp_in i (4000)) (hdg : decode cc pc = .ok (.iaload, 1)) (h0 : mf_tape σ = f) (k : W p l e R s m args below meth c H locs cells slots Q (F0 m (pc + 1) ls (.int (f i.toNatClampNeg) :: rest))) : W p l e R s m args below meth c H locs cells slots Q (F0 m pc ls (.int i :: .ref (q 1) :: rest)) := by
  obtain ⟨hx, hb, hml, hown, hT, hrt, hlk, hK, hA, hG, hE⟩ := G
  subst h0
  exact va_iald hx hb hK hP 1 1 rfl rfl hin hdg k
theorem sm_tape {p : Program} {l : Launch} {e : Env} {R : Room} {s : State} {m : MethodId} {args : Array Value} {below : List Frame} {meth : Method} {c : Code} {H : Heap} {locs : List Loc} {cells slots : Nat} {Q : State → Prop} {D : va_G} {aK aV : Nat → Nat} {A : Nat → Prop} {cc : ByteArray} {nL : Nat} {ret : Option FieldType} {pc : Nat} {ls : Array Slot} {rest : List Value} {cB cI cJ : ClassId} {q : Nat → Nat} {σ : MSt} {i : Int32} {x : Int32} {f : Nat → Int32} (G : CX p s m args meth c D (gTy cB cI cJ) aK aV A RX5 cc nL ret) (hP : va_P D vwCl (mW cB cI cJ q σ) H) (hD : va_D A (mW cB cI cJ q σ)) (hS : va_S A s.heap H locs) (hin : vp_in i (4000)) (hdg : decode cc pc = .ok (.iastore, 1)) (h0 : mf_tape σ = f) (k : ∀ (H1 : Heap) (locs1 : List Loc), va_P D vwCl (mW cB cI cJ q (ms_tape σ (upd f i.toNatClampNeg x))) H1 → va_D A (mW cB cI cJ q (ms_tape σ (upd f i.toNatClampNeg x))) → va_S A s.heap H1 locs1 → W p l e R s m args below meth c H1 locs1 cells slots Q (F0 m (pc + 1) ls rest)) : W p l e R s m args below meth c H locs cells slots Q (F0 m pc ls (.int x :: .int i :: .ref (q 1) :: rest)) := by
  obtain ⟨hx, hb, hml, hown, hT, hrt, hlk, hK, hA, hG, hE⟩ := G
  subst h0
  exact va_iast hx hb hK hP hD hS 1 1 rfl rfl hin hdg k
theorem nm_tape {p : Program} {l : Launch} {e : Env} {R : Room} {s : State} {m : MethodId} {args : Array Value} {below : List Frame} {meth : Method} {c : Code} {H : Heap} {locs : List Loc} {cells slots : Nat} {Q : State → Prop} {D : va_G} {aK aV : Nat → Nat} {A : Nat → Prop} {cc : ByteArray} {nL : Nat} {ret : Option FieldType} {pc : Nat} {ls : Array Slot} {rest : List Value} {cB cI cJ : ClassId} {q : Nat → Nat} {σ : MSt} {v : Int32} (G : CX p s m args meth c D (gTy cB cI cJ) aK aV A RX5 cc nL ret) (hP : va_P D vwCl (mW cB cI cJ q σ) H) (hv : Int32.ofNat (4000) = v) (hdg : decode cc pc = .ok (.arraylength, 1)) (k : W p l e R s m args below meth c H locs cells slots Q (F0 m (pc + 1) ls (.int v :: rest))) : W p l e R s m args below meth c H locs cells slots Q (F0 m pc ls (.ref (q 1) :: rest)) := by
  obtain ⟨hx, hb, hml, hown, hT, hrt, hlk, hK, hA, hG, hE⟩ := G
  exact va_alen hx hb hK hP 1 1 rfl rfl hv hdg k
theorem gm_X5_taped {p : Program} {l : Launch} {e : Env} {R : Room} {s : State} {m : MethodId} {args : Array Value} {below : List Frame} {meth : Method} {c : Code} {H : Heap} {locs : List Loc} {cells slots : Nat} {Q : State → Prop} {D : va_G} {aK aV : Nat → Nat} {A : Nat → Prop} {cc : ByteArray} {nL : Nat} {ret : Option FieldType} {pc : Nat} {ls : Array Slot} {rest : List Value} {cB cI cJ : ClassId} {q : Nat → Nat} {σ : MSt} {v : Int32} (G : CX p s m args meth c D (gTy cB cI cJ) aK aV A RX5 cc nL ret) (hP : va_P D vwCl (mW cB cI cJ q σ) H) (hdg : decode cc pc = .ok (.getfield 55, 3)) (hv : mf_taped σ = v) (k : W p l e R s m args below meth c H locs cells slots Q (F0 m (pc + 3) ls (.int v :: rest))) : W p l e R s m args below meth c H locs cells slots Q (F0 m pc ls (.ref (q 0) :: rest)) := by
  obtain ⟨hx, hb, hml, hown, hT, hrt, hlk, hK, hA, hG, hE⟩ := G
  subst hv
  exact va_get (ci := 4) (v := .int (mf_taped σ)) (C := RX5) (T := TX5) (N := 22) hx hb hT i_X5 hown hK hP 0 rfl rfl 2 (by decide) (hT _ wfl_X5_55) (fun _ h9 => h9) rfl hdg k
theorem pm_X5_taped {p : Program} {l : Launch} {e : Env} {R : Room} {s : State} {m : MethodId} {args : Array Value} {below : List Frame} {meth : Method} {c : Code} {H : Heap} {locs : List Loc} {cells slots : Nat} {Q : State → Prop} {D : va_G} {aK aV : Nat → Nat} {A : Nat → Prop} {cc : ByteArray} {nL : Nat} {ret : Option FieldType} {pc : Nat} {ls : Array Slot} {rest : List Value} {cB cI cJ : ClassId} {q : Nat → Nat} {σ : MSt} {v : Int32} (G : CX p s m args meth c D (gTy cB cI cJ) aK aV A RX5 cc nL ret) (hP : va_P D vwCl (mW cB cI cJ q σ) H) (hD : va_D A (mW cB cI cJ q σ)) (hS : va_S A s.heap H locs) (hdg : decode cc pc = .ok (.putfield 55, 3)) (k : ∀ (H1 : Heap) (locs1 : List Loc), va_P D vwCl (mW cB cI cJ q (ms_taped σ v)) H1 → va_D A (mW cB cI cJ q (ms_taped σ v)) → va_S A s.heap H1 locs1 → W p l e R s m args below meth c H1 locs1 cells slots Q (F0 m (pc + 3) ls rest)) : W p l e R s m args below meth c H locs cells slots Q (F0 m pc ls (.int v :: .ref (q 0) :: rest)) := by
  obtain ⟨hx, hb, hml, hown, hT, hrt, hlk, hK, hA, hG, hE⟩ := G
  exact va_put (ci := 4) (v := .int v) (ty := .int) (C := RX5) (T := TX5) (N := 22) hx hb hT i_X5 tyX5 tyX5_ok nmX5 hown hK hP hD hS 0 rfl rfl 2 (by decide) (hT _ wfl_X5_55) (fun _ h9 => h9) rfl (by decide +kernel) rfl rfl (Nat.le_of_ble_eq_true rfl) hdg k
theorem gm_X5_depth {p : Program} {l : Launch} {e : Env} {R : Room} {s : State} {m : MethodId} {args : Array Value} {below : List Frame} {meth : Method} {c : Code} {H : Heap} {locs : List Loc} {cells slots : Nat} {Q : State → Prop} {D : va_G} {aK aV : Nat → Nat} {A : Nat → Prop} {cc : ByteArray} {nL : Nat} {ret : Option FieldType} {pc : Nat} {ls : Array Slot} {rest : List Value} {cB cI cJ : ClassId} {q : Nat → Nat} {σ : MSt} {v : Int32} (G : CX p s m args meth c D (gTy cB cI cJ) aK aV A RX5 cc nL ret) (hP : va_P D vwCl (mW cB cI cJ q σ) H) (hdg : decode cc pc = .ok (.getfield 13, 3)) (hv : mf_depth σ = v) (k : W p l e R s m args below meth c H locs cells slots Q (F0 m (pc + 3) ls (.int v :: rest))) : W p l e R s m args below meth c H locs cells slots Q (F0 m pc ls (.ref (q 0) :: rest)) := by
  obtain ⟨hx, hb, hml, hown, hT, hrt, hlk, hK, hA, hG, hE⟩ := G
  subst hv
  exact va_get (ci := 4) (v := .int (mf_depth σ)) (C := RX5) (T := TX5) (N := 22) hx hb hT i_X5 hown hK hP 0 rfl rfl 3 (by decide) (hT _ wfl_X5_13) (fun _ h9 => h9) rfl hdg k
theorem pm_X5_depth {p : Program} {l : Launch} {e : Env} {R : Room} {s : State} {m : MethodId} {args : Array Value} {below : List Frame} {meth : Method} {c : Code} {H : Heap} {locs : List Loc} {cells slots : Nat} {Q : State → Prop} {D : va_G} {aK aV : Nat → Nat} {A : Nat → Prop} {cc : ByteArray} {nL : Nat} {ret : Option FieldType} {pc : Nat} {ls : Array Slot} {rest : List Value} {cB cI cJ : ClassId} {q : Nat → Nat} {σ : MSt} {v : Int32} (G : CX p s m args meth c D (gTy cB cI cJ) aK aV A RX5 cc nL ret) (hP : va_P D vwCl (mW cB cI cJ q σ) H) (hD : va_D A (mW cB cI cJ q σ)) (hS : va_S A s.heap H locs) (hdg : decode cc pc = .ok (.putfield 13, 3)) (k : ∀ (H1 : Heap) (locs1 : List Loc), va_P D vwCl (mW cB cI cJ q (ms_depth σ v)) H1 → va_D A (mW cB cI cJ q (ms_depth σ v)) → va_S A s.heap H1 locs1 → W p l e R s m args below meth c H1 locs1 cells slots Q (F0 m (pc + 3) ls rest)) : W p l e R s m args below meth c H locs cells slots Q (F0 m pc ls (.int v :: .ref (q 0) :: rest)) := by
  obtain ⟨hx, hb, hml, hown, hT, hrt, hlk, hK, hA, hG, hE⟩ := G
  exact va_put (ci := 4) (v := .int v) (ty := .int) (C := RX5) (T := TX5) (N := 22) hx hb hT i_X5 tyX5 tyX5_ok nmX5 hown hK hP hD hS 0 rfl rfl 3 (by decide) (hT _ wfl_X5_13) (fun _ h9 => h9) rfl (by decide +kernel) rfl rfl (Nat.le_of_ble_eq_true rfl) hdg k
theorem gm_X5_room {p : Program} {l : Launch} {e : Env} {R : Room} {s : State} {m : MethodId} {args : Array Value} {below : List Frame} {meth : Method} {c : Code} {H : Heap} {locs : List Loc} {cells slots : Nat} {Q : State → Prop} {D : va_G} {aK aV : Nat → Nat} {A : Nat → Prop} {cc : ByteArray} {nL : Nat} {ret : Option FieldType} {pc : Nat} {ls : Array Slot} {rest : List Value} {cB cI cJ : ClassId} {q : Nat → Nat} {σ : MSt} {v : Int32} (G : CX p s m args meth c D (gTy cB cI cJ) aK aV A RX5 cc nL ret) (hP : va_P D vwCl (mW cB cI cJ q σ) H) (hdg : decode cc pc = .ok (.getfield 17, 3)) (hv : mf_room σ = v) (k : W p l e R s m args below meth c H locs cells slots Q (F0 m (pc + 3) ls (.int v :: rest))) : W p l e R s m args below meth c H locs cells slots Q (F0 m pc ls (.ref (q 0) :: rest)) := by
  obtain ⟨hx, hb, hml, hown, hT, hrt, hlk, hK, hA, hG, hE⟩ := G
  subst hv
  exact va_get (ci := 4) (v := .int (mf_room σ)) (C := RX5) (T := TX5) (N := 22) hx hb hT i_X5 hown hK hP 0 rfl rfl 4 (by decide) (hT _ wfl_X5_17) (fun _ h9 => h9) rfl hdg k
theorem pm_X5_room {p : Program} {l : Launch} {e : Env} {R : Room} {s : State} {m : MethodId} {args : Array Value} {below : List Frame} {meth : Method} {c : Code} {H : Heap} {locs : List Loc} {cells slots : Nat} {Q : State → Prop} {D : va_G} {aK aV : Nat → Nat} {A : Nat → Prop} {cc : ByteArray} {nL : Nat} {ret : Option FieldType} {pc : Nat} {ls : Array Slot} {rest : List Value} {cB cI cJ : ClassId} {q : Nat → Nat} {σ : MSt} {v : Int32} (G : CX p s m args meth c D (gTy cB cI cJ) aK aV A RX5 cc nL ret) (hP : va_P D vwCl (mW cB cI cJ q σ) H) (hD : va_D A (mW cB cI cJ q σ)) (hS : va_S A s.heap H locs) (hdg : decode cc pc = .ok (.putfield 17, 3)) (k : ∀ (H1 : Heap) (locs1 : List Loc), va_P D vwCl (mW cB cI cJ q (ms_room σ v)) H1 → va_D A (mW cB cI cJ q (ms_room σ v)) → va_S A s.heap H1 locs1 → W p l e R s m args below meth c H1 locs1 cells slots Q (F0 m (pc + 3) ls rest)) : W p l e R s m args below meth c H locs cells slots Q (F0 m pc ls (.int v :: .ref (q 0) :: rest)) := by
  obtain ⟨hx, hb, hml, hown, hT, hrt, hlk, hK, hA, hG, hE⟩ := G
  exact va_put (ci := 4) (v := .int v) (ty := .int) (C := RX5) (T := TX5) (N := 22) hx hb hT i_X5 tyX5 tyX5_ok nmX5 hown hK hP hD hS 0 rfl rfl 4 (by decide) (hT _ wfl_X5_17) (fun _ h9 => h9) rfl (by decide +kernel) rfl rfl (Nat.le_of_ble_eq_true rfl) hdg k
theorem gm_X5_written {p : Program} {l : Launch} {e : Env} {R : Room} {s : State} {m : MethodId} {args : Array Value} {below : List Frame} {meth : Method} {c : Code} {H : Heap} {locs : List Loc} {cells slots : Nat} {Q : State → Prop} {D : va_G} {aK aV : Nat → Nat} {A : Nat → Prop} {cc : ByteArray} {nL : Nat} {ret : Option FieldType} {pc : Nat} {ls : Array Slot} {rest : List Value} {cB cI cJ : ClassId} {q : Nat → Nat} {σ : MSt} (G : CX p s m args meth c D (gTy cB cI cJ) aK aV A RX5 cc nL ret) (hP : va_P D vwCl (mW cB cI cJ q σ) H) (hdg : decode cc pc = .ok (.getfield 20, 3)) (k : W p l e R s m args below meth c H locs cells slots Q (F0 m (pc + 3) ls (.ref (q 2) :: rest))) : W p l e R s m args below meth c H locs cells slots Q (F0 m pc ls (.ref (q 0) :: rest)) := by
  obtain ⟨hx, hb, hml, hown, hT, hrt, hlk, hK, hA, hG, hE⟩ := G
  exact va_get (ci := 4) (v := .ref (q 2)) (C := RX5) (T := TX5) (N := 22) hx hb hT i_X5 hown hK hP 0 rfl rfl 5 (by decide) (hT _ wfl_X5_20) (fun _ h9 => h9) rfl hdg k
theorem lm_written {p : Program} {l : Launch} {e : Env} {R : Room} {s : State} {m : MethodId} {args : Array Value} {below : List Frame} {meth : Method} {c : Code} {H : Heap} {locs : List Loc} {cells slots : Nat} {Q : State → Prop} {D : va_G} {aK aV : Nat → Nat} {A : Nat → Prop} {cc : ByteArray} {nL : Nat} {ret : Option FieldType} {pc : Nat} {ls : Array Slot} {rest : List Value} {cB cI cJ : ClassId} {q : Nat → Nat} {σ : MSt} {i : Int32} {f : Nat → Int32} (G : CX p s m args meth c D (gTy cB cI cJ) aK aV A RX5 cc nL ret) (hP : va_P D vwCl (mW cB cI cJ q σ) H) (hin : vp_in i (6000)) (hdg : decode cc pc = .ok (.baload, 1)) (h0 : mf_written σ = f) (k : W p l e R s m args below meth c H locs cells slots Q (F0 m (pc + 1) ls (.int (f i.toNatClampNeg) :: rest))) : W p l e R s m args below meth c H locs cells slots Q (F0 m pc ls (.int i :: .ref (q 2) :: rest)) := by
  obtain ⟨hx, hb, hml, hown, hT, hrt, hlk, hK, hA, hG, hE⟩ := G
  subst h0
  exact va_bald hx hb hK hP 2 0 rfl rfl hin hdg k
theorem sm_written {p : Program} {l : Launch} {e : Env} {R : Room} {s : State} {m : MethodId} {args : Array Value} {below : List Frame} {meth : Method} {c : Code} {H : Heap} {locs : List Loc} {cells slots : Nat} {Q : State → Prop} {D : va_G} {aK aV : Nat → Nat} {A : Nat → Prop} {cc : ByteArray} {nL : Nat} {ret : Option FieldType} {pc : Nat} {ls : Array Slot} {rest : List Value} {cB cI cJ : ClassId} {q : Nat → Nat} {σ : MSt} {i : Int32} {x : Int32} {f : Nat → Int32} (G : CX p s m args meth c D (gTy cB cI cJ) aK aV A RX5 cc nL ret) (hP : va_P D vwCl (mW cB cI cJ q σ) H) (hD : va_D A (mW cB cI cJ q σ)) (hS : va_S A s.heap H locs) (hin : vp_in i (6000)) (hdg : decode cc pc = .ok (.bastore, 1)) (h0 : mf_written σ = f) (k : ∀ (H1 : Heap) (locs1 : List Loc), va_P D vwCl (mW cB cI cJ q (ms_written σ (upd f i.toNatClampNeg (vp_nar .byte x)))) H1 → va_D A (mW cB cI cJ q (ms_written σ (upd f i.toNatClampNeg (vp_nar .byte x)))) → va_S A s.heap H1 locs1 → W p l e R s m args below meth c H1 locs1 cells slots Q (F0 m (pc + 1) ls rest)) : W p l e R s m args below meth c H locs cells slots Q (F0 m pc ls (.int x :: .int i :: .ref (q 2) :: rest)) := by
  obtain ⟨hx, hb, hml, hown, hT, hrt, hlk, hK, hA, hG, hE⟩ := G
  subst h0
  exact va_bast hx hb hK hP hD hS 2 0 rfl rfl hin hdg k
theorem nm_written {p : Program} {l : Launch} {e : Env} {R : Room} {s : State} {m : MethodId} {args : Array Value} {below : List Frame} {meth : Method} {c : Code} {H : Heap} {locs : List Loc} {cells slots : Nat} {Q : State → Prop} {D : va_G} {aK aV : Nat → Nat} {A : Nat → Prop} {cc : ByteArray} {nL : Nat} {ret : Option FieldType} {pc : Nat} {ls : Array Slot} {rest : List Value} {cB cI cJ : ClassId} {q : Nat → Nat} {σ : MSt} {v : Int32} (G : CX p s m args meth c D (gTy cB cI cJ) aK aV A RX5 cc nL ret) (hP : va_P D vwCl (mW cB cI cJ q σ) H) (hv : Int32.ofNat (6000) = v) (hdg : decode cc pc = .ok (.arraylength, 1)) (k : W p l e R s m args below meth c H locs cells slots Q (F0 m (pc + 1) ls (.int v :: rest))) : W p l e R s m args below meth c H locs cells slots Q (F0 m pc ls (.ref (q 2) :: rest)) := by
  obtain ⟨hx, hb, hml, hown, hT, hrt, hlk, hK, hA, hG, hE⟩ := G
  exact va_alen hx hb hK hP 2 0 rfl rfl hv hdg k
theorem gm_X5_writtenMany {p : Program} {l : Launch} {e : Env} {R : Room} {s : State} {m : MethodId} {args : Array Value} {below : List Frame} {meth : Method} {c : Code} {H : Heap} {locs : List Loc} {cells slots : Nat} {Q : State → Prop} {D : va_G} {aK aV : Nat → Nat} {A : Nat → Prop} {cc : ByteArray} {nL : Nat} {ret : Option FieldType} {pc : Nat} {ls : Array Slot} {rest : List Value} {cB cI cJ : ClassId} {q : Nat → Nat} {σ : MSt} {v : Int32} (G : CX p s m args meth c D (gTy cB cI cJ) aK aV A RX5 cc nL ret) (hP : va_P D vwCl (mW cB cI cJ q σ) H) (hdg : decode cc pc = .ok (.getfield 58, 3)) (hv : mf_writtenMany σ = v) (k : W p l e R s m args below meth c H locs cells slots Q (F0 m (pc + 3) ls (.int v :: rest))) : W p l e R s m args below meth c H locs cells slots Q (F0 m pc ls (.ref (q 0) :: rest)) := by
  obtain ⟨hx, hb, hml, hown, hT, hrt, hlk, hK, hA, hG, hE⟩ := G
  subst hv
  exact va_get (ci := 4) (v := .int (mf_writtenMany σ)) (C := RX5) (T := TX5) (N := 22) hx hb hT i_X5 hown hK hP 0 rfl rfl 6 (by decide) (hT _ wfl_X5_58) (fun _ h9 => h9) rfl hdg k
theorem pm_X5_writtenMany {p : Program} {l : Launch} {e : Env} {R : Room} {s : State} {m : MethodId} {args : Array Value} {below : List Frame} {meth : Method} {c : Code} {H : Heap} {locs : List Loc} {cells slots : Nat} {Q : State → Prop} {D : va_G} {aK aV : Nat → Nat} {A : Nat → Prop} {cc : ByteArray} {nL : Nat} {ret : Option FieldType} {pc : Nat} {ls : Array Slot} {rest : List Value} {cB cI cJ : ClassId} {q : Nat → Nat} {σ : MSt} {v : Int32} (G : CX p s m args meth c D (gTy cB cI cJ) aK aV A RX5 cc nL ret) (hP : va_P D vwCl (mW cB cI cJ q σ) H) (hD : va_D A (mW cB cI cJ q σ)) (hS : va_S A s.heap H locs) (hdg : decode cc pc = .ok (.putfield 58, 3)) (k : ∀ (H1 : Heap) (locs1 : List Loc), va_P D vwCl (mW cB cI cJ q (ms_writtenMany σ v)) H1 → va_D A (mW cB cI cJ q (ms_writtenMany σ v)) → va_S A s.heap H1 locs1 → W p l e R s m args below meth c H1 locs1 cells slots Q (F0 m (pc + 3) ls rest)) : W p l e R s m args below meth c H locs cells slots Q (F0 m pc ls (.int v :: .ref (q 0) :: rest)) := by
  obtain ⟨hx, hb, hml, hown, hT, hrt, hlk, hK, hA, hG, hE⟩ := G
  exact va_put (ci := 4) (v := .int v) (ty := .int) (C := RX5) (T := TX5) (N := 22) hx hb hT i_X5 tyX5 tyX5_ok nmX5 hown hK hP hD hS 0 rfl rfl 6 (by decide) (hT _ wfl_X5_58) (fun _ h9 => h9) rfl (by decide +kernel) rfl rfl (Nat.le_of_ble_eq_true rfl) hdg k
theorem gm_X5_errorPlace {p : Program} {l : Launch} {e : Env} {R : Room} {s : State} {m : MethodId} {args : Array Value} {below : List Frame} {meth : Method} {c : Code} {H : Heap} {locs : List Loc} {cells slots : Nat} {Q : State → Prop} {D : va_G} {aK aV : Nat → Nat} {A : Nat → Prop} {cc : ByteArray} {nL : Nat} {ret : Option FieldType} {pc : Nat} {ls : Array Slot} {rest : List Value} {cB cI cJ : ClassId} {q : Nat → Nat} {σ : MSt} {v : Int32} (G : CX p s m args meth c D (gTy cB cI cJ) aK aV A RX5 cc nL ret) (hP : va_P D vwCl (mW cB cI cJ q σ) H) (hdg : decode cc pc = .ok (.getfield 24, 3)) (hv : mf_errorPlace σ = v) (k : W p l e R s m args below meth c H locs cells slots Q (F0 m (pc + 3) ls (.int v :: rest))) : W p l e R s m args below meth c H locs cells slots Q (F0 m pc ls (.ref (q 0) :: rest)) := by
  obtain ⟨hx, hb, hml, hown, hT, hrt, hlk, hK, hA, hG, hE⟩ := G
  subst hv
  exact va_get (ci := 4) (v := .int (mf_errorPlace σ)) (C := RX5) (T := TX5) (N := 22) hx hb hT i_X5 hown hK hP 0 rfl rfl 7 (by decide) (hT _ wfl_X5_24) (fun _ h9 => h9) rfl hdg k
theorem pm_X5_errorPlace {p : Program} {l : Launch} {e : Env} {R : Room} {s : State} {m : MethodId} {args : Array Value} {below : List Frame} {meth : Method} {c : Code} {H : Heap} {locs : List Loc} {cells slots : Nat} {Q : State → Prop} {D : va_G} {aK aV : Nat → Nat} {A : Nat → Prop} {cc : ByteArray} {nL : Nat} {ret : Option FieldType} {pc : Nat} {ls : Array Slot} {rest : List Value} {cB cI cJ : ClassId} {q : Nat → Nat} {σ : MSt} {v : Int32} (G : CX p s m args meth c D (gTy cB cI cJ) aK aV A RX5 cc nL ret) (hP : va_P D vwCl (mW cB cI cJ q σ) H) (hD : va_D A (mW cB cI cJ q σ)) (hS : va_S A s.heap H locs) (hdg : decode cc pc = .ok (.putfield 24, 3)) (k : ∀ (H1 : Heap) (locs1 : List Loc), va_P D vwCl (mW cB cI cJ q (ms_errorPlace σ v)) H1 → va_D A (mW cB cI cJ q (ms_errorPlace σ v)) → va_S A s.heap H1 locs1 → W p l e R s m args below meth c H1 locs1 cells slots Q (F0 m (pc + 3) ls rest)) : W p l e R s m args below meth c H locs cells slots Q (F0 m pc ls (.int v :: .ref (q 0) :: rest)) := by
  obtain ⟨hx, hb, hml, hown, hT, hrt, hlk, hK, hA, hG, hE⟩ := G
  exact va_put (ci := 4) (v := .int v) (ty := .int) (C := RX5) (T := TX5) (N := 22) hx hb hT i_X5 tyX5 tyX5_ok nmX5 hown hK hP hD hS 0 rfl rfl 7 (by decide) (hT _ wfl_X5_24) (fun _ h9 => h9) rfl (by decide +kernel) rfl rfl (Nat.le_of_ble_eq_true rfl) hdg k
theorem gm_X5_sorts {p : Program} {l : Launch} {e : Env} {R : Room} {s : State} {m : MethodId} {args : Array Value} {below : List Frame} {meth : Method} {c : Code} {H : Heap} {locs : List Loc} {cells slots : Nat} {Q : State → Prop} {D : va_G} {aK aV : Nat → Nat} {A : Nat → Prop} {cc : ByteArray} {nL : Nat} {ret : Option FieldType} {pc : Nat} {ls : Array Slot} {rest : List Value} {cB cI cJ : ClassId} {q : Nat → Nat} {σ : MSt} (G : CX p s m args meth c D (gTy cB cI cJ) aK aV A RX5 cc nL ret) (hP : va_P D vwCl (mW cB cI cJ q σ) H) (hdg : decode cc pc = .ok (.getfield 27, 3)) (k : W p l e R s m args below meth c H locs cells slots Q (F0 m (pc + 3) ls (.ref (q 3) :: rest))) : W p l e R s m args below meth c H locs cells slots Q (F0 m pc ls (.ref (q 0) :: rest)) := by
  obtain ⟨hx, hb, hml, hown, hT, hrt, hlk, hK, hA, hG, hE⟩ := G
  exact va_get (ci := 4) (v := .ref (q 3)) (C := RX5) (T := TX5) (N := 22) hx hb hT i_X5 hown hK hP 0 rfl rfl 8 (by decide) (hT _ wfl_X5_27) (fun _ h9 => h9) rfl hdg k
theorem lm_sorts {p : Program} {l : Launch} {e : Env} {R : Room} {s : State} {m : MethodId} {args : Array Value} {below : List Frame} {meth : Method} {c : Code} {H : Heap} {locs : List Loc} {cells slots : Nat} {Q : State → Prop} {D : va_G} {aK aV : Nat → Nat} {A : Nat → Prop} {cc : ByteArray} {nL : Nat} {ret : Option FieldType} {pc : Nat} {ls : Array Slot} {rest : List Value} {cB cI cJ : ClassId} {q : Nat → Nat} {σ : MSt} {i : Int32} {f : Nat → Int32} (G : CX p s m args meth c D (gTy cB cI cJ) aK aV A RX5 cc nL ret) (hP : va_P D vwCl (mW cB cI cJ q σ) H) (hin : vp_in i (4200)) (hdg : decode cc pc = .ok (.iaload, 1)) (h0 : mf_sorts σ = f) (k : W p l e R s m args below meth c H locs cells slots Q (F0 m (pc + 1) ls (.int (f i.toNatClampNeg) :: rest))) : W p l e R s m args below meth c H locs cells slots Q (F0 m pc ls (.int i :: .ref (q 3) :: rest)) := by
  obtain ⟨hx, hb, hml, hown, hT, hrt, hlk, hK, hA, hG, hE⟩ := G
  subst h0
  exact va_iald hx hb hK hP 3 1 rfl rfl hin hdg k
theorem sm_sorts {p : Program} {l : Launch} {e : Env} {R : Room} {s : State} {m : MethodId} {args : Array Value} {below : List Frame} {meth : Method} {c : Code} {H : Heap} {locs : List Loc} {cells slots : Nat} {Q : State → Prop} {D : va_G} {aK aV : Nat → Nat} {A : Nat → Prop} {cc : ByteArray} {nL : Nat} {ret : Option FieldType} {pc : Nat} {ls : Array Slot} {rest : List Value} {cB cI cJ : ClassId} {q : Nat → Nat} {σ : MSt} {i : Int32} {x : Int32} {f : Nat → Int32} (G : CX p s m args meth c D (gTy cB cI cJ) aK aV A RX5 cc nL ret) (hP : va_P D vwCl (mW cB cI cJ q σ) H) (hD : va_D A (mW cB cI cJ q σ)) (hS : va_S A s.heap H locs) (hin : vp_in i (4200)) (hdg : decode cc pc = .ok (.iastore, 1)) (h0 : mf_sorts σ = f) (k : ∀ (H1 : Heap) (locs1 : List Loc), va_P D vwCl (mW cB cI cJ q (ms_sorts σ (upd f i.toNatClampNeg x))) H1 → va_D A (mW cB cI cJ q (ms_sorts σ (upd f i.toNatClampNeg x))) → va_S A s.heap H1 locs1 → W p l e R s m args below meth c H1 locs1 cells slots Q (F0 m (pc + 1) ls rest)) : W p l e R s m args below meth c H locs cells slots Q (F0 m pc ls (.int x :: .int i :: .ref (q 3) :: rest)) := by
  obtain ⟨hx, hb, hml, hown, hT, hrt, hlk, hK, hA, hG, hE⟩ := G
  subst h0
  exact va_iast hx hb hK hP hD hS 3 1 rfl rfl hin hdg k
theorem nm_sorts {p : Program} {l : Launch} {e : Env} {R : Room} {s : State} {m : MethodId} {args : Array Value} {below : List Frame} {meth : Method} {c : Code} {H : Heap} {locs : List Loc} {cells slots : Nat} {Q : State → Prop} {D : va_G} {aK aV : Nat → Nat} {A : Nat → Prop} {cc : ByteArray} {nL : Nat} {ret : Option FieldType} {pc : Nat} {ls : Array Slot} {rest : List Value} {cB cI cJ : ClassId} {q : Nat → Nat} {σ : MSt} {v : Int32} (G : CX p s m args meth c D (gTy cB cI cJ) aK aV A RX5 cc nL ret) (hP : va_P D vwCl (mW cB cI cJ q σ) H) (hv : Int32.ofNat (4200) = v) (hdg : decode cc pc = .ok (.arraylength, 1)) (k : W p l e R s m args below meth c H locs cells slots Q (F0 m (pc + 1) ls (.int v :: rest))) : W p l e R s m args below meth c H locs cells slots Q (F0 m pc ls (.ref (q 3) :: rest)) := by
  obtain ⟨hx, hb, hml, hown, hT, hrt, hlk, hK, hA, hG, hE⟩ := G
  exact va_alen hx hb hK hP 3 1 rfl rfl hv hdg k
theorem gm_X5_numbers {p : Program} {l : Launch} {e : Env} {R : Room} {s : State} {m : MethodId} {args : Array Value} {below : List Frame} {meth : Method} {c : Code} {H : Heap} {locs : List Loc} {cells slots : Nat} {Q : State → Prop} {D : va_G} {aK aV : Nat → Nat} {A : Nat → Prop} {cc : ByteArray} {nL : Nat} {ret : Option FieldType} {pc : Nat} {ls : Array Slot} {rest : List Value} {cB cI cJ : ClassId} {q : Nat → Nat} {σ : MSt} (G : CX p s m args meth c D (gTy cB cI cJ) aK aV A RX5 cc nL ret) (hP : va_P D vwCl (mW cB cI cJ q σ) H) (hdg : decode cc pc = .ok (.getfield 30, 3)) (k : W p l e R s m args below meth c H locs cells slots Q (F0 m (pc + 3) ls (.ref (q 4) :: rest))) : W p l e R s m args below meth c H locs cells slots Q (F0 m pc ls (.ref (q 0) :: rest)) := by
  obtain ⟨hx, hb, hml, hown, hT, hrt, hlk, hK, hA, hG, hE⟩ := G
  exact va_get (ci := 4) (v := .ref (q 4)) (C := RX5) (T := TX5) (N := 22) hx hb hT i_X5 hown hK hP 0 rfl rfl 9 (by decide) (hT _ wfl_X5_30) (fun _ h9 => h9) rfl hdg k
theorem lm_numbers {p : Program} {l : Launch} {e : Env} {R : Room} {s : State} {m : MethodId} {args : Array Value} {below : List Frame} {meth : Method} {c : Code} {H : Heap} {locs : List Loc} {cells slots : Nat} {Q : State → Prop} {D : va_G} {aK aV : Nat → Nat} {A : Nat → Prop} {cc : ByteArray} {nL : Nat} {ret : Option FieldType} {pc : Nat} {ls : Array Slot} {rest : List Value} {cB cI cJ : ClassId} {q : Nat → Nat} {σ : MSt} {i : Int32} {f : Nat → Int64} (G : CX p s m args meth c D (gTy cB cI cJ) aK aV A RX5 cc nL ret) (hP : va_P D vwCl (mW cB cI cJ q σ) H) (hin : vp_in i (4200)) (hdg : decode cc pc = .ok (.laload, 1)) (h0 : mf_numbers σ = f) (k : W p l e R s m args below meth c H locs cells slots Q (F0 m (pc + 1) ls (.long (f i.toNatClampNeg) :: rest))) : W p l e R s m args below meth c H locs cells slots Q (F0 m pc ls (.int i :: .ref (q 4) :: rest)) := by
  obtain ⟨hx, hb, hml, hown, hT, hrt, hlk, hK, hA, hG, hE⟩ := G
  subst h0
  exact va_lald hx hb hK hP 4 2 rfl rfl hin hdg k
theorem sm_numbers {p : Program} {l : Launch} {e : Env} {R : Room} {s : State} {m : MethodId} {args : Array Value} {below : List Frame} {meth : Method} {c : Code} {H : Heap} {locs : List Loc} {cells slots : Nat} {Q : State → Prop} {D : va_G} {aK aV : Nat → Nat} {A : Nat → Prop} {cc : ByteArray} {nL : Nat} {ret : Option FieldType} {pc : Nat} {ls : Array Slot} {rest : List Value} {cB cI cJ : ClassId} {q : Nat → Nat} {σ : MSt} {i : Int32} {x : Int64} {f : Nat → Int64} (G : CX p s m args meth c D (gTy cB cI cJ) aK aV A RX5 cc nL ret) (hP : va_P D vwCl (mW cB cI cJ q σ) H) (hD : va_D A (mW cB cI cJ q σ)) (hS : va_S A s.heap H locs) (hin : vp_in i (4200)) (hdg : decode cc pc = .ok (.lastore, 1)) (h0 : mf_numbers σ = f) (k : ∀ (H1 : Heap) (locs1 : List Loc), va_P D vwCl (mW cB cI cJ q (ms_numbers σ (vp_updL f i.toNatClampNeg x))) H1 → va_D A (mW cB cI cJ q (ms_numbers σ (vp_updL f i.toNatClampNeg x))) → va_S A s.heap H1 locs1 → W p l e R s m args below meth c H1 locs1 cells slots Q (F0 m (pc + 1) ls rest)) : W p l e R s m args below meth c H locs cells slots Q (F0 m pc ls (.long x :: .int i :: .ref (q 4) :: rest)) := by
  obtain ⟨hx, hb, hml, hown, hT, hrt, hlk, hK, hA, hG, hE⟩ := G
  subst h0
  exact va_last hx hb hK hP hD hS 4 2 rfl rfl hin hdg k
theorem nm_numbers {p : Program} {l : Launch} {e : Env} {R : Room} {s : State} {m : MethodId} {args : Array Value} {below : List Frame} {meth : Method} {c : Code} {H : Heap} {locs : List Loc} {cells slots : Nat} {Q : State → Prop} {D : va_G} {aK aV : Nat → Nat} {A : Nat → Prop} {cc : ByteArray} {nL : Nat} {ret : Option FieldType} {pc : Nat} {ls : Array Slot} {rest : List Value} {cB cI cJ : ClassId} {q : Nat → Nat} {σ : MSt} {v : Int32} (G : CX p s m args meth c D (gTy cB cI cJ) aK aV A RX5 cc nL ret) (hP : va_P D vwCl (mW cB cI cJ q σ) H) (hv : Int32.ofNat (4200) = v) (hdg : decode cc pc = .ok (.arraylength, 1)) (k : W p l e R s m args below meth c H locs cells slots Q (F0 m (pc + 1) ls (.int v :: rest))) : W p l e R s m args below meth c H locs cells slots Q (F0 m pc ls (.ref (q 4) :: rest)) := by
  obtain ⟨hx, hb, hml, hown, hT, hrt, hlk, hK, hA, hG, hE⟩ := G
  exact va_alen hx hb hK hP 4 2 rfl rfl hv hdg k
theorem gm_X5_places {p : Program} {l : Launch} {e : Env} {R : Room} {s : State} {m : MethodId} {args : Array Value} {below : List Frame} {meth : Method} {c : Code} {H : Heap} {locs : List Loc} {cells slots : Nat} {Q : State → Prop} {D : va_G} {aK aV : Nat → Nat} {A : Nat → Prop} {cc : ByteArray} {nL : Nat} {ret : Option FieldType} {pc : Nat} {ls : Array Slot} {rest : List Value} {cB cI cJ : ClassId} {q : Nat → Nat} {σ : MSt} (G : CX p s m args meth c D (gTy cB cI cJ) aK aV A RX5 cc nL ret) (hP : va_P D vwCl (mW cB cI cJ q σ) H) (hdg : decode cc pc = .ok (.getfield 34, 3)) (k : W p l e R s m args below meth c H locs cells slots Q (F0 m (pc + 3) ls (.ref (q 5) :: rest))) : W p l e R s m args below meth c H locs cells slots Q (F0 m pc ls (.ref (q 0) :: rest)) := by
  obtain ⟨hx, hb, hml, hown, hT, hrt, hlk, hK, hA, hG, hE⟩ := G
  exact va_get (ci := 4) (v := .ref (q 5)) (C := RX5) (T := TX5) (N := 22) hx hb hT i_X5 hown hK hP 0 rfl rfl 10 (by decide) (hT _ wfl_X5_34) (fun _ h9 => h9) rfl hdg k
theorem lm_places {p : Program} {l : Launch} {e : Env} {R : Room} {s : State} {m : MethodId} {args : Array Value} {below : List Frame} {meth : Method} {c : Code} {H : Heap} {locs : List Loc} {cells slots : Nat} {Q : State → Prop} {D : va_G} {aK aV : Nat → Nat} {A : Nat → Prop} {cc : ByteArray} {nL : Nat} {ret : Option FieldType} {pc : Nat} {ls : Array Slot} {rest : List Value} {cB cI cJ : ClassId} {q : Nat → Nat} {σ : MSt} {i : Int32} {f : Nat → Int32} (G : CX p s m args meth c D (gTy cB cI cJ) aK aV A RX5 cc nL ret) (hP : va_P D vwCl (mW cB cI cJ q σ) H) (hin : vp_in i (4200)) (hdg : decode cc pc = .ok (.iaload, 1)) (h0 : mf_places σ = f) (k : W p l e R s m args below meth c H locs cells slots Q (F0 m (pc + 1) ls (.int (f i.toNatClampNeg) :: rest))) : W p l e R s m args below meth c H locs cells slots Q (F0 m pc ls (.int i :: .ref (q 5) :: rest)) := by
  obtain ⟨hx, hb, hml, hown, hT, hrt, hlk, hK, hA, hG, hE⟩ := G
  subst h0
  exact va_iald hx hb hK hP 5 1 rfl rfl hin hdg k
theorem sm_places {p : Program} {l : Launch} {e : Env} {R : Room} {s : State} {m : MethodId} {args : Array Value} {below : List Frame} {meth : Method} {c : Code} {H : Heap} {locs : List Loc} {cells slots : Nat} {Q : State → Prop} {D : va_G} {aK aV : Nat → Nat} {A : Nat → Prop} {cc : ByteArray} {nL : Nat} {ret : Option FieldType} {pc : Nat} {ls : Array Slot} {rest : List Value} {cB cI cJ : ClassId} {q : Nat → Nat} {σ : MSt} {i : Int32} {x : Int32} {f : Nat → Int32} (G : CX p s m args meth c D (gTy cB cI cJ) aK aV A RX5 cc nL ret) (hP : va_P D vwCl (mW cB cI cJ q σ) H) (hD : va_D A (mW cB cI cJ q σ)) (hS : va_S A s.heap H locs) (hin : vp_in i (4200)) (hdg : decode cc pc = .ok (.iastore, 1)) (h0 : mf_places σ = f) (k : ∀ (H1 : Heap) (locs1 : List Loc), va_P D vwCl (mW cB cI cJ q (ms_places σ (upd f i.toNatClampNeg x))) H1 → va_D A (mW cB cI cJ q (ms_places σ (upd f i.toNatClampNeg x))) → va_S A s.heap H1 locs1 → W p l e R s m args below meth c H1 locs1 cells slots Q (F0 m (pc + 1) ls rest)) : W p l e R s m args below meth c H locs cells slots Q (F0 m pc ls (.int x :: .int i :: .ref (q 5) :: rest)) := by
  obtain ⟨hx, hb, hml, hown, hT, hrt, hlk, hK, hA, hG, hE⟩ := G
  subst h0
  exact va_iast hx hb hK hP hD hS 5 1 rfl rfl hin hdg k
theorem nm_places {p : Program} {l : Launch} {e : Env} {R : Room} {s : State} {m : MethodId} {args : Array Value} {below : List Frame} {meth : Method} {c : Code} {H : Heap} {locs : List Loc} {cells slots : Nat} {Q : State → Prop} {D : va_G} {aK aV : Nat → Nat} {A : Nat → Prop} {cc : ByteArray} {nL : Nat} {ret : Option FieldType} {pc : Nat} {ls : Array Slot} {rest : List Value} {cB cI cJ : ClassId} {q : Nat → Nat} {σ : MSt} {v : Int32} (G : CX p s m args meth c D (gTy cB cI cJ) aK aV A RX5 cc nL ret) (hP : va_P D vwCl (mW cB cI cJ q σ) H) (hv : Int32.ofNat (4200) = v) (hdg : decode cc pc = .ok (.arraylength, 1)) (k : W p l e R s m args below meth c H locs cells slots Q (F0 m (pc + 1) ls (.int v :: rest))) : W p l e R s m args below meth c H locs cells slots Q (F0 m pc ls (.ref (q 5) :: rest)) := by
  obtain ⟨hx, hb, hml, hown, hT, hrt, hlk, hK, hA, hG, hE⟩ := G
  exact va_alen hx hb hK hP 5 1 rfl rfl hv hdg k
theorem gm_X5_things {p : Program} {l : Launch} {e : Env} {R : Room} {s : State} {m : MethodId} {args : Array Value} {below : List Frame} {meth : Method} {c : Code} {H : Heap} {locs : List Loc} {cells slots : Nat} {Q : State → Prop} {D : va_G} {aK aV : Nat → Nat} {A : Nat → Prop} {cc : ByteArray} {nL : Nat} {ret : Option FieldType} {pc : Nat} {ls : Array Slot} {rest : List Value} {cB cI cJ : ClassId} {q : Nat → Nat} {σ : MSt} {v : Int32} (G : CX p s m args meth c D (gTy cB cI cJ) aK aV A RX5 cc nL ret) (hP : va_P D vwCl (mW cB cI cJ q σ) H) (hdg : decode cc pc = .ok (.getfield 67, 3)) (hv : mf_things σ = v) (k : W p l e R s m args below meth c H locs cells slots Q (F0 m (pc + 3) ls (.int v :: rest))) : W p l e R s m args below meth c H locs cells slots Q (F0 m pc ls (.ref (q 0) :: rest)) := by
  obtain ⟨hx, hb, hml, hown, hT, hrt, hlk, hK, hA, hG, hE⟩ := G
  subst hv
  exact va_get (ci := 4) (v := .int (mf_things σ)) (C := RX5) (T := TX5) (N := 22) hx hb hT i_X5 hown hK hP 0 rfl rfl 11 (by decide) (hT _ wfl_X5_67) (fun _ h9 => h9) rfl hdg k
theorem pm_X5_things {p : Program} {l : Launch} {e : Env} {R : Room} {s : State} {m : MethodId} {args : Array Value} {below : List Frame} {meth : Method} {c : Code} {H : Heap} {locs : List Loc} {cells slots : Nat} {Q : State → Prop} {D : va_G} {aK aV : Nat → Nat} {A : Nat → Prop} {cc : ByteArray} {nL : Nat} {ret : Option FieldType} {pc : Nat} {ls : Array Slot} {rest : List Value} {cB cI cJ : ClassId} {q : Nat → Nat} {σ : MSt} {v : Int32} (G : CX p s m args meth c D (gTy cB cI cJ) aK aV A RX5 cc nL ret) (hP : va_P D vwCl (mW cB cI cJ q σ) H) (hD : va_D A (mW cB cI cJ q σ)) (hS : va_S A s.heap H locs) (hdg : decode cc pc = .ok (.putfield 67, 3)) (k : ∀ (H1 : Heap) (locs1 : List Loc), va_P D vwCl (mW cB cI cJ q (ms_things σ v)) H1 → va_D A (mW cB cI cJ q (ms_things σ v)) → va_S A s.heap H1 locs1 → W p l e R s m args below meth c H1 locs1 cells slots Q (F0 m (pc + 3) ls rest)) : W p l e R s m args below meth c H locs cells slots Q (F0 m pc ls (.int v :: .ref (q 0) :: rest)) := by
  obtain ⟨hx, hb, hml, hown, hT, hrt, hlk, hK, hA, hG, hE⟩ := G
  exact va_put (ci := 4) (v := .int v) (ty := .int) (C := RX5) (T := TX5) (N := 22) hx hb hT i_X5 tyX5 tyX5_ok nmX5 hown hK hP hD hS 0 rfl rfl 11 (by decide) (hT _ wfl_X5_67) (fun _ h9 => h9) rfl (by decide +kernel) rfl rfl (Nat.le_of_ble_eq_true rfl) hdg k
theorem gm_X5_letters {p : Program} {l : Launch} {e : Env} {R : Room} {s : State} {m : MethodId} {args : Array Value} {below : List Frame} {meth : Method} {c : Code} {H : Heap} {locs : List Loc} {cells slots : Nat} {Q : State → Prop} {D : va_G} {aK aV : Nat → Nat} {A : Nat → Prop} {cc : ByteArray} {nL : Nat} {ret : Option FieldType} {pc : Nat} {ls : Array Slot} {rest : List Value} {cB cI cJ : ClassId} {q : Nat → Nat} {σ : MSt} (G : CX p s m args meth c D (gTy cB cI cJ) aK aV A RX5 cc nL ret) (hP : va_P D vwCl (mW cB cI cJ q σ) H) (hdg : decode cc pc = .ok (.getfield 37, 3)) (k : W p l e R s m args below meth c H locs cells slots Q (F0 m (pc + 3) ls (.ref (q 6) :: rest))) : W p l e R s m args below meth c H locs cells slots Q (F0 m pc ls (.ref (q 0) :: rest)) := by
  obtain ⟨hx, hb, hml, hown, hT, hrt, hlk, hK, hA, hG, hE⟩ := G
  exact va_get (ci := 4) (v := .ref (q 6)) (C := RX5) (T := TX5) (N := 22) hx hb hT i_X5 hown hK hP 0 rfl rfl 12 (by decide) (hT _ wfl_X5_37) (fun _ h9 => h9) rfl hdg k
theorem lm_letters {p : Program} {l : Launch} {e : Env} {R : Room} {s : State} {m : MethodId} {args : Array Value} {below : List Frame} {meth : Method} {c : Code} {H : Heap} {locs : List Loc} {cells slots : Nat} {Q : State → Prop} {D : va_G} {aK aV : Nat → Nat} {A : Nat → Prop} {cc : ByteArray} {nL : Nat} {ret : Option FieldType} {pc : Nat} {ls : Array Slot} {rest : List Value} {cB cI cJ : ClassId} {q : Nat → Nat} {σ : MSt} {i : Int32} {f : Nat → Int32} (G : CX p s m args meth c D (gTy cB cI cJ) aK aV A RX5 cc nL ret) (hP : va_P D vwCl (mW cB cI cJ q σ) H) (hin : vp_in i (8200)) (hdg : decode cc pc = .ok (.baload, 1)) (h0 : mf_letters σ = f) (k : W p l e R s m args below meth c H locs cells slots Q (F0 m (pc + 1) ls (.int (f i.toNatClampNeg) :: rest))) : W p l e R s m args below meth c H locs cells slots Q (F0 m pc ls (.int i :: .ref (q 6) :: rest)) := by
  obtain ⟨hx, hb, hml, hown, hT, hrt, hlk, hK, hA, hG, hE⟩ := G
  subst h0
  exact va_bald hx hb hK hP 6 0 rfl rfl hin hdg k
theorem sm_letters {p : Program} {l : Launch} {e : Env} {R : Room} {s : State} {m : MethodId} {args : Array Value} {below : List Frame} {meth : Method} {c : Code} {H : Heap} {locs : List Loc} {cells slots : Nat} {Q : State → Prop} {D : va_G} {aK aV : Nat → Nat} {A : Nat → Prop} {cc : ByteArray} {nL : Nat} {ret : Option FieldType} {pc : Nat} {ls : Array Slot} {rest : List Value} {cB cI cJ : ClassId} {q : Nat → Nat} {σ : MSt} {i : Int32} {x : Int32} {f : Nat → Int32} (G : CX p s m args meth c D (gTy cB cI cJ) aK aV A RX5 cc nL ret) (hP : va_P D vwCl (mW cB cI cJ q σ) H) (hD : va_D A (mW cB cI cJ q σ)) (hS : va_S A s.heap H locs) (hin : vp_in i (8200)) (hdg : decode cc pc = .ok (.bastore, 1)) (h0 : mf_letters σ = f) (k : ∀ (H1 : Heap) (locs1 : List Loc), va_P D vwCl (mW cB cI cJ q (ms_letters σ (upd f i.toNatClampNeg (vp_nar .byte x)))) H1 → va_D A (mW cB cI cJ q (ms_letters σ (upd f i.toNatClampNeg (vp_nar .byte x)))) → va_S A s.heap H1 locs1 → W p l e R s m args below meth c H1 locs1 cells slots Q (F0 m (pc + 1) ls rest)) : W p l e R s m args below meth c H locs cells slots Q (F0 m pc ls (.int x :: .int i :: .ref (q 6) :: rest)) := by
  obtain ⟨hx, hb, hml, hown, hT, hrt, hlk, hK, hA, hG, hE⟩ := G
  subst h0
  exact va_bast hx hb hK hP hD hS 6 0 rfl rfl hin hdg k
theorem nm_letters {p : Program} {l : Launch} {e : Env} {R : Room} {s : State} {m : MethodId} {args : Array Value} {below : List Frame} {meth : Method} {c : Code} {H : Heap} {locs : List Loc} {cells slots : Nat} {Q : State → Prop} {D : va_G} {aK aV : Nat → Nat} {A : Nat → Prop} {cc : ByteArray} {nL : Nat} {ret : Option FieldType} {pc : Nat} {ls : Array Slot} {rest : List Value} {cB cI cJ : ClassId} {q : Nat → Nat} {σ : MSt} {v : Int32} (G : CX p s m args meth c D (gTy cB cI cJ) aK aV A RX5 cc nL ret) (hP : va_P D vwCl (mW cB cI cJ q σ) H) (hv : Int32.ofNat (8200) = v) (hdg : decode cc pc = .ok (.arraylength, 1)) (k : W p l e R s m args below meth c H locs cells slots Q (F0 m (pc + 1) ls (.int v :: rest))) : W p l e R s m args below meth c H locs cells slots Q (F0 m pc ls (.ref (q 6) :: rest)) := by
  obtain ⟨hx, hb, hml, hown, hT, hrt, hlk, hK, hA, hG, hE⟩ := G
  exact va_alen hx hb hK hP 6 0 rfl rfl hv hdg k
theorem gm_X5_lettersMany {p : Program} {l : Launch} {e : Env} {R : Room} {s : State} {m : MethodId} {args : Array Value} {below : List Frame} {meth : Method} {c : Code} {H : Heap} {locs : List Loc} {cells slots : Nat} {Q : State → Prop} {D : va_G} {aK aV : Nat → Nat} {A : Nat → Prop} {cc : ByteArray} {nL : Nat} {ret : Option FieldType} {pc : Nat} {ls : Array Slot} {rest : List Value} {cB cI cJ : ClassId} {q : Nat → Nat} {σ : MSt} {v : Int32} (G : CX p s m args meth c D (gTy cB cI cJ) aK aV A RX5 cc nL ret) (hP : va_P D vwCl (mW cB cI cJ q σ) H) (hdg : decode cc pc = .ok (.getfield 70, 3)) (hv : mf_lettersMany σ = v) (k : W p l e R s m args below meth c H locs cells slots Q (F0 m (pc + 3) ls (.int v :: rest))) : W p l e R s m args below meth c H locs cells slots Q (F0 m pc ls (.ref (q 0) :: rest)) := by
  obtain ⟨hx, hb, hml, hown, hT, hrt, hlk, hK, hA, hG, hE⟩ := G
  subst hv
  exact va_get (ci := 4) (v := .int (mf_lettersMany σ)) (C := RX5) (T := TX5) (N := 22) hx hb hT i_X5 hown hK hP 0 rfl rfl 13 (by decide) (hT _ wfl_X5_70) (fun _ h9 => h9) rfl hdg k
theorem pm_X5_lettersMany {p : Program} {l : Launch} {e : Env} {R : Room} {s : State} {m : MethodId} {args : Array Value} {below : List Frame} {meth : Method} {c : Code} {H : Heap} {locs : List Loc} {cells slots : Nat} {Q : State → Prop} {D : va_G} {aK aV : Nat → Nat} {A : Nat → Prop} {cc : ByteArray} {nL : Nat} {ret : Option FieldType} {pc : Nat} {ls : Array Slot} {rest : List Value} {cB cI cJ : ClassId} {q : Nat → Nat} {σ : MSt} {v : Int32} (G : CX p s m args meth c D (gTy cB cI cJ) aK aV A RX5 cc nL ret) (hP : va_P D vwCl (mW cB cI cJ q σ) H) (hD : va_D A (mW cB cI cJ q σ)) (hS : va_S A s.heap H locs) (hdg : decode cc pc = .ok (.putfield 70, 3)) (k : ∀ (H1 : Heap) (locs1 : List Loc), va_P D vwCl (mW cB cI cJ q (ms_lettersMany σ v)) H1 → va_D A (mW cB cI cJ q (ms_lettersMany σ v)) → va_S A s.heap H1 locs1 → W p l e R s m args below meth c H1 locs1 cells slots Q (F0 m (pc + 3) ls rest)) : W p l e R s m args below meth c H locs cells slots Q (F0 m pc ls (.int v :: .ref (q 0) :: rest)) := by
  obtain ⟨hx, hb, hml, hown, hT, hrt, hlk, hK, hA, hG, hE⟩ := G
  exact va_put (ci := 4) (v := .int v) (ty := .int) (C := RX5) (T := TX5) (N := 22) hx hb hT i_X5 tyX5 tyX5_ok nmX5 hown hK hP hD hS 0 rfl rfl 13 (by decide) (hT _ wfl_X5_70) (fun _ h9 => h9) rfl (by decide +kernel) rfl rfl (Nat.le_of_ble_eq_true rfl) hdg k
theorem gm_X5_openThing {p : Program} {l : Launch} {e : Env} {R : Room} {s : State} {m : MethodId} {args : Array Value} {below : List Frame} {meth : Method} {c : Code} {H : Heap} {locs : List Loc} {cells slots : Nat} {Q : State → Prop} {D : va_G} {aK aV : Nat → Nat} {A : Nat → Prop} {cc : ByteArray} {nL : Nat} {ret : Option FieldType} {pc : Nat} {ls : Array Slot} {rest : List Value} {cB cI cJ : ClassId} {q : Nat → Nat} {σ : MSt} (G : CX p s m args meth c D (gTy cB cI cJ) aK aV A RX5 cc nL ret) (hP : va_P D vwCl (mW cB cI cJ q σ) H) (hdg : decode cc pc = .ok (.getfield 40, 3)) (k : W p l e R s m args below meth c H locs cells slots Q (F0 m (pc + 3) ls (.ref (q 7) :: rest))) : W p l e R s m args below meth c H locs cells slots Q (F0 m pc ls (.ref (q 0) :: rest)) := by
  obtain ⟨hx, hb, hml, hown, hT, hrt, hlk, hK, hA, hG, hE⟩ := G
  exact va_get (ci := 4) (v := .ref (q 7)) (C := RX5) (T := TX5) (N := 22) hx hb hT i_X5 hown hK hP 0 rfl rfl 14 (by decide) (hT _ wfl_X5_40) (fun _ h9 => h9) rfl hdg k
theorem lm_openThing {p : Program} {l : Launch} {e : Env} {R : Room} {s : State} {m : MethodId} {args : Array Value} {below : List Frame} {meth : Method} {c : Code} {H : Heap} {locs : List Loc} {cells slots : Nat} {Q : State → Prop} {D : va_G} {aK aV : Nat → Nat} {A : Nat → Prop} {cc : ByteArray} {nL : Nat} {ret : Option FieldType} {pc : Nat} {ls : Array Slot} {rest : List Value} {cB cI cJ : ClassId} {q : Nat → Nat} {σ : MSt} {i : Int32} {f : Nat → Int32} (G : CX p s m args meth c D (gTy cB cI cJ) aK aV A RX5 cc nL ret) (hP : va_P D vwCl (mW cB cI cJ q σ) H) (hin : vp_in i (64)) (hdg : decode cc pc = .ok (.iaload, 1)) (h0 : mf_openThing σ = f) (k : W p l e R s m args below meth c H locs cells slots Q (F0 m (pc + 1) ls (.int (f i.toNatClampNeg) :: rest))) : W p l e R s m args below meth c H locs cells slots Q (F0 m pc ls (.int i :: .ref (q 7) :: rest)) := by
  obtain ⟨hx, hb, hml, hown, hT, hrt, hlk, hK, hA, hG, hE⟩ := G
  subst h0
  exact va_iald hx hb hK hP 7 1 rfl rfl hin hdg k
theorem sm_openThing {p : Program} {l : Launch} {e : Env} {R : Room} {s : State} {m : MethodId} {args : Array Value} {below : List Frame} {meth : Method} {c : Code} {H : Heap} {locs : List Loc} {cells slots : Nat} {Q : State → Prop} {D : va_G} {aK aV : Nat → Nat} {A : Nat → Prop} {cc : ByteArray} {nL : Nat} {ret : Option FieldType} {pc : Nat} {ls : Array Slot} {rest : List Value} {cB cI cJ : ClassId} {q : Nat → Nat} {σ : MSt} {i : Int32} {x : Int32} {f : Nat → Int32} (G : CX p s m args meth c D (gTy cB cI cJ) aK aV A RX5 cc nL ret) (hP : va_P D vwCl (mW cB cI cJ q σ) H) (hD : va_D A (mW cB cI cJ q σ)) (hS : va_S A s.heap H locs) (hin : vp_in i (64)) (hdg : decode cc pc = .ok (.iastore, 1)) (h0 : mf_openThing σ = f) (k : ∀ (H1 : Heap) (locs1 : List Loc), va_P D vwCl (mW cB cI cJ q (ms_openThing σ (upd f i.toNatClampNeg x))) H1 → va_D A (mW cB cI cJ q (ms_openThing σ (upd f i.toNatClampNeg x))) → va_S A s.heap H1 locs1 → W p l e R s m args below meth c H1 locs1 cells slots Q (F0 m (pc + 1) ls rest)) : W p l e R s m args below meth c H locs cells slots Q (F0 m pc ls (.int x :: .int i :: .ref (q 7) :: rest)) := by
  obtain ⟨hx, hb, hml, hown, hT, hrt, hlk, hK, hA, hG, hE⟩ := G
  subst h0
  exact va_iast hx hb hK hP hD hS 7 1 rfl rfl hin hdg k
theorem nm_openThing {p : Program} {l : Launch} {e : Env} {R : Room} {s : State} {m : MethodId} {args : Array Value} {below : List Frame} {meth : Method} {c : Code} {H : Heap} {locs : List Loc} {cells slots : Nat} {Q : State → Prop} {D : va_G} {aK aV : Nat → Nat} {A : Nat → Prop} {cc : ByteArray} {nL : Nat} {ret : Option FieldType} {pc : Nat} {ls : Array Slot} {rest : List Value} {cB cI cJ : ClassId} {q : Nat → Nat} {σ : MSt} {v : Int32} (G : CX p s m args meth c D (gTy cB cI cJ) aK aV A RX5 cc nL ret) (hP : va_P D vwCl (mW cB cI cJ q σ) H) (hv : Int32.ofNat (64) = v) (hdg : decode cc pc = .ok (.arraylength, 1)) (k : W p l e R s m args below meth c H locs cells slots Q (F0 m (pc + 1) ls (.int v :: rest))) : W p l e R s m args below meth c H locs cells slots Q (F0 m pc ls (.ref (q 7) :: rest)) := by
  obtain ⟨hx, hb, hml, hown, hT, hrt, hlk, hK, hA, hG, hE⟩ := G
  exact va_alen hx hb hK hP 7 1 rfl rfl hv hdg k
theorem gm_X5_openLeft {p : Program} {l : Launch} {e : Env} {R : Room} {s : State} {m : MethodId} {args : Array Value} {below : List Frame} {meth : Method} {c : Code} {H : Heap} {locs : List Loc} {cells slots : Nat} {Q : State → Prop} {D : va_G} {aK aV : Nat → Nat} {A : Nat → Prop} {cc : ByteArray} {nL : Nat} {ret : Option FieldType} {pc : Nat} {ls : Array Slot} {rest : List Value} {cB cI cJ : ClassId} {q : Nat → Nat} {σ : MSt} (G : CX p s m args meth c D (gTy cB cI cJ) aK aV A RX5 cc nL ret) (hP : va_P D vwCl (mW cB cI cJ q σ) H) (hdg : decode cc pc = .ok (.getfield 43, 3)) (k : W p l e R s m args below meth c H locs cells slots Q (F0 m (pc + 3) ls (.ref (q 8) :: rest))) : W p l e R s m args below meth c H locs cells slots Q (F0 m pc ls (.ref (q 0) :: rest)) := by
  obtain ⟨hx, hb, hml, hown, hT, hrt, hlk, hK, hA, hG, hE⟩ := G
  exact va_get (ci := 4) (v := .ref (q 8)) (C := RX5) (T := TX5) (N := 22) hx hb hT i_X5 hown hK hP 0 rfl rfl 15 (by decide) (hT _ wfl_X5_43) (fun _ h9 => h9) rfl hdg k
theorem lm_openLeft {p : Program} {l : Launch} {e : Env} {R : Room} {s : State} {m : MethodId} {args : Array Value} {below : List Frame} {meth : Method} {c : Code} {H : Heap} {locs : List Loc} {cells slots : Nat} {Q : State → Prop} {D : va_G} {aK aV : Nat → Nat} {A : Nat → Prop} {cc : ByteArray} {nL : Nat} {ret : Option FieldType} {pc : Nat} {ls : Array Slot} {rest : List Value} {cB cI cJ : ClassId} {q : Nat → Nat} {σ : MSt} {i : Int32} {f : Nat → Int64} (G : CX p s m args meth c D (gTy cB cI cJ) aK aV A RX5 cc nL ret) (hP : va_P D vwCl (mW cB cI cJ q σ) H) (hin : vp_in i (64)) (hdg : decode cc pc = .ok (.laload, 1)) (h0 : mf_openLeft σ = f) (k : W p l e R s m args below meth c H locs cells slots Q (F0 m (pc + 1) ls (.long (f i.toNatClampNeg) :: rest))) : W p l e R s m args below meth c H locs cells slots Q (F0 m pc ls (.int i :: .ref (q 8) :: rest)) := by
  obtain ⟨hx, hb, hml, hown, hT, hrt, hlk, hK, hA, hG, hE⟩ := G
  subst h0
  exact va_lald hx hb hK hP 8 2 rfl rfl hin hdg k
theorem sm_openLeft {p : Program} {l : Launch} {e : Env} {R : Room} {s : State} {m : MethodId} {args : Array Value} {below : List Frame} {meth : Method} {c : Code} {H : Heap} {locs : List Loc} {cells slots : Nat} {Q : State → Prop} {D : va_G} {aK aV : Nat → Nat} {A : Nat → Prop} {cc : ByteArray} {nL : Nat} {ret : Option FieldType} {pc : Nat} {ls : Array Slot} {rest : List Value} {cB cI cJ : ClassId} {q : Nat → Nat} {σ : MSt} {i : Int32} {x : Int64} {f : Nat → Int64} (G : CX p s m args meth c D (gTy cB cI cJ) aK aV A RX5 cc nL ret) (hP : va_P D vwCl (mW cB cI cJ q σ) H) (hD : va_D A (mW cB cI cJ q σ)) (hS : va_S A s.heap H locs) (hin : vp_in i (64)) (hdg : decode cc pc = .ok (.lastore, 1)) (h0 : mf_openLeft σ = f) (k : ∀ (H1 : Heap) (locs1 : List Loc), va_P D vwCl (mW cB cI cJ q (ms_openLeft σ (vp_updL f i.toNatClampNeg x))) H1 → va_D A (mW cB cI cJ q (ms_openLeft σ (vp_updL f i.toNatClampNeg x))) → va_S A s.heap H1 locs1 → W p l e R s m args below meth c H1 locs1 cells slots Q (F0 m (pc + 1) ls rest)) : W p l e R s m args below meth c H locs cells slots Q (F0 m pc ls (.long x :: .int i :: .ref (q 8) :: rest)) := by
  obtain ⟨hx, hb, hml, hown, hT, hrt, hlk, hK, hA, hG, hE⟩ := G
  subst h0
  exact va_last hx hb hK hP hD hS 8 2 rfl rfl hin hdg k
theorem nm_openLeft {p : Program} {l : Launch} {e : Env} {R : Room} {s : State} {m : MethodId} {args : Array Value} {below : List Frame} {meth : Method} {c : Code} {H : Heap} {locs : List Loc} {cells slots : Nat} {Q : State → Prop} {D : va_G} {aK aV : Nat → Nat} {A : Nat → Prop} {cc : ByteArray} {nL : Nat} {ret : Option FieldType} {pc : Nat} {ls : Array Slot} {rest : List Value} {cB cI cJ : ClassId} {q : Nat → Nat} {σ : MSt} {v : Int32} (G : CX p s m args meth c D (gTy cB cI cJ) aK aV A RX5 cc nL ret) (hP : va_P D vwCl (mW cB cI cJ q σ) H) (hv : Int32.ofNat (64) = v) (hdg : decode cc pc = .ok (.arraylength, 1)) (k : W p l e R s m args below meth c H locs cells slots Q (F0 m (pc + 1) ls (.int v :: rest))) : W p l e R s m args below meth c H locs cells slots Q (F0 m pc ls (.ref (q 8) :: rest)) := by
  obtain ⟨hx, hb, hml, hown, hT, hrt, hlk, hK, hA, hG, hE⟩ := G
  exact va_alen hx hb hK hP 8 2 rfl rfl hv hdg k
theorem gm_X5_open {p : Program} {l : Launch} {e : Env} {R : Room} {s : State} {m : MethodId} {args : Array Value} {below : List Frame} {meth : Method} {c : Code} {H : Heap} {locs : List Loc} {cells slots : Nat} {Q : State → Prop} {D : va_G} {aK aV : Nat → Nat} {A : Nat → Prop} {cc : ByteArray} {nL : Nat} {ret : Option FieldType} {pc : Nat} {ls : Array Slot} {rest : List Value} {cB cI cJ : ClassId} {q : Nat → Nat} {σ : MSt} {v : Int32} (G : CX p s m args meth c D (gTy cB cI cJ) aK aV A RX5 cc nL ret) (hP : va_P D vwCl (mW cB cI cJ q σ) H) (hdg : decode cc pc = .ok (.getfield 73, 3)) (hv : mf_open σ = v) (k : W p l e R s m args below meth c H locs cells slots Q (F0 m (pc + 3) ls (.int v :: rest))) : W p l e R s m args below meth c H locs cells slots Q (F0 m pc ls (.ref (q 0) :: rest)) := by
  obtain ⟨hx, hb, hml, hown, hT, hrt, hlk, hK, hA, hG, hE⟩ := G
  subst hv
  exact va_get (ci := 4) (v := .int (mf_open σ)) (C := RX5) (T := TX5) (N := 22) hx hb hT i_X5 hown hK hP 0 rfl rfl 16 (by decide) (hT _ wfl_X5_73) (fun _ h9 => h9) rfl hdg k
theorem pm_X5_open {p : Program} {l : Launch} {e : Env} {R : Room} {s : State} {m : MethodId} {args : Array Value} {below : List Frame} {meth : Method} {c : Code} {H : Heap} {locs : List Loc} {cells slots : Nat} {Q : State → Prop} {D : va_G} {aK aV : Nat → Nat} {A : Nat → Prop} {cc : ByteArray} {nL : Nat} {ret : Option FieldType} {pc : Nat} {ls : Array Slot} {rest : List Value} {cB cI cJ : ClassId} {q : Nat → Nat} {σ : MSt} {v : Int32} (G : CX p s m args meth c D (gTy cB cI cJ) aK aV A RX5 cc nL ret) (hP : va_P D vwCl (mW cB cI cJ q σ) H) (hD : va_D A (mW cB cI cJ q σ)) (hS : va_S A s.heap H locs) (hdg : decode cc pc = .ok (.putfield 73, 3)) (k : ∀ (H1 : Heap) (locs1 : List Loc), va_P D vwCl (mW cB cI cJ q (ms_open σ v)) H1 → va_D A (mW cB cI cJ q (ms_open σ v)) → va_S A s.heap H1 locs1 → W p l e R s m args below meth c H1 locs1 cells slots Q (F0 m (pc + 3) ls rest)) : W p l e R s m args below meth c H locs cells slots Q (F0 m pc ls (.int v :: .ref (q 0) :: rest)) := by
  obtain ⟨hx, hb, hml, hown, hT, hrt, hlk, hK, hA, hG, hE⟩ := G
  exact va_put (ci := 4) (v := .int v) (ty := .int) (C := RX5) (T := TX5) (N := 22) hx hb hT i_X5 tyX5 tyX5_ok nmX5 hown hK hP hD hS 0 rfl rfl 16 (by decide) (hT _ wfl_X5_73) (fun _ h9 => h9) rfl (by decide +kernel) rfl rfl (Nat.le_of_ble_eq_true rfl) hdg k
theorem gm_X5_at {p : Program} {l : Launch} {e : Env} {R : Room} {s : State} {m : MethodId} {args : Array Value} {below : List Frame} {meth : Method} {c : Code} {H : Heap} {locs : List Loc} {cells slots : Nat} {Q : State → Prop} {D : va_G} {aK aV : Nat → Nat} {A : Nat → Prop} {cc : ByteArray} {nL : Nat} {ret : Option FieldType} {pc : Nat} {ls : Array Slot} {rest : List Value} {cB cI cJ : ClassId} {q : Nat → Nat} {σ : MSt} {v : Int32} (G : CX p s m args meth c D (gTy cB cI cJ) aK aV A RX5 cc nL ret) (hP : va_P D vwCl (mW cB cI cJ q σ) H) (hdg : decode cc pc = .ok (.getfield 64, 3)) (hv : mf_at σ = v) (k : W p l e R s m args below meth c H locs cells slots Q (F0 m (pc + 3) ls (.int v :: rest))) : W p l e R s m args below meth c H locs cells slots Q (F0 m pc ls (.ref (q 0) :: rest)) := by
  obtain ⟨hx, hb, hml, hown, hT, hrt, hlk, hK, hA, hG, hE⟩ := G
  subst hv
  exact va_get (ci := 4) (v := .int (mf_at σ)) (C := RX5) (T := TX5) (N := 22) hx hb hT i_X5 hown hK hP 0 rfl rfl 17 (by decide) (hT _ wfl_X5_64) (fun _ h9 => h9) rfl hdg k
theorem pm_X5_at {p : Program} {l : Launch} {e : Env} {R : Room} {s : State} {m : MethodId} {args : Array Value} {below : List Frame} {meth : Method} {c : Code} {H : Heap} {locs : List Loc} {cells slots : Nat} {Q : State → Prop} {D : va_G} {aK aV : Nat → Nat} {A : Nat → Prop} {cc : ByteArray} {nL : Nat} {ret : Option FieldType} {pc : Nat} {ls : Array Slot} {rest : List Value} {cB cI cJ : ClassId} {q : Nat → Nat} {σ : MSt} {v : Int32} (G : CX p s m args meth c D (gTy cB cI cJ) aK aV A RX5 cc nL ret) (hP : va_P D vwCl (mW cB cI cJ q σ) H) (hD : va_D A (mW cB cI cJ q σ)) (hS : va_S A s.heap H locs) (hdg : decode cc pc = .ok (.putfield 64, 3)) (k : ∀ (H1 : Heap) (locs1 : List Loc), va_P D vwCl (mW cB cI cJ q (ms_at σ v)) H1 → va_D A (mW cB cI cJ q (ms_at σ v)) → va_S A s.heap H1 locs1 → W p l e R s m args below meth c H1 locs1 cells slots Q (F0 m (pc + 3) ls rest)) : W p l e R s m args below meth c H locs cells slots Q (F0 m pc ls (.int v :: .ref (q 0) :: rest)) := by
  obtain ⟨hx, hb, hml, hown, hT, hrt, hlk, hK, hA, hG, hE⟩ := G
  exact va_put (ci := 4) (v := .int v) (ty := .int) (C := RX5) (T := TX5) (N := 22) hx hb hT i_X5 tyX5 tyX5_ok nmX5 hown hK hP hD hS 0 rfl rfl 17 (by decide) (hT _ wfl_X5_64) (fun _ h9 => h9) rfl (by decide +kernel) rfl rfl (Nat.le_of_ble_eq_true rfl) hdg k
theorem gm_X5_fault {p : Program} {l : Launch} {e : Env} {R : Room} {s : State} {m : MethodId} {args : Array Value} {below : List Frame} {meth : Method} {c : Code} {H : Heap} {locs : List Loc} {cells slots : Nat} {Q : State → Prop} {D : va_G} {aK aV : Nat → Nat} {A : Nat → Prop} {cc : ByteArray} {nL : Nat} {ret : Option FieldType} {pc : Nat} {ls : Array Slot} {rest : List Value} {cB cI cJ : ClassId} {q : Nat → Nat} {σ : MSt} {v : Int32} (G : CX p s m args meth c D (gTy cB cI cJ) aK aV A RX5 cc nL ret) (hP : va_P D vwCl (mW cB cI cJ q σ) H) (hdg : decode cc pc = .ok (.getfield 61, 3)) (hv : mf_fault σ = v) (k : W p l e R s m args below meth c H locs cells slots Q (F0 m (pc + 3) ls (.int v :: rest))) : W p l e R s m args below meth c H locs cells slots Q (F0 m pc ls (.ref (q 0) :: rest)) := by
  obtain ⟨hx, hb, hml, hown, hT, hrt, hlk, hK, hA, hG, hE⟩ := G
  subst hv
  exact va_get (ci := 4) (v := .int (mf_fault σ)) (C := RX5) (T := TX5) (N := 22) hx hb hT i_X5 hown hK hP 0 rfl rfl 18 (by decide) (hT _ wfl_X5_61) (fun _ h9 => h9) rfl hdg k
theorem pm_X5_fault {p : Program} {l : Launch} {e : Env} {R : Room} {s : State} {m : MethodId} {args : Array Value} {below : List Frame} {meth : Method} {c : Code} {H : Heap} {locs : List Loc} {cells slots : Nat} {Q : State → Prop} {D : va_G} {aK aV : Nat → Nat} {A : Nat → Prop} {cc : ByteArray} {nL : Nat} {ret : Option FieldType} {pc : Nat} {ls : Array Slot} {rest : List Value} {cB cI cJ : ClassId} {q : Nat → Nat} {σ : MSt} {v : Int32} (G : CX p s m args meth c D (gTy cB cI cJ) aK aV A RX5 cc nL ret) (hP : va_P D vwCl (mW cB cI cJ q σ) H) (hD : va_D A (mW cB cI cJ q σ)) (hS : va_S A s.heap H locs) (hdg : decode cc pc = .ok (.putfield 61, 3)) (k : ∀ (H1 : Heap) (locs1 : List Loc), va_P D vwCl (mW cB cI cJ q (ms_fault σ v)) H1 → va_D A (mW cB cI cJ q (ms_fault σ v)) → va_S A s.heap H1 locs1 → W p l e R s m args below meth c H1 locs1 cells slots Q (F0 m (pc + 3) ls rest)) : W p l e R s m args below meth c H locs cells slots Q (F0 m pc ls (.int v :: .ref (q 0) :: rest)) := by
  obtain ⟨hx, hb, hml, hown, hT, hrt, hlk, hK, hA, hG, hE⟩ := G
  exact va_put (ci := 4) (v := .int v) (ty := .int) (C := RX5) (T := TX5) (N := 22) hx hb hT i_X5 tyX5 tyX5_ok nmX5 hown hK hP hD hS 0 rfl rfl 18 (by decide) (hT _ wfl_X5_61) (fun _ h9 => h9) rfl (by decide +kernel) rfl rfl (Nat.le_of_ble_eq_true rfl) hdg k
theorem gm_X5_fresh {p : Program} {l : Launch} {e : Env} {R : Room} {s : State} {m : MethodId} {args : Array Value} {below : List Frame} {meth : Method} {c : Code} {H : Heap} {locs : List Loc} {cells slots : Nat} {Q : State → Prop} {D : va_G} {aK aV : Nat → Nat} {A : Nat → Prop} {cc : ByteArray} {nL : Nat} {ret : Option FieldType} {pc : Nat} {ls : Array Slot} {rest : List Value} {cB cI cJ : ClassId} {q : Nat → Nat} {σ : MSt} (G : CX p s m args meth c D (gTy cB cI cJ) aK aV A RX5 cc nL ret) (hP : va_P D vwCl (mW cB cI cJ q σ) H) (hdg : decode cc pc = .ok (.getfield 46, 3)) (k : W p l e R s m args below meth c H locs cells slots Q (F0 m (pc + 3) ls (.ref (q 9) :: rest))) : W p l e R s m args below meth c H locs cells slots Q (F0 m pc ls (.ref (q 0) :: rest)) := by
  obtain ⟨hx, hb, hml, hown, hT, hrt, hlk, hK, hA, hG, hE⟩ := G
  exact va_get (ci := 4) (v := .ref (q 9)) (C := RX5) (T := TX5) (N := 22) hx hb hT i_X5 hown hK hP 0 rfl rfl 19 (by decide) (hT _ wfl_X5_46) (fun _ h9 => h9) rfl hdg k
theorem lm_fresh {p : Program} {l : Launch} {e : Env} {R : Room} {s : State} {m : MethodId} {args : Array Value} {below : List Frame} {meth : Method} {c : Code} {H : Heap} {locs : List Loc} {cells slots : Nat} {Q : State → Prop} {D : va_G} {aK aV : Nat → Nat} {A : Nat → Prop} {cc : ByteArray} {nL : Nat} {ret : Option FieldType} {pc : Nat} {ls : Array Slot} {rest : List Value} {cB cI cJ : ClassId} {q : Nat → Nat} {σ : MSt} {i : Int32} {f : Nat → Int32} (G : CX p s m args meth c D (gTy cB cI cJ) aK aV A RX5 cc nL ret) (hP : va_P D vwCl (mW cB cI cJ q σ) H) (hin : vp_in i (6000)) (hdg : decode cc pc = .ok (.baload, 1)) (h0 : mf_fresh σ = f) (k : W p l e R s m args below meth c H locs cells slots Q (F0 m (pc + 1) ls (.int (f i.toNatClampNeg) :: rest))) : W p l e R s m args below meth c H locs cells slots Q (F0 m pc ls (.int i :: .ref (q 9) :: rest)) := by
  obtain ⟨hx, hb, hml, hown, hT, hrt, hlk, hK, hA, hG, hE⟩ := G
  subst h0
  exact va_bald hx hb hK hP 9 0 rfl rfl hin hdg k
theorem sm_fresh {p : Program} {l : Launch} {e : Env} {R : Room} {s : State} {m : MethodId} {args : Array Value} {below : List Frame} {meth : Method} {c : Code} {H : Heap} {locs : List Loc} {cells slots : Nat} {Q : State → Prop} {D : va_G} {aK aV : Nat → Nat} {A : Nat → Prop} {cc : ByteArray} {nL : Nat} {ret : Option FieldType} {pc : Nat} {ls : Array Slot} {rest : List Value} {cB cI cJ : ClassId} {q : Nat → Nat} {σ : MSt} {i : Int32} {x : Int32} {f : Nat → Int32} (G : CX p s m args meth c D (gTy cB cI cJ) aK aV A RX5 cc nL ret) (hP : va_P D vwCl (mW cB cI cJ q σ) H) (hD : va_D A (mW cB cI cJ q σ)) (hS : va_S A s.heap H locs) (hin : vp_in i (6000)) (hdg : decode cc pc = .ok (.bastore, 1)) (h0 : mf_fresh σ = f) (k : ∀ (H1 : Heap) (locs1 : List Loc), va_P D vwCl (mW cB cI cJ q (ms_fresh σ (upd f i.toNatClampNeg (vp_nar .byte x)))) H1 → va_D A (mW cB cI cJ q (ms_fresh σ (upd f i.toNatClampNeg (vp_nar .byte x)))) → va_S A s.heap H1 locs1 → W p l e R s m args below meth c H1 locs1 cells slots Q (F0 m (pc + 1) ls rest)) : W p l e R s m args below meth c H locs cells slots Q (F0 m pc ls (.int x :: .int i :: .ref (q 9) :: rest)) := by
  obtain ⟨hx, hb, hml, hown, hT, hrt, hlk, hK, hA, hG, hE⟩ := G
  subst h0
  exact va_bast hx hb hK hP hD hS 9 0 rfl rfl hin hdg k
theorem nm_fresh {p : Program} {l : Launch} {e : Env} {R : Room} {s : State} {m : MethodId} {args : Array Value} {below : List Frame} {meth : Method} {c : Code} {H : Heap} {locs : List Loc} {cells slots : Nat} {Q : State → Prop} {D : va_G} {aK aV : Nat → Nat} {A : Nat → Prop} {cc : ByteArray} {nL : Nat} {ret : Option FieldType} {pc : Nat} {ls : Array Slot} {rest : List Value} {cB cI cJ : ClassId} {q : Nat → Nat} {σ : MSt} {v : Int32} (G : CX p s m args meth c D (gTy cB cI cJ) aK aV A RX5 cc nL ret) (hP : va_P D vwCl (mW cB cI cJ q σ) H) (hv : Int32.ofNat (6000) = v) (hdg : decode cc pc = .ok (.arraylength, 1)) (k : W p l e R s m args below meth c H locs cells slots Q (F0 m (pc + 1) ls (.int v :: rest))) : W p l e R s m args below meth c H locs cells slots Q (F0 m pc ls (.ref (q 9) :: rest)) := by
  obtain ⟨hx, hb, hml, hown, hT, hrt, hlk, hK, hA, hG, hE⟩ := G
  exact va_alen hx hb hK hP 9 0 rfl rfl hv hdg k
theorem gm_X5_freshMany {p : Program} {l : Launch} {e : Env} {R : Room} {s : State} {m : MethodId} {args : Array Value} {below : List Frame} {meth : Method} {c : Code} {H : Heap} {locs : List Loc} {cells slots : Nat} {Q : State → Prop} {D : va_G} {aK aV : Nat → Nat} {A : Nat → Prop} {cc : ByteArray} {nL : Nat} {ret : Option FieldType} {pc : Nat} {ls : Array Slot} {rest : List Value} {cB cI cJ : ClassId} {q : Nat → Nat} {σ : MSt} {v : Int32} (G : CX p s m args meth c D (gTy cB cI cJ) aK aV A RX5 cc nL ret) (hP : va_P D vwCl (mW cB cI cJ q σ) H) (hdg : decode cc pc = .ok (.getfield 212, 3)) (hv : mf_freshMany σ = v) (k : W p l e R s m args below meth c H locs cells slots Q (F0 m (pc + 3) ls (.int v :: rest))) : W p l e R s m args below meth c H locs cells slots Q (F0 m pc ls (.ref (q 0) :: rest)) := by
  obtain ⟨hx, hb, hml, hown, hT, hrt, hlk, hK, hA, hG, hE⟩ := G
  subst hv
  exact va_get (ci := 4) (v := .int (mf_freshMany σ)) (C := RX5) (T := TX5) (N := 22) hx hb hT i_X5 hown hK hP 0 rfl rfl 20 (by decide) (hT _ wfl_X5_212) (fun _ h9 => h9) rfl hdg k
theorem pm_X5_freshMany {p : Program} {l : Launch} {e : Env} {R : Room} {s : State} {m : MethodId} {args : Array Value} {below : List Frame} {meth : Method} {c : Code} {H : Heap} {locs : List Loc} {cells slots : Nat} {Q : State → Prop} {D : va_G} {aK aV : Nat → Nat} {A : Nat → Prop} {cc : ByteArray} {nL : Nat} {ret : Option FieldType} {pc : Nat} {ls : Array Slot} {rest : List Value} {cB cI cJ : ClassId} {q : Nat → Nat} {σ : MSt} {v : Int32} (G : CX p s m args meth c D (gTy cB cI cJ) aK aV A RX5 cc nL ret) (hP : va_P D vwCl (mW cB cI cJ q σ) H) (hD : va_D A (mW cB cI cJ q σ)) (hS : va_S A s.heap H locs) (hdg : decode cc pc = .ok (.putfield 212, 3)) (k : ∀ (H1 : Heap) (locs1 : List Loc), va_P D vwCl (mW cB cI cJ q (ms_freshMany σ v)) H1 → va_D A (mW cB cI cJ q (ms_freshMany σ v)) → va_S A s.heap H1 locs1 → W p l e R s m args below meth c H1 locs1 cells slots Q (F0 m (pc + 3) ls rest)) : W p l e R s m args below meth c H locs cells slots Q (F0 m pc ls (.int v :: .ref (q 0) :: rest)) := by
  obtain ⟨hx, hb, hml, hown, hT, hrt, hlk, hK, hA, hG, hE⟩ := G
  exact va_put (ci := 4) (v := .int v) (ty := .int) (C := RX5) (T := TX5) (N := 22) hx hb hT i_X5 tyX5 tyX5_ok nmX5 hown hK hP hD hS 0 rfl rfl 20 (by decide) (hT _ wfl_X5_212) (fun _ h9 => h9) rfl (by decide +kernel) rfl rfl (Nat.le_of_ble_eq_true rfl) hdg k
theorem gm_X5_figures {p : Program} {l : Launch} {e : Env} {R : Room} {s : State} {m : MethodId} {args : Array Value} {below : List Frame} {meth : Method} {c : Code} {H : Heap} {locs : List Loc} {cells slots : Nat} {Q : State → Prop} {D : va_G} {aK aV : Nat → Nat} {A : Nat → Prop} {cc : ByteArray} {nL : Nat} {ret : Option FieldType} {pc : Nat} {ls : Array Slot} {rest : List Value} {cB cI cJ : ClassId} {q : Nat → Nat} {σ : MSt} (G : CX p s m args meth c D (gTy cB cI cJ) aK aV A RX5 cc nL ret) (hP : va_P D vwCl (mW cB cI cJ q σ) H) (hdg : decode cc pc = .ok (.getfield 49, 3)) (k : W p l e R s m args below meth c H locs cells slots Q (F0 m (pc + 3) ls (.ref (q 10) :: rest))) : W p l e R s m args below meth c H locs cells slots Q (F0 m pc ls (.ref (q 0) :: rest)) := by
  obtain ⟨hx, hb, hml, hown, hT, hrt, hlk, hK, hA, hG, hE⟩ := G
  exact va_get (ci := 4) (v := .ref (q 10)) (C := RX5) (T := TX5) (N := 22) hx hb hT i_X5 hown hK hP 0 rfl rfl 21 (by decide) (hT _ wfl_X5_49) (fun _ h9 => h9) rfl hdg k
theorem lm_figures {p : Program} {l : Launch} {e : Env} {R : Room} {s : State} {m : MethodId} {args : Array Value} {below : List Frame} {meth : Method} {c : Code} {H : Heap} {locs : List Loc} {cells slots : Nat} {Q : State → Prop} {D : va_G} {aK aV : Nat → Nat} {A : Nat → Prop} {cc : ByteArray} {nL : Nat} {ret : Option FieldType} {pc : Nat} {ls : Array Slot} {rest : List Value} {cB cI cJ : ClassId} {q : Nat → Nat} {σ : MSt} {i : Int32} {f : Nat → Int32} (G : CX p s m args meth c D (gTy cB cI cJ) aK aV A RX5 cc nL ret) (hP : va_P D vwCl (mW cB cI cJ q σ) H) (hin : vp_in i (24)) (hdg : decode cc pc = .ok (.iaload, 1)) (h0 : mf_figures σ = f) (k : W p l e R s m args below meth c H locs cells slots Q (F0 m (pc + 1) ls (.int (f i.toNatClampNeg) :: rest))) : W p l e R s m args below meth c H locs cells slots Q (F0 m pc ls (.int i :: .ref (q 10) :: rest)) := by
  obtain ⟨hx, hb, hml, hown, hT, hrt, hlk, hK, hA, hG, hE⟩ := G
  subst h0
  exact va_iald hx hb hK hP 10 1 rfl rfl hin hdg k
theorem sm_figures {p : Program} {l : Launch} {e : Env} {R : Room} {s : State} {m : MethodId} {args : Array Value} {below : List Frame} {meth : Method} {c : Code} {H : Heap} {locs : List Loc} {cells slots : Nat} {Q : State → Prop} {D : va_G} {aK aV : Nat → Nat} {A : Nat → Prop} {cc : ByteArray} {nL : Nat} {ret : Option FieldType} {pc : Nat} {ls : Array Slot} {rest : List Value} {cB cI cJ : ClassId} {q : Nat → Nat} {σ : MSt} {i : Int32} {x : Int32} {f : Nat → Int32} (G : CX p s m args meth c D (gTy cB cI cJ) aK aV A RX5 cc nL ret) (hP : va_P D vwCl (mW cB cI cJ q σ) H) (hD : va_D A (mW cB cI cJ q σ)) (hS : va_S A s.heap H locs) (hin : vp_in i (24)) (hdg : decode cc pc = .ok (.iastore, 1)) (h0 : mf_figures σ = f) (k : ∀ (H1 : Heap) (locs1 : List Loc), va_P D vwCl (mW cB cI cJ q (ms_figures σ (upd f i.toNatClampNeg x))) H1 → va_D A (mW cB cI cJ q (ms_figures σ (upd f i.toNatClampNeg x))) → va_S A s.heap H1 locs1 → W p l e R s m args below meth c H1 locs1 cells slots Q (F0 m (pc + 1) ls rest)) : W p l e R s m args below meth c H locs cells slots Q (F0 m pc ls (.int x :: .int i :: .ref (q 10) :: rest)) := by
  obtain ⟨hx, hb, hml, hown, hT, hrt, hlk, hK, hA, hG, hE⟩ := G
  subst h0
  exact va_iast hx hb hK hP hD hS 10 1 rfl rfl hin hdg k
theorem nm_figures {p : Program} {l : Launch} {e : Env} {R : Room} {s : State} {m : MethodId} {args : Array Value} {below : List Frame} {meth : Method} {c : Code} {H : Heap} {locs : List Loc} {cells slots : Nat} {Q : State → Prop} {D : va_G} {aK aV : Nat → Nat} {A : Nat → Prop} {cc : ByteArray} {nL : Nat} {ret : Option FieldType} {pc : Nat} {ls : Array Slot} {rest : List Value} {cB cI cJ : ClassId} {q : Nat → Nat} {σ : MSt} {v : Int32} (G : CX p s m args meth c D (gTy cB cI cJ) aK aV A RX5 cc nL ret) (hP : va_P D vwCl (mW cB cI cJ q σ) H) (hv : Int32.ofNat (24) = v) (hdg : decode cc pc = .ok (.arraylength, 1)) (k : W p l e R s m args below meth c H locs cells slots Q (F0 m (pc + 1) ls (.int v :: rest))) : W p l e R s m args below meth c H locs cells slots Q (F0 m pc ls (.ref (q 10) :: rest)) := by
  obtain ⟨hx, hb, hml, hown, hT, hrt, hlk, hK, hA, hG, hE⟩ := G
  exact va_alen hx hb hK hP 10 1 rfl rfl hv hdg k
theorem vM {p : Program} {l : Launch} {e : Env} {R : Room} {s : State} {m : MethodId} {args : Array Value} {below : List Frame} {meth : Method} {c : Code} {H : Heap} {locs : List Loc} {cells slots : Nat} {Q : State → Prop} {D : va_G} {aK aV : Nat → Nat} {A : Nat → Prop} {cc : ByteArray} {nL : Nat} {ret : Option FieldType} {pc : Nat} {ls : Array Slot} {rest : List Value} {cB cI cJ : ClassId} {q : Nat → Nat} {σ : MSt} {ov : Option Value} {y : MethodName} {bytes : ByteArray} {maxL n index : Nat} {ret' : Option FieldType} {rm : Room} {As : List Value} {τ : MSt} (G : CX p s m args meth c D (gTy cB cI cJ) aK aV A RX5 cc nL ret) (M : MV RX5 index RX5 y bytes maxL ret' n) (hM : CT l D (gTy cB cI cJ) aK aV y (wM y bytes maxL ret') rm 0 0 (.ref (q 0) :: As) (mW cB cI cJ q σ) ov (mW cB cI cJ q τ)) (hP : va_P D vwCl (mW cB cI cJ q σ) H) (hD : va_D A (mW cB cI cJ q σ)) (hS : va_S A s.heap H locs) (hrm : rm.cells = 0 ∧ rm.slots = 0 ∧ rm.frames + 1 ≤ R.frames ∧ 8 + (maxL + 11) + rm.locals ≤ R.locals) (hc : cells ≤ R.cells ∧ slots ≤ R.slots) (hA : As.length = n) (hls : ls.size = nL) (hst : (rest.map fun v => v.category).sum ≤ 8) (hdg : decode cc pc = .ok (.invokevirtual index, 3)) (k : ∀ (H1 : Heap) (locs1 : List Loc), va_P D vwCl (mW cB cI cJ q τ) H1 → va_D A (mW cB cI cJ q τ) → va_S A s.heap H1 locs1 → W p l e R s m args below meth c H1 locs1 cells slots Q (F0 m (pc + 3) ls (ov.toList ++ rest))) : W p l e R s m args below meth c H locs cells slots Q (F0 m pc ls (As.reverse ++ .ref (q 0) :: rest)) :=
  ct_v (wr := []) G M hM hP hD hS [0, 1, 2, 3, 4, 5, 6, 7, 8, 9, 10] [] rfl rfl rfl rfl (fun _ h => absurd h List.not_mem_nil) (ci := 4) (q0 := 0) rfl rfl rfl hrm hA hls hst hdg hc k
theorem gr_X3_bytes {p : Program} {l : Launch} {e : Env} {R : Room} {s : State} {m : MethodId} {args : Array Value} {below : List Frame} {meth : Method} {c : Code} {H : Heap} {locs : List Loc} {cells slots : Nat} {Q : State → Prop} {D : va_G} {aK aV : Nat → Nat} {A : Nat → Prop} {cc : ByteArray} {nL : Nat} {ret : Option FieldType} {pc : Nat} {ls : Array Slot} {rest : List Value} {cB cI cJ : ClassId} {r b N : Nat} {σ : RSt} (G : CX p s m args meth c D (gTy cB cI cJ) aK aV A RX3 cc nL ret) (hP : va_P D vwCl (rW cB r b N σ) H) (hdg : decode cc pc = .ok (.getfield 15, 3)) (k : W p l e R s m args below meth c H locs cells slots Q (F0 m (pc + 3) ls (.ref (b) :: rest))) : W p l e R s m args below meth c H locs cells slots Q (F0 m pc ls (.ref (r) :: rest)) := by
  obtain ⟨hx, hb, hml, hown, hT, hrt, hlk, hK, hA, hG, hE⟩ := G
  exact va_get (ci := 2) (v := .ref (b)) (C := RX3) (T := TX3) (N := 2) hx hb hT i_X3 hown hK hP 0 rfl rfl 0 (by decide) (hT _ wfl_X3_15) (fun _ h9 => h9) rfl hdg k
theorem gr_X3_sz {p : Program} {l : Launch} {e : Env} {R : Room} {s : State} {m : MethodId} {args : Array Value} {below : List Frame} {meth : Method} {c : Code} {H : Heap} {locs : List Loc} {cells slots : Nat} {Q : State → Prop} {D : va_G} {aK aV : Nat → Nat} {A : Nat → Prop} {cc : ByteArray} {nL : Nat} {ret : Option FieldType} {pc : Nat} {ls : Array Slot} {rest : List Value} {cB cI cJ : ClassId} {r b N : Nat} {σ : RSt} {v : Int32} (G : CX p s m args meth c D (gTy cB cI cJ) aK aV A RX3 cc nL ret) (hP : va_P D vwCl (rW cB r b N σ) H) (hdg : decode cc pc = .ok (.getfield 21, 3)) (hv : rf_sz σ = v) (k : W p l e R s m args below meth c H locs cells slots Q (F0 m (pc + 3) ls (.int v :: rest))) : W p l e R s m args below meth c H locs cells slots Q (F0 m pc ls (.ref (r) :: rest)) := by
  obtain ⟨hx, hb, hml, hown, hT, hrt, hlk, hK, hA, hG, hE⟩ := G
  subst hv
  exact va_get (ci := 2) (v := .int (rf_sz σ)) (C := RX3) (T := TX3) (N := 2) hx hb hT i_X3 hown hK hP 0 rfl rfl 1 (by decide) (hT _ wfl_X3_21) (fun _ h9 => h9) rfl hdg k
theorem pr_X3_sz {p : Program} {l : Launch} {e : Env} {R : Room} {s : State} {m : MethodId} {args : Array Value} {below : List Frame} {meth : Method} {c : Code} {H : Heap} {locs : List Loc} {cells slots : Nat} {Q : State → Prop} {D : va_G} {aK aV : Nat → Nat} {A : Nat → Prop} {cc : ByteArray} {nL : Nat} {ret : Option FieldType} {pc : Nat} {ls : Array Slot} {rest : List Value} {cB cI cJ : ClassId} {r b N : Nat} {σ : RSt} {v : Int32} (G : CX p s m args meth c D (gTy cB cI cJ) aK aV A RX3 cc nL ret) (hP : va_P D vwCl (rW cB r b N σ) H) (hD : va_D A (rW cB r b N σ)) (hS : va_S A s.heap H locs) (hdg : decode cc pc = .ok (.putfield 21, 3)) (k : ∀ (H1 : Heap) (locs1 : List Loc), va_P D vwCl (rW cB r b N (rs_sz σ v)) H1 → va_D A (rW cB r b N (rs_sz σ v)) → va_S A s.heap H1 locs1 → W p l e R s m args below meth c H1 locs1 cells slots Q (F0 m (pc + 3) ls rest)) : W p l e R s m args below meth c H locs cells slots Q (F0 m pc ls (.int v :: .ref (r) :: rest)) := by
  obtain ⟨hx, hb, hml, hown, hT, hrt, hlk, hK, hA, hG, hE⟩ := G
  exact va_put (ci := 2) (v := .int v) (ty := .int) (C := RX3) (T := TX3) (N := 2) hx hb hT i_X3 tyX3 tyX3_ok nmX3 hown hK hP hD hS 0 rfl rfl 1 (by decide) (hT _ wfl_X3_21) (fun _ h9 => h9) rfl (by decide +kernel) rfl rfl (Nat.le_of_ble_eq_true rfl) hdg k
theorem lr_f {p : Program} {l : Launch} {e : Env} {R : Room} {s : State} {m : MethodId} {args : Array Value} {below : List Frame} {meth : Method} {c : Code} {H : Heap} {locs : List Loc} {cells slots : Nat} {Q : State → Prop} {D : va_G} {aK aV : Nat → Nat} {A : Nat → Prop} {cc : ByteArray} {nL : Nat} {ret : Option FieldType} {pc : Nat} {ls : Array Slot} {rest : List Value} {cB cI cJ : ClassId} {r b N : Nat} {σ : RSt} {i : Int32} {f : Nat → Int32} (G : CX p s m args meth c D (gTy cB cI cJ) aK aV A RX3 cc nL ret) (hP : va_P D vwCl (rW cB r b N σ) H) (hin : vp_in i (N)) (hdg : decode cc pc = .ok (.baload, 1)) (h0 : rf_f σ = f) (k : W p l e R s m args below meth c H locs cells slots Q (F0 m (pc + 1) ls (.int (f i.toNatClampNeg) :: rest))) : W p l e R s m args below meth c H locs cells slots Q (F0 m pc ls (.int i :: .ref (b) :: rest)) := by
  obtain ⟨hx, hb, hml, hown, hT, hrt, hlk, hK, hA, hG, hE⟩ := G
  subst h0
  exact va_bald hx hb hK hP 1 0 rfl rfl hin hdg k
theorem sr_f {p : Program} {l : Launch} {e : Env} {R : Room} {s : State} {m : MethodId} {args : Array Value} {below : List Frame} {meth : Method} {c : Code} {H : Heap} {locs : List Loc} {cells slots : Nat} {Q : State → Prop} {D : va_G} {aK aV : Nat → Nat} {A : Nat → Prop} {cc : ByteArray} {nL : Nat} {ret : Option FieldType} {pc : Nat} {ls : Array Slot} {rest : List Value} {cB cI cJ : ClassId} {r b N : Nat} {σ : RSt} {i : Int32} {x : Int32} {f : Nat → Int32} (G : CX p s m args meth c D (gTy cB cI cJ) aK aV A RX3 cc nL ret) (hP : va_P D vwCl (rW cB r b N σ) H) (hD : va_D A (rW cB r b N σ)) (hS : va_S A s.heap H locs) (hin : vp_in i (N)) (hdg : decode cc pc = .ok (.bastore, 1)) (h0 : rf_f σ = f) (k : ∀ (H1 : Heap) (locs1 : List Loc), va_P D vwCl (rW cB r b N (rs_f σ (upd f i.toNatClampNeg (vp_nar .byte x)))) H1 → va_D A (rW cB r b N (rs_f σ (upd f i.toNatClampNeg (vp_nar .byte x)))) → va_S A s.heap H1 locs1 → W p l e R s m args below meth c H1 locs1 cells slots Q (F0 m (pc + 1) ls rest)) : W p l e R s m args below meth c H locs cells slots Q (F0 m pc ls (.int x :: .int i :: .ref (b) :: rest)) := by
  obtain ⟨hx, hb, hml, hown, hT, hrt, hlk, hK, hA, hG, hE⟩ := G
  subst h0
  exact va_bast hx hb hK hP hD hS 1 0 rfl rfl hin hdg k
theorem nr_f {p : Program} {l : Launch} {e : Env} {R : Room} {s : State} {m : MethodId} {args : Array Value} {below : List Frame} {meth : Method} {c : Code} {H : Heap} {locs : List Loc} {cells slots : Nat} {Q : State → Prop} {D : va_G} {aK aV : Nat → Nat} {A : Nat → Prop} {cc : ByteArray} {nL : Nat} {ret : Option FieldType} {pc : Nat} {ls : Array Slot} {rest : List Value} {cB cI cJ : ClassId} {r b N : Nat} {σ : RSt} {v : Int32} (G : CX p s m args meth c D (gTy cB cI cJ) aK aV A RX3 cc nL ret) (hP : va_P D vwCl (rW cB r b N σ) H) (hv : Int32.ofNat (N) = v) (hdg : decode cc pc = .ok (.arraylength, 1)) (k : W p l e R s m args below meth c H locs cells slots Q (F0 m (pc + 1) ls (.int v :: rest))) : W p l e R s m args below meth c H locs cells slots Q (F0 m pc ls (.ref (b) :: rest)) := by
  obtain ⟨hx, hb, hml, hown, hT, hrt, hlk, hK, hA, hG, hE⟩ := G
  exact va_alen hx hb hK hP 1 0 rfl rfl hv hdg k
theorem vR {p : Program} {l : Launch} {e : Env} {R : Room} {s : State} {m : MethodId} {args : Array Value} {below : List Frame} {meth : Method} {c : Code} {H : Heap} {locs : List Loc} {cells slots : Nat} {Q : State → Prop} {D : va_G} {aK aV : Nat → Nat} {A : Nat → Prop} {cc : ByteArray} {nL : Nat} {ret : Option FieldType} {pc : Nat} {ls : Array Slot} {rest : List Value} {cB cI cJ : ClassId} {r b N : Nat} {σ : RSt} {ov : Option Value} {y : MethodName} {bytes : ByteArray} {maxL n index : Nat} {ret' : Option FieldType} {rm : Room} {As : List Value} {τ : RSt} {own : String} (G : CX p s m args meth c D (gTy cB cI cJ) aK aV A own cc nL ret) (M : MV own index RX3 y bytes maxL ret' n) (hM : CT l D (gTy cB cI cJ) aK aV y (wM y bytes maxL ret') rm 0 0 (.ref r :: As) (rW cB r b N σ) ov (rW cB r b N τ)) (hP : va_P D vwCl (rW cB r b N σ) H) (hD : va_D A (rW cB r b N σ)) (hS : va_S A s.heap H locs) (hrm : rm.cells = 0 ∧ rm.slots = 0 ∧ rm.frames + 1 ≤ R.frames ∧ 8 + (maxL + 11) + rm.locals ≤ R.locals) (hc : cells ≤ R.cells ∧ slots ≤ R.slots) (hA : As.length = n) (hls : ls.size = nL) (hst : (rest.map fun v => v.category).sum ≤ 8) (hdg : decode cc pc = .ok (.invokevirtual index, 3)) (k : ∀ (H1 : Heap) (locs1 : List Loc), va_P D vwCl (rW cB r b N τ) H1 → va_D A (rW cB r b N τ) → va_S A s.heap H1 locs1 → W p l e R s m args below meth c H1 locs1 cells slots Q (F0 m (pc + 3) ls (ov.toList ++ rest))) : W p l e R s m args below meth c H locs cells slots Q (F0 m pc ls (As.reverse ++ .ref r :: rest)) :=
  ct_v (wr := []) G M hM hP hD hS [0, 1] [] rfl rfl rfl rfl (fun _ h => absurd h List.not_mem_nil) (ci := 2) (q0 := 0) rfl rfl rfl hrm hA hls hst hdg hc k
theorem gj_X1_tape {p : Program} {l : Launch} {e : Env} {R : Room} {s : State} {m : MethodId} {args : Array Value} {below : List Frame} {meth : Method} {c : Code} {H : Heap} {locs : List Loc} {cells slots : Nat} {Q : State → Prop} {D : va_G} {aK aV : Nat → Nat} {A : Nat → Prop} {cc : ByteArray} {nL : Nat} {ret : Option FieldType} {pc : Nat} {ls : Array Slot} {rest : List Value} {cB cI cJ : ClassId} {q : Nat → Nat} {N : Nat} {σ : JSt} (G : CX p s m args meth c D (gTy cB cI cJ) aK aV A RX1 cc nL ret) (hP : va_P D vwCl (jW cB N q σ) H) (hdg : decode cc pc = .ok (.getfield 19, 3)) (k : W p l e R s m args below meth c H locs cells slots Q (F0 m (pc + 3) ls (.ref (q 1) :: rest))) : W p l e R s m args below meth c H locs cells slots Q (F0 m pc ls (.ref (q 0) :: rest)) := by
  obtain ⟨hx, hb, hml, hown, hT, hrt, hlk, hK, hA, hG, hE⟩ := G
  exact va_get (ci := 1) (v := .ref (q 1)) (C := RX1) (T := TX1) (N := 6) hx hb hT i_X1 hown hK hP 0 rfl rfl 0 (by decide) (hT _ wfl_X1_19) (fun x h9 => u_same (hT _ wsf_X1_tape) x h9) rfl hdg k
theorem gj_X1_target {p : Program} {l : Launch} {e : Env} {R : Room} {s : State} {m : MethodId} {args : Array Value} {below : List Frame} {meth : Method} {c : Code} {H : Heap} {locs : List Loc} {cells slots : Nat} {Q : State → Prop} {D : va_G} {aK aV : Nat → Nat} {A : Nat → Prop} {cc : ByteArray} {nL : Nat} {ret : Option FieldType} {pc : Nat} {ls : Array Slot} {rest : List Value} {cB cI cJ : ClassId} {q : Nat → Nat} {N : Nat} {σ : JSt} (G : CX p s m args meth c D (gTy cB cI cJ) aK aV A RX1 cc nL ret) (hP : va_P D vwCl (jW cB N q σ) H) (hdg : decode cc pc = .ok (.getfield 74, 3)) (k : W p l e R s m args below meth c H locs cells slots Q (F0 m (pc + 3) ls (.ref (q 3) :: rest))) : W p l e R s m args below meth c H locs cells slots Q (F0 m pc ls (.ref (q 0) :: rest)) := by
  obtain ⟨hx, hb, hml, hown, hT, hrt, hlk, hK, hA, hG, hE⟩ := G
  exact va_get (ci := 1) (v := .ref (q 3)) (C := RX1) (T := TX1) (N := 6) hx hb hT i_X1 hown hK hP 0 rfl rfl 1 (by decide) (hT _ wfl_X1_74) (fun x h9 => u_same (hT _ wsf_X1_target) x h9) rfl hdg k
theorem gj_X1_depthLimit {p : Program} {l : Launch} {e : Env} {R : Room} {s : State} {m : MethodId} {args : Array Value} {below : List Frame} {meth : Method} {c : Code} {H : Heap} {locs : List Loc} {cells slots : Nat} {Q : State → Prop} {D : va_G} {aK aV : Nat → Nat} {A : Nat → Prop} {cc : ByteArray} {nL : Nat} {ret : Option FieldType} {pc : Nat} {ls : Array Slot} {rest : List Value} {cB cI cJ : ClassId} {q : Nat → Nat} {N : Nat} {σ : JSt} {v : Int32} (G : CX p s m args meth c D (gTy cB cI cJ) aK aV A RX1 cc nL ret) (hP : va_P D vwCl (jW cB N q σ) H) (hdg : decode cc pc = .ok (.getfield 81, 3)) (hv : jf_depthLimit σ = v) (k : W p l e R s m args below meth c H locs cells slots Q (F0 m (pc + 3) ls (.int v :: rest))) : W p l e R s m args below meth c H locs cells slots Q (F0 m pc ls (.ref (q 0) :: rest)) := by
  obtain ⟨hx, hb, hml, hown, hT, hrt, hlk, hK, hA, hG, hE⟩ := G
  subst hv
  exact va_get (ci := 1) (v := .int (jf_depthLimit σ)) (C := RX1) (T := TX1) (N := 6) hx hb hT i_X1 hown hK hP 0 rfl rfl 2 (by decide) (hT _ wfl_X1_81) (fun x h9 => u_same (hT _ wsf_X1_depthLimit) x h9) rfl hdg k
theorem gj_X1_place {p : Program} {l : Launch} {e : Env} {R : Room} {s : State} {m : MethodId} {args : Array Value} {below : List Frame} {meth : Method} {c : Code} {H : Heap} {locs : List Loc} {cells slots : Nat} {Q : State → Prop} {D : va_G} {aK aV : Nat → Nat} {A : Nat → Prop} {cc : ByteArray} {nL : Nat} {ret : Option FieldType} {pc : Nat} {ls : Array Slot} {rest : List Value} {cB cI cJ : ClassId} {q : Nat → Nat} {N : Nat} {σ : JSt} {v : Int32} (G : CX p s m args meth c D (gTy cB cI cJ) aK aV A RX1 cc nL ret) (hP : va_P D vwCl (jW cB N q σ) H) (hdg : decode cc pc = .ok (.getfield 15, 3)) (hv : jf_place σ = v) (k : W p l e R s m args below meth c H locs cells slots Q (F0 m (pc + 3) ls (.int v :: rest))) : W p l e R s m args below meth c H locs cells slots Q (F0 m pc ls (.ref (q 0) :: rest)) := by
  obtain ⟨hx, hb, hml, hown, hT, hrt, hlk, hK, hA, hG, hE⟩ := G
  subst hv
  exact va_get (ci := 1) (v := .int (jf_place σ)) (C := RX1) (T := TX1) (N := 6) hx hb hT i_X1 hown hK hP 0 rfl rfl 3 (by decide) (hT _ wfl_X1_15) (fun x h9 => u_same (hT _ wsf_X1_place) x h9) rfl hdg k
theorem pj_X1_place {p : Program} {l : Launch} {e : Env} {R : Room} {s : State} {m : MethodId} {args : Array Value} {below : List Frame} {meth : Method} {c : Code} {H : Heap} {locs : List Loc} {cells slots : Nat} {Q : State → Prop} {D : va_G} {aK aV : Nat → Nat} {A : Nat → Prop} {cc : ByteArray} {nL : Nat} {ret : Option FieldType} {pc : Nat} {ls : Array Slot} {rest : List Value} {cB cI cJ : ClassId} {q : Nat → Nat} {N : Nat} {σ : JSt} {v : Int32} (G : CX p s m args meth c D (gTy cB cI cJ) aK aV A RX1 cc nL ret) (hP : va_P D vwCl (jW cB N q σ) H) (hD : va_D A (jW cB N q σ)) (hS : va_S A s.heap H locs) (hdg : decode cc pc = .ok (.putfield 15, 3)) (k : ∀ (H1 : Heap) (locs1 : List Loc), va_P D vwCl (jW cB N q (js_place σ v)) H1 → va_D A (jW cB N q (js_place σ v)) → va_S A s.heap H1 locs1 → W p l e R s m args below meth c H1 locs1 cells slots Q (F0 m (pc + 3) ls rest)) : W p l e R s m args below meth c H locs cells slots Q (F0 m pc ls (.int v :: .ref (q 0) :: rest)) := by
  obtain ⟨hx, hb, hml, hown, hT, hrt, hlk, hK, hA, hG, hE⟩ := G
  exact va_put (ci := 1) (v := .int v) (ty := .int) (C := RX1) (T := TX1) (N := 6) hx hb hT i_X1 tyX1 tyX1_ok nmX1 hown hK hP hD hS 0 rfl rfl 3 (by decide) (hT _ wfl_X1_15) (fun x h9 => u_same (hT _ wsf_X1_place) x h9) rfl (by decide +kernel) rfl rfl (Nat.le_of_ble_eq_true rfl) hdg k
theorem gj_X2_tape {p : Program} {l : Launch} {e : Env} {R : Room} {s : State} {m : MethodId} {args : Array Value} {below : List Frame} {meth : Method} {c : Code} {H : Heap} {locs : List Loc} {cells slots : Nat} {Q : State → Prop} {D : va_G} {aK aV : Nat → Nat} {A : Nat → Prop} {cc : ByteArray} {nL : Nat} {ret : Option FieldType} {pc : Nat} {ls : Array Slot} {rest : List Value} {cB cI cJ : ClassId} {q : Nat → Nat} {N : Nat} {σ : JSt} (G : CX p s m args meth c D (gTy cB cI cJ) aK aV A RX2 cc nL ret) (hP : va_P D vwCl (jW cB N q σ) H) (hdg : decode cc pc = .ok (.getfield 9, 3)) (k : W p l e R s m args below meth c H locs cells slots Q (F0 m (pc + 3) ls (.ref (q 1) :: rest))) : W p l e R s m args below meth c H locs cells slots Q (F0 m pc ls (.ref (q 0) :: rest)) := by
  obtain ⟨hx, hb, hml, hown, hT, hrt, hlk, hK, hA, hG, hE⟩ := G
  exact va_get (ci := 1) (v := .ref (q 1)) (C := RX1) (T := TX1) (N := 6) hx hb hT i_X1 hown hK hP 0 rfl rfl 0 (by decide) (hT _ wfl_X2_9) (fun _ h9 => h9) rfl hdg k
theorem gj_X2_target {p : Program} {l : Launch} {e : Env} {R : Room} {s : State} {m : MethodId} {args : Array Value} {below : List Frame} {meth : Method} {c : Code} {H : Heap} {locs : List Loc} {cells slots : Nat} {Q : State → Prop} {D : va_G} {aK aV : Nat → Nat} {A : Nat → Prop} {cc : ByteArray} {nL : Nat} {ret : Option FieldType} {pc : Nat} {ls : Array Slot} {rest : List Value} {cB cI cJ : ClassId} {q : Nat → Nat} {N : Nat} {σ : JSt} (G : CX p s m args meth c D (gTy cB cI cJ) aK aV A RX2 cc nL ret) (hP : va_P D vwCl (jW cB N q σ) H) (hdg : decode cc pc = .ok (.getfield 15, 3)) (k : W p l e R s m args below meth c H locs cells slots Q (F0 m (pc + 3) ls (.ref (q 3) :: rest))) : W p l e R s m args below meth c H locs cells slots Q (F0 m pc ls (.ref (q 0) :: rest)) := by
  obtain ⟨hx, hb, hml, hown, hT, hrt, hlk, hK, hA, hG, hE⟩ := G
  exact va_get (ci := 1) (v := .ref (q 3)) (C := RX1) (T := TX1) (N := 6) hx hb hT i_X1 hown hK hP 0 rfl rfl 1 (by decide) (hT _ wfl_X2_15) (fun _ h9 => h9) rfl hdg k
theorem gj_X2_depthLimit {p : Program} {l : Launch} {e : Env} {R : Room} {s : State} {m : MethodId} {args : Array Value} {below : List Frame} {meth : Method} {c : Code} {H : Heap} {locs : List Loc} {cells slots : Nat} {Q : State → Prop} {D : va_G} {aK aV : Nat → Nat} {A : Nat → Prop} {cc : ByteArray} {nL : Nat} {ret : Option FieldType} {pc : Nat} {ls : Array Slot} {rest : List Value} {cB cI cJ : ClassId} {q : Nat → Nat} {N : Nat} {σ : JSt} {v : Int32} (G : CX p s m args meth c D (gTy cB cI cJ) aK aV A RX2 cc nL ret) (hP : va_P D vwCl (jW cB N q σ) H) (hdg : decode cc pc = .ok (.getfield 18, 3)) (hv : jf_depthLimit σ = v) (k : W p l e R s m args below meth c H locs cells slots Q (F0 m (pc + 3) ls (.int v :: rest))) : W p l e R s m args below meth c H locs cells slots Q (F0 m pc ls (.ref (q 0) :: rest)) := by
  obtain ⟨hx, hb, hml, hown, hT, hrt, hlk, hK, hA, hG, hE⟩ := G
  subst hv
  exact va_get (ci := 1) (v := .int (jf_depthLimit σ)) (C := RX1) (T := TX1) (N := 6) hx hb hT i_X1 hown hK hP 0 rfl rfl 2 (by decide) (hT _ wfl_X2_18) (fun _ h9 => h9) rfl hdg k
theorem gj_X2_place {p : Program} {l : Launch} {e : Env} {R : Room} {s : State} {m : MethodId} {args : Array Value} {below : List Frame} {meth : Method} {c : Code} {H : Heap} {locs : List Loc} {cells slots : Nat} {Q : State → Prop} {D : va_G} {aK aV : Nat → Nat} {A : Nat → Prop} {cc : ByteArray} {nL : Nat} {ret : Option FieldType} {pc : Nat} {ls : Array Slot} {rest : List Value} {cB cI cJ : ClassId} {q : Nat → Nat} {N : Nat} {σ : JSt} {v : Int32} (G : CX p s m args meth c D (gTy cB cI cJ) aK aV A RX2 cc nL ret) (hP : va_P D vwCl (jW cB N q σ) H) (hdg : decode cc pc = .ok (.getfield 22, 3)) (hv : jf_place σ = v) (k : W p l e R s m args below meth c H locs cells slots Q (F0 m (pc + 3) ls (.int v :: rest))) : W p l e R s m args below meth c H locs cells slots Q (F0 m pc ls (.ref (q 0) :: rest)) := by
  obtain ⟨hx, hb, hml, hown, hT, hrt, hlk, hK, hA, hG, hE⟩ := G
  subst hv
  exact va_get (ci := 1) (v := .int (jf_place σ)) (C := RX1) (T := TX1) (N := 6) hx hb hT i_X1 hown hK hP 0 rfl rfl 3 (by decide) (hT _ wfl_X2_22) (fun _ h9 => h9) rfl hdg k
theorem pj_X2_place {p : Program} {l : Launch} {e : Env} {R : Room} {s : State} {m : MethodId} {args : Array Value} {below : List Frame} {meth : Method} {c : Code} {H : Heap} {locs : List Loc} {cells slots : Nat} {Q : State → Prop} {D : va_G} {aK aV : Nat → Nat} {A : Nat → Prop} {cc : ByteArray} {nL : Nat} {ret : Option FieldType} {pc : Nat} {ls : Array Slot} {rest : List Value} {cB cI cJ : ClassId} {q : Nat → Nat} {N : Nat} {σ : JSt} {v : Int32} (G : CX p s m args meth c D (gTy cB cI cJ) aK aV A RX2 cc nL ret) (hP : va_P D vwCl (jW cB N q σ) H) (hD : va_D A (jW cB N q σ)) (hS : va_S A s.heap H locs) (hdg : decode cc pc = .ok (.putfield 22, 3)) (k : ∀ (H1 : Heap) (locs1 : List Loc), va_P D vwCl (jW cB N q (js_place σ v)) H1 → va_D A (jW cB N q (js_place σ v)) → va_S A s.heap H1 locs1 → W p l e R s m args below meth c H1 locs1 cells slots Q (F0 m (pc + 3) ls rest)) : W p l e R s m args below meth c H locs cells slots Q (F0 m pc ls (.int v :: .ref (q 0) :: rest)) := by
  obtain ⟨hx, hb, hml, hown, hT, hrt, hlk, hK, hA, hG, hE⟩ := G
  exact va_put (ci := 1) (v := .int v) (ty := .int) (C := RX1) (T := TX1) (N := 6) hx hb hT i_X1 tyX1 tyX1_ok nmX1 hown hK hP hD hS 0 rfl rfl 3 (by decide) (hT _ wfl_X2_22) (fun _ h9 => h9) rfl (by decide +kernel) rfl rfl (Nat.le_of_ble_eq_true rfl) hdg k
theorem gj_X2_faultKind {p : Program} {l : Launch} {e : Env} {R : Room} {s : State} {m : MethodId} {args : Array Value} {below : List Frame} {meth : Method} {c : Code} {H : Heap} {locs : List Loc} {cells slots : Nat} {Q : State → Prop} {D : va_G} {aK aV : Nat → Nat} {A : Nat → Prop} {cc : ByteArray} {nL : Nat} {ret : Option FieldType} {pc : Nat} {ls : Array Slot} {rest : List Value} {cB cI cJ : ClassId} {q : Nat → Nat} {N : Nat} {σ : JSt} {v : Int32} (G : CX p s m args meth c D (gTy cB cI cJ) aK aV A RX2 cc nL ret) (hP : va_P D vwCl (jW cB N q σ) H) (hdg : decode cc pc = .ok (.getfield 25, 3)) (hv : jf_faultKind σ = v) (k : W p l e R s m args below meth c H locs cells slots Q (F0 m (pc + 3) ls (.int v :: rest))) : W p l e R s m args below meth c H locs cells slots Q (F0 m pc ls (.ref (q 0) :: rest)) := by
  obtain ⟨hx, hb, hml, hown, hT, hrt, hlk, hK, hA, hG, hE⟩ := G
  subst hv
  exact va_get (ci := 1) (v := .int (jf_faultKind σ)) (C := RX1) (T := TX1) (N := 6) hx hb hT i_X1 hown hK hP 0 rfl rfl 4 (by decide) (hT _ wfl_X2_25) (fun _ h9 => h9) rfl hdg k
theorem pj_X2_faultKind {p : Program} {l : Launch} {e : Env} {R : Room} {s : State} {m : MethodId} {args : Array Value} {below : List Frame} {meth : Method} {c : Code} {H : Heap} {locs : List Loc} {cells slots : Nat} {Q : State → Prop} {D : va_G} {aK aV : Nat → Nat} {A : Nat → Prop} {cc : ByteArray} {nL : Nat} {ret : Option FieldType} {pc : Nat} {ls : Array Slot} {rest : List Value} {cB cI cJ : ClassId} {q : Nat → Nat} {N : Nat} {σ : JSt} {v : Int32} (G : CX p s m args meth c D (gTy cB cI cJ) aK aV A RX2 cc nL ret) (hP : va_P D vwCl (jW cB N q σ) H) (hD : va_D A (jW cB N q σ)) (hS : va_S A s.heap H locs) (hdg : decode cc pc = .ok (.putfield 25, 3)) (k : ∀ (H1 : Heap) (locs1 : List Loc), va_P D vwCl (jW cB N q (js_faultKind σ v)) H1 → va_D A (jW cB N q (js_faultKind σ v)) → va_S A s.heap H1 locs1 → W p l e R s m args below meth c H1 locs1 cells slots Q (F0 m (pc + 3) ls rest)) : W p l e R s m args below meth c H locs cells slots Q (F0 m pc ls (.int v :: .ref (q 0) :: rest)) := by
  obtain ⟨hx, hb, hml, hown, hT, hrt, hlk, hK, hA, hG, hE⟩ := G
  exact va_put (ci := 1) (v := .int v) (ty := .int) (C := RX1) (T := TX1) (N := 6) hx hb hT i_X1 tyX1 tyX1_ok nmX1 hown hK hP hD hS 0 rfl rfl 4 (by decide) (hT _ wfl_X2_25) (fun _ h9 => h9) rfl (by decide +kernel) rfl rfl (Nat.le_of_ble_eq_true rfl) hdg k
theorem gj_X2_faultPlace {p : Program} {l : Launch} {e : Env} {R : Room} {s : State} {m : MethodId} {args : Array Value} {below : List Frame} {meth : Method} {c : Code} {H : Heap} {locs : List Loc} {cells slots : Nat} {Q : State → Prop} {D : va_G} {aK aV : Nat → Nat} {A : Nat → Prop} {cc : ByteArray} {nL : Nat} {ret : Option FieldType} {pc : Nat} {ls : Array Slot} {rest : List Value} {cB cI cJ : ClassId} {q : Nat → Nat} {N : Nat} {σ : JSt} {v : Int32} (G : CX p s m args meth c D (gTy cB cI cJ) aK aV A RX2 cc nL ret) (hP : va_P D vwCl (jW cB N q σ) H) (hdg : decode cc pc = .ok (.getfield 28, 3)) (hv : jf_faultPlace σ = v) (k : W p l e R s m args below meth c H locs cells slots Q (F0 m (pc + 3) ls (.int v :: rest))) : W p l e R s m args below meth c H locs cells slots Q (F0 m pc ls (.ref (q 0) :: rest)) := by
  obtain ⟨hx, hb, hml, hown, hT, hrt, hlk, hK, hA, hG, hE⟩ := G
  subst hv
  exact va_get (ci := 1) (v := .int (jf_faultPlace σ)) (C := RX1) (T := TX1) (N := 6) hx hb hT i_X1 hown hK hP 0 rfl rfl 5 (by decide) (hT _ wfl_X2_28) (fun _ h9 => h9) rfl hdg k
theorem pj_X2_faultPlace {p : Program} {l : Launch} {e : Env} {R : Room} {s : State} {m : MethodId} {args : Array Value} {below : List Frame} {meth : Method} {c : Code} {H : Heap} {locs : List Loc} {cells slots : Nat} {Q : State → Prop} {D : va_G} {aK aV : Nat → Nat} {A : Nat → Prop} {cc : ByteArray} {nL : Nat} {ret : Option FieldType} {pc : Nat} {ls : Array Slot} {rest : List Value} {cB cI cJ : ClassId} {q : Nat → Nat} {N : Nat} {σ : JSt} {v : Int32} (G : CX p s m args meth c D (gTy cB cI cJ) aK aV A RX2 cc nL ret) (hP : va_P D vwCl (jW cB N q σ) H) (hD : va_D A (jW cB N q σ)) (hS : va_S A s.heap H locs) (hdg : decode cc pc = .ok (.putfield 28, 3)) (k : ∀ (H1 : Heap) (locs1 : List Loc), va_P D vwCl (jW cB N q (js_faultPlace σ v)) H1 → va_D A (jW cB N q (js_faultPlace σ v)) → va_S A s.heap H1 locs1 → W p l e R s m args below meth c H1 locs1 cells slots Q (F0 m (pc + 3) ls rest)) : W p l e R s m args below meth c H locs cells slots Q (F0 m pc ls (.int v :: .ref (q 0) :: rest)) := by
  obtain ⟨hx, hb, hml, hown, hT, hrt, hlk, hK, hA, hG, hE⟩ := G
  exact va_put (ci := 1) (v := .int v) (ty := .int) (C := RX1) (T := TX1) (N := 6) hx hb hT i_X1 tyX1 tyX1_ok nmX1 hown hK hP hD hS 0 rfl rfl 5 (by decide) (hT _ wfl_X2_28) (fun _ h9 => h9) rfl (by decide +kernel) rfl rfl (Nat.le_of_ble_eq_true rfl) hdg k
theorem vJ {p : Program} {l : Launch} {e : Env} {R : Room} {s : State} {m : MethodId} {args : Array Value} {below : List Frame} {meth : Method} {c : Code} {H : Heap} {locs : List Loc} {cells slots : Nat} {Q : State → Prop} {D : va_G} {aK aV : Nat → Nat} {A : Nat → Prop} {cc : ByteArray} {nL : Nat} {ret : Option FieldType} {pc : Nat} {ls : Array Slot} {rest : List Value} {cB cI cJ : ClassId} {q : Nat → Nat} {N : Nat} {σ : JSt} {ov : Option Value} {y : MethodName} {bytes : ByteArray} {maxL n index : Nat} {ret' : Option FieldType} {rm : Room} {As : List Value} {τ : JSt} (G : CX p s m args meth c D (gTy cB cI cJ) aK aV A RX1 cc nL ret) (M : MV RX1 index RX1 y bytes maxL ret' n) (hM : CT l D (gTy cB cI cJ) aK aV y (wM y bytes maxL ret') rm 0 0 (.ref (q 0) :: As) (jW cB N q σ) ov (jW cB N q τ)) (hP : va_P D vwCl (jW cB N q σ) H) (hD : va_D A (jW cB N q σ)) (hS : va_S A s.heap H locs) (hrm : rm.cells = 0 ∧ rm.slots = 0 ∧ rm.frames + 1 ≤ R.frames ∧ 8 + (maxL + 11) + rm.locals ≤ R.locals) (hc : cells ≤ R.cells ∧ slots ≤ R.slots) (hA : As.length = n) (hls : ls.size = nL) (hst : (rest.map fun v => v.category).sum ≤ 8) (hdg : decode cc pc = .ok (.invokevirtual index, 3)) (k : ∀ (H1 : Heap) (locs1 : List Loc), va_P D vwCl (jW cB N q τ) H1 → va_D A (jW cB N q τ) → va_S A s.heap H1 locs1 → W p l e R s m args below meth c H1 locs1 cells slots Q (F0 m (pc + 3) ls (ov.toList ++ rest))) : W p l e R s m args below meth c H locs cells slots Q (F0 m pc ls (As.reverse ++ .ref (q 0) :: rest)) :=
  ct_v (wr := []) G M hM hP hD hS [0, 1, 2, 3, 4] [] rfl rfl rfl rfl (fun _ h => absurd h List.not_mem_nil) (ci := 1) (q0 := 0) rfl rfl rfl hrm hA hls hst hdg hc k
theorem uJ {p : Program} {l : Launch} {e : Env} {R : Room} {s : State} {m : MethodId} {args : Array Value} {below : List Frame} {meth : Method} {c : Code} {H : Heap} {locs : List Loc} {cells slots : Nat} {Q : State → Prop} {D : va_G} {aK aV : Nat → Nat} {A : Nat → Prop} {cc : ByteArray} {nL : Nat} {ret : Option FieldType} {pc : Nat} {ls : Array Slot} {rest : List Value} {cB cI cJ : ClassId} {q : Nat → Nat} {N : Nat} {σ : JSt} {ov : Option Value} {y : MethodName} {bytes : ByteArray} {maxL n index : Nat} {ret' : Option FieldType} {rm : Room} {As : List Value} {τ : JSt} (G : CX p s m args meth c D (gTy cB cI cJ) aK aV A RX1 cc nL ret) {x : MethodName} (M : MU RX1 index RX1 "TextBridge$Reader" x y bytes maxL ret' n) (hM : CT l D (gTy cB cI cJ) aK aV y (wM y bytes maxL ret') rm 0 0 (.ref (q 0) :: As) (jW cB N q σ) ov (jW cB N q τ)) (hP : va_P D vwCl (jW cB N q σ) H) (hD : va_D A (jW cB N q σ)) (hS : va_S A s.heap H locs) (hrm : rm.cells = 0 ∧ rm.slots = 0 ∧ rm.frames + 1 ≤ R.frames ∧ 8 + (maxL + 11) + rm.locals ≤ R.locals) (hc : cells ≤ R.cells ∧ slots ≤ R.slots) (hA : As.length = n) (hls : ls.size = nL) (hst : (rest.map fun v => v.category).sum ≤ 8) (hdg : decode cc pc = .ok (.invokevirtual index, 3)) (k : ∀ (H1 : Heap) (locs1 : List Loc), va_P D vwCl (jW cB N q τ) H1 → va_D A (jW cB N q τ) → va_S A s.heap H1 locs1 → W p l e R s m args below meth c H1 locs1 cells slots Q (F0 m (pc + 3) ls (ov.toList ++ rest))) : W p l e R s m args below meth c H locs cells slots Q (F0 m pc ls (As.reverse ++ .ref (q 0) :: rest)) :=
  ct_u (wr := []) G M hM hP hD hS [0, 1, 2, 3, 4] [] rfl rfl rfl rfl (fun _ h => absurd h List.not_mem_nil) (ci := 1) (q0 := 0) rfl rfl rfl hrm hA hls hst hdg hc k
theorem vJ_tape {p : Program} {l : Launch} {e : Env} {R : Room} {s : State} {m : MethodId} {args : Array Value} {below : List Frame} {meth : Method} {c : Code} {H : Heap} {locs : List Loc} {cells slots : Nat} {Q : State → Prop} {D : va_G} {aK aV : Nat → Nat} {A : Nat → Prop} {cc : ByteArray} {nL : Nat} {ret : Option FieldType} {pc : Nat} {ls : Array Slot} {rest : List Value} {cB cI cJ : ClassId} {q : Nat → Nat} {N : Nat} {σ : JSt} {ov : Option Value} {y : MethodName} {bytes : ByteArray} {maxL n index : Nat} {ret' : Option FieldType} {rm : Room} {As : List Value} {τ τ0 : RSt} (G : CX p s m args meth c D (gTy cB cI cJ) aK aV A RX1 cc nL ret) (M : MV RX1 index RX3 y bytes maxL ret' n) (h0 : jf_tape σ = τ0) (hM : CT l D (gTy cB cI cJ) aK aV y (wM y bytes maxL ret') rm 0 0 (.ref (q 1) :: As) (rW cB (q 1) (q 2) 4000 τ0) ov (rW cB (q 1) (q 2) 4000 τ)) (hP : va_P D vwCl (jW cB N q σ) H) (hD : va_D A (jW cB N q σ)) (hS : va_S A s.heap H locs) (hrm : rm.cells = 0 ∧ rm.slots = 0 ∧ rm.frames + 1 ≤ R.frames ∧ 8 + (maxL + 11) + rm.locals ≤ R.locals) (hc : cells ≤ R.cells ∧ slots ≤ R.slots) (hA : As.length = n) (hls : ls.size = nL) (hst : (rest.map fun v => v.category).sum ≤ 8) (hdg : decode cc pc = .ok (.invokevirtual index, 3)) (k : ∀ (H1 : Heap) (locs1 : List Loc), va_P D vwCl (jW cB N q (js_tape σ τ)) H1 → va_D A (jW cB N q (js_tape σ τ)) → va_S A s.heap H1 locs1 → W p l e R s m args below meth c H1 locs1 cells slots Q (F0 m (pc + 3) ls (ov.toList ++ rest))) : W p l e R s m args below meth c H locs cells slots Q (F0 m pc ls (As.reverse ++ .ref (q 1) :: rest)) := by
  subst h0
  exact ct_v (wr := [(jW cB N q σ).getD 0 (0, .inr (0, [])), (jW cB N q σ).getD 3 (0, .inr (0, [])), (jW cB N q σ).getD 4 (0, .inr (0, []))]) G M hM hP hD hS [1, 2] [0, 3, 4] rfl rfl rfl rfl (by decide) (ci := 2) (q0 := 1) rfl rfl rfl hrm hA hls hst hdg hc (fun H1 l1 hP hD hS => k H1 l1 (hP.sub [0, 3, 4, 1, 2] rfl) (hD.sub [0, 3, 4, 1, 2] rfl rfl) hS)
theorem vJ_target {p : Program} {l : Launch} {e : Env} {R : Room} {s : State} {m : MethodId} {args : Array Value} {below : List Frame} {meth : Method} {c : Code} {H : Heap} {locs : List Loc} {cells slots : Nat} {Q : State → Prop} {D : va_G} {aK aV : Nat → Nat} {A : Nat → Prop} {cc : ByteArray} {nL : Nat} {ret : Option FieldType} {pc : Nat} {ls : Array Slot} {rest : List Value} {cB cI cJ : ClassId} {q : Nat → Nat} {N : Nat} {σ : JSt} {ov : Option Value} {y : MethodName} {bytes : ByteArray} {maxL n index : Nat} {ret' : Option FieldType} {rm : Room} {As : List Value} {τ τ0 : RSt} (G : CX p s m args meth c D (gTy cB cI cJ) aK aV A RX1 cc nL ret) (M : MV RX1 index RX3 y bytes maxL ret' n) (h0 : jf_target σ = τ0) (hM : CT l D (gTy cB cI cJ) aK aV y (wM y bytes maxL ret') rm 0 0 (.ref (q 3) :: As) (rW cB (q 3) (q 4) N τ0) ov (rW cB (q 3) (q 4) N τ)) (hP : va_P D vwCl (jW cB N q σ) H) (hD : va_D A (jW cB N q σ)) (hS : va_S A s.heap H locs) (hrm : rm.cells = 0 ∧ rm.slots = 0 ∧ rm.frames + 1 ≤ R.frames ∧ 8 + (maxL + 11) + rm.locals ≤ R.locals) (hc : cells ≤ R.cells ∧ slots ≤ R.slots) (hA : As.length = n) (hls : ls.size = nL) (hst : (rest.map fun v => v.category).sum ≤ 8) (hdg : decode cc pc = .ok (.invokevirtual index, 3)) (k : ∀ (H1 : Heap) (locs1 : List Loc), va_P D vwCl (jW cB N q (js_target σ τ)) H1 → va_D A (jW cB N q (js_target σ τ)) → va_S A s.heap H1 locs1 → W p l e R s m args below meth c H1 locs1 cells slots Q (F0 m (pc + 3) ls (ov.toList ++ rest))) : W p l e R s m args below meth c H locs cells slots Q (F0 m pc ls (As.reverse ++ .ref (q 3) :: rest)) := by
  subst h0
  exact ct_v (wr := [(jW cB N q σ).getD 0 (0, .inr (0, [])), (jW cB N q σ).getD 1 (0, .inr (0, [])), (jW cB N q σ).getD 2 (0, .inr (0, []))]) G M hM hP hD hS [3, 4] [0, 1, 2] rfl rfl rfl rfl (by decide) (ci := 2) (q0 := 3) rfl rfl rfl hrm hA hls hst hdg hc (fun H1 l1 hP hD hS => k H1 l1 (hP.sub [0, 1, 2, 3, 4] rfl) (hD.sub [0, 1, 2, 3, 4] rfl rfl) hS)
theorem nJ_tape {p : Program} {l : Launch} {e : Env} {R : Room} {s : State} {m : MethodId} {args : Array Value} {below : List Frame} {meth : Method} {c : Code} {H : Heap} {locs : List Loc} {cells slots : Nat} {Q : State → Prop} {D : va_G} {aK aV : Nat → Nat} {A : Nat → Prop} {cc : ByteArray} {nL : Nat} {ret : Option FieldType} {pc : Nat} {ls : Array Slot} {rest : List Value} {cB cI cJ : ClassId} {q : Nat → Nat} {N : Nat} {σ : JSt} {ov : Option Value} {y : MethodName} {bytes : ByteArray} {maxL n index : Nat} {ret' : Option FieldType} {rm : Room} {As : List Value} {τ τ0 : RSt} (G : CX p s m args meth c D (gTy cB cI cJ) aK aV A RX1 cc nL ret) (M : MN RX1 index y bytes maxL ret' n) (h0 : jf_tape σ = τ0) (hM : CT l D (gTy cB cI cJ) aK aV y (wM y bytes maxL ret') rm 0 0 (.ref (q 1) :: As) (rW cB (q 1) (q 2) 4000 τ0) ov (rW cB (q 1) (q 2) 4000 τ)) (hP : va_P D vwCl (jW cB N q σ) H) (hD : va_D A (jW cB N q σ)) (hS : va_S A s.heap H locs) (hrm : rm.cells = 0 ∧ rm.slots = 0 ∧ rm.frames + 1 ≤ R.frames ∧ 8 + (maxL + 11) + rm.locals ≤ R.locals) (hc : cells ≤ R.cells ∧ slots ≤ R.slots) (hA : (Value.ref (q 1) :: As).length = n) (hls : ls.size = nL) (hst : (rest.map fun v => v.category).sum ≤ 8) (hdg : decode cc pc = .ok (.invokestatic index, 3)) (k : ∀ (H1 : Heap) (locs1 : List Loc), va_P D vwCl (jW cB N q (js_tape σ τ)) H1 → va_D A (jW cB N q (js_tape σ τ)) → va_S A s.heap H1 locs1 → W p l e R s m args below meth c H1 locs1 cells slots Q (F0 m (pc + 3) ls (ov.toList ++ rest))) : W p l e R s m args below meth c H locs cells slots Q (F0 m pc ls ((Value.ref (q 1) :: As).reverse ++ rest)) := by
  subst h0
  exact ct_sn (wr := [(jW cB N q σ).getD 0 (0, .inr (0, [])), (jW cB N q σ).getD 3 (0, .inr (0, [])), (jW cB N q σ).getD 4 (0, .inr (0, []))]) G M hM hP hD hS [1, 2] [0, 3, 4] rfl rfl rfl rfl (by decide) hrm hA hls hst hdg hc (fun H1 l1 hP hD hS => k H1 l1 (hP.sub [0, 3, 4, 1, 2] rfl) (hD.sub [0, 3, 4, 1, 2] rfl rfl) hS)
theorem gk_X0_tape {p : Program} {l : Launch} {e : Env} {R : Room} {s : State} {m : MethodId} {args : Array Value} {below : List Frame} {meth : Method} {c : Code} {H : Heap} {locs : List Loc} {cells slots : Nat} {Q : State → Prop} {D : va_G} {aK aV : Nat → Nat} {A : Nat → Prop} {cc : ByteArray} {nL : Nat} {ret : Option FieldType} {pc : Nat} {ls : Array Slot} {rest : List Value} {cB cI cJ : ClassId} {q : Nat → Nat} {N : Nat} {σ : KSt} (G : CX p s m args meth c D (gTy cB cI cJ) aK aV A RX0 cc nL ret) (hP : va_P D vwCl (kW cB N q σ) H) (hdg : decode cc pc = .ok (.getfield 22, 3)) (k : W p l e R s m args below meth c H locs cells slots Q (F0 m (pc + 3) ls (.ref (q 1) :: rest))) : W p l e R s m args below meth c H locs cells slots Q (F0 m pc ls (.ref (q 0) :: rest)) := by
  obtain ⟨hx, hb, hml, hown, hT, hrt, hlk, hK, hA, hG, hE⟩ := G
  exact va_get (ci := 0) (v := .ref (q 1)) (C := RX0) (T := TX0) (N := 8) hx hb hT i_X0 hown hK hP 0 rfl rfl 0 (by decide) (hT _ wfl_X0_22) (fun x h9 => u_same (hT _ wsf_X0_tape) x h9) rfl hdg k
theorem gk_X0_target {p : Program} {l : Launch} {e : Env} {R : Room} {s : State} {m : MethodId} {args : Array Value} {below : List Frame} {meth : Method} {c : Code} {H : Heap} {locs : List Loc} {cells slots : Nat} {Q : State → Prop} {D : va_G} {aK aV : Nat → Nat} {A : Nat → Prop} {cc : ByteArray} {nL : Nat} {ret : Option FieldType} {pc : Nat} {ls : Array Slot} {rest : List Value} {cB cI cJ : ClassId} {q : Nat → Nat} {N : Nat} {σ : KSt} (G : CX p s m args meth c D (gTy cB cI cJ) aK aV A RX0 cc nL ret) (hP : va_P D vwCl (kW cB N q σ) H) (hdg : decode cc pc = .ok (.getfield 58, 3)) (k : W p l e R s m args below meth c H locs cells slots Q (F0 m (pc + 3) ls (.ref (q 3) :: rest))) : W p l e R s m args below meth c H locs cells slots Q (F0 m pc ls (.ref (q 0) :: rest)) := by
  obtain ⟨hx, hb, hml, hown, hT, hrt, hlk, hK, hA, hG, hE⟩ := G
  exact va_get (ci := 0) (v := .ref (q 3)) (C := RX0) (T := TX0) (N := 8) hx hb hT i_X0 hown hK hP 0 rfl rfl 1 (by decide) (hT _ wfl_X0_58) (fun x h9 => u_same (hT _ wsf_X0_target) x h9) rfl hdg k
theorem gk_X0_depthLimit {p : Program} {l : Launch} {e : Env} {R : Room} {s : State} {m : MethodId} {args : Array Value} {below : List Frame} {meth : Method} {c : Code} {H : Heap} {locs : List Loc} {cells slots : Nat} {Q : State → Prop} {D : va_G} {aK aV : Nat → Nat} {A : Nat → Prop} {cc : ByteArray} {nL : Nat} {ret : Option FieldType} {pc : Nat} {ls : Array Slot} {rest : List Value} {cB cI cJ : ClassId} {q : Nat → Nat} {N : Nat} {σ : KSt} {v : Int32} (G : CX p s m args meth c D (gTy cB cI cJ) aK aV A RX0 cc nL ret) (hP : va_P D vwCl (kW cB N q σ) H) (hdg : decode cc pc = .ok (.getfield 51, 3)) (hv : kf_depthLimit σ = v) (k : W p l e R s m args below meth c H locs cells slots Q (F0 m (pc + 3) ls (.int v :: rest))) : W p l e R s m args below meth c H locs cells slots Q (F0 m pc ls (.ref (q 0) :: rest)) := by
  obtain ⟨hx, hb, hml, hown, hT, hrt, hlk, hK, hA, hG, hE⟩ := G
  subst hv
  exact va_get (ci := 0) (v := .int (kf_depthLimit σ)) (C := RX0) (T := TX0) (N := 8) hx hb hT i_X0 hown hK hP 0 rfl rfl 2 (by decide) (hT _ wfl_X0_51) (fun x h9 => u_same (hT _ wsf_X0_depthLimit) x h9) rfl hdg k
theorem gk_X0_place {p : Program} {l : Launch} {e : Env} {R : Room} {s : State} {m : MethodId} {args : Array Value} {below : List Frame} {meth : Method} {c : Code} {H : Heap} {locs : List Loc} {cells slots : Nat} {Q : State → Prop} {D : va_G} {aK aV : Nat → Nat} {A : Nat → Prop} {cc : ByteArray} {nL : Nat} {ret : Option FieldType} {pc : Nat} {ls : Array Slot} {rest : List Value} {cB cI cJ : ClassId} {q : Nat → Nat} {N : Nat} {σ : KSt} {v : Int32} (G : CX p s m args meth c D (gTy cB cI cJ) aK aV A RX0 cc nL ret) (hP : va_P D vwCl (kW cB N q σ) H) (hdg : decode cc pc = .ok (.getfield 19, 3)) (hv : kf_place σ = v) (k : W p l e R s m args below meth c H locs cells slots Q (F0 m (pc + 3) ls (.int v :: rest))) : W p l e R s m args below meth c H locs cells slots Q (F0 m pc ls (.ref (q 0) :: rest)) := by
  obtain ⟨hx, hb, hml, hown, hT, hrt, hlk, hK, hA, hG, hE⟩ := G
  subst hv
  exact va_get (ci := 0) (v := .int (kf_place σ)) (C := RX0) (T := TX0) (N := 8) hx hb hT i_X0 hown hK hP 0 rfl rfl 3 (by decide) (hT _ wfl_X0_19) (fun x h9 => u_same (hT _ wsf_X0_place) x h9) rfl hdg k
theorem pk_X0_place {p : Program} {l : Launch} {e : Env} {R : Room} {s : State} {m : MethodId} {args : Array Value} {below : List Frame} {meth : Method} {c : Code} {H : Heap} {locs : List Loc} {cells slots : Nat} {Q : State → Prop} {D : va_G} {aK aV : Nat → Nat} {A : Nat → Prop} {cc : ByteArray} {nL : Nat} {ret : Option FieldType} {pc : Nat} {ls : Array Slot} {rest : List Value} {cB cI cJ : ClassId} {q : Nat → Nat} {N : Nat} {σ : KSt} {v : Int32} (G : CX p s m args meth c D (gTy cB cI cJ) aK aV A RX0 cc nL ret) (hP : va_P D vwCl (kW cB N q σ) H) (hD : va_D A (kW cB N q σ)) (hS : va_S A s.heap H locs) (hdg : decode cc pc = .ok (.putfield 19, 3)) (k : ∀ (H1 : Heap) (locs1 : List Loc), va_P D vwCl (kW cB N q (ks_place σ v)) H1 → va_D A (kW cB N q (ks_place σ v)) → va_S A s.heap H1 locs1 → W p l e R s m args below meth c H1 locs1 cells slots Q (F0 m (pc + 3) ls rest)) : W p l e R s m args below meth c H locs cells slots Q (F0 m pc ls (.int v :: .ref (q 0) :: rest)) := by
  obtain ⟨hx, hb, hml, hown, hT, hrt, hlk, hK, hA, hG, hE⟩ := G
  exact va_put (ci := 0) (v := .int v) (ty := .int) (C := RX0) (T := TX0) (N := 8) hx hb hT i_X0 tyX0 tyX0_ok nmX0 hown hK hP hD hS 0 rfl rfl 3 (by decide) (hT _ wfl_X0_19) (fun x h9 => u_same (hT _ wsf_X0_place) x h9) rfl (by decide +kernel) rfl rfl (Nat.le_of_ble_eq_true rfl) hdg k
theorem gk_X0_type {p : Program} {l : Launch} {e : Env} {R : Room} {s : State} {m : MethodId} {args : Array Value} {below : List Frame} {meth : Method} {c : Code} {H : Heap} {locs : List Loc} {cells slots : Nat} {Q : State → Prop} {D : va_G} {aK aV : Nat → Nat} {A : Nat → Prop} {cc : ByteArray} {nL : Nat} {ret : Option FieldType} {pc : Nat} {ls : Array Slot} {rest : List Value} {cB cI cJ : ClassId} {q : Nat → Nat} {N : Nat} {σ : KSt} {v : Int32} (G : CX p s m args meth c D (gTy cB cI cJ) aK aV A RX0 cc nL ret) (hP : va_P D vwCl (kW cB N q σ) H) (hdg : decode cc pc = .ok (.getfield 9, 3)) (hv : kf_type σ = v) (k : W p l e R s m args below meth c H locs cells slots Q (F0 m (pc + 3) ls (.int v :: rest))) : W p l e R s m args below meth c H locs cells slots Q (F0 m pc ls (.ref (q 0) :: rest)) := by
  obtain ⟨hx, hb, hml, hown, hT, hrt, hlk, hK, hA, hG, hE⟩ := G
  subst hv
  exact va_get (ci := 0) (v := .int (kf_type σ)) (C := RX0) (T := TX0) (N := 8) hx hb hT i_X0 hown hK hP 0 rfl rfl 6 (by decide) (hT _ wfl_X0_9) (fun _ h9 => h9) rfl hdg k
theorem pk_X0_type {p : Program} {l : Launch} {e : Env} {R : Room} {s : State} {m : MethodId} {args : Array Value} {below : List Frame} {meth : Method} {c : Code} {H : Heap} {locs : List Loc} {cells slots : Nat} {Q : State → Prop} {D : va_G} {aK aV : Nat → Nat} {A : Nat → Prop} {cc : ByteArray} {nL : Nat} {ret : Option FieldType} {pc : Nat} {ls : Array Slot} {rest : List Value} {cB cI cJ : ClassId} {q : Nat → Nat} {N : Nat} {σ : KSt} {v : Int32} (G : CX p s m args meth c D (gTy cB cI cJ) aK aV A RX0 cc nL ret) (hP : va_P D vwCl (kW cB N q σ) H) (hD : va_D A (kW cB N q σ)) (hS : va_S A s.heap H locs) (hdg : decode cc pc = .ok (.putfield 9, 3)) (k : ∀ (H1 : Heap) (locs1 : List Loc), va_P D vwCl (kW cB N q (ks_type σ v)) H1 → va_D A (kW cB N q (ks_type σ v)) → va_S A s.heap H1 locs1 → W p l e R s m args below meth c H1 locs1 cells slots Q (F0 m (pc + 3) ls rest)) : W p l e R s m args below meth c H locs cells slots Q (F0 m pc ls (.int v :: .ref (q 0) :: rest)) := by
  obtain ⟨hx, hb, hml, hown, hT, hrt, hlk, hK, hA, hG, hE⟩ := G
  exact va_put (ci := 0) (v := .int v) (ty := .int) (C := RX0) (T := TX0) (N := 8) hx hb hT i_X0 tyX0 tyX0_ok nmX0 hown hK hP hD hS 0 rfl rfl 6 (by decide) (hT _ wfl_X0_9) (fun _ h9 => h9) rfl (by decide +kernel) rfl rfl (Nat.le_of_ble_eq_true rfl) hdg k
theorem gk_X0_number {p : Program} {l : Launch} {e : Env} {R : Room} {s : State} {m : MethodId} {args : Array Value} {below : List Frame} {meth : Method} {c : Code} {H : Heap} {locs : List Loc} {cells slots : Nat} {Q : State → Prop} {D : va_G} {aK aV : Nat → Nat} {A : Nat → Prop} {cc : ByteArray} {nL : Nat} {ret : Option FieldType} {pc : Nat} {ls : Array Slot} {rest : List Value} {cB cI cJ : ClassId} {q : Nat → Nat} {N : Nat} {σ : KSt} {v : Int64} (G : CX p s m args meth c D (gTy cB cI cJ) aK aV A RX0 cc nL ret) (hP : va_P D vwCl (kW cB N q σ) H) (hdg : decode cc pc = .ok (.getfield 15, 3)) (hv : kf_number σ = v) (k : W p l e R s m args below meth c H locs cells slots Q (F0 m (pc + 3) ls (.long v :: rest))) : W p l e R s m args below meth c H locs cells slots Q (F0 m pc ls (.ref (q 0) :: rest)) := by
  obtain ⟨hx, hb, hml, hown, hT, hrt, hlk, hK, hA, hG, hE⟩ := G
  subst hv
  exact va_get (ci := 0) (v := .long (kf_number σ)) (C := RX0) (T := TX0) (N := 8) hx hb hT i_X0 hown hK hP 0 rfl rfl 7 (by decide) (hT _ wfl_X0_15) (fun _ h9 => h9) rfl hdg k
theorem pk_X0_number {p : Program} {l : Launch} {e : Env} {R : Room} {s : State} {m : MethodId} {args : Array Value} {below : List Frame} {meth : Method} {c : Code} {H : Heap} {locs : List Loc} {cells slots : Nat} {Q : State → Prop} {D : va_G} {aK aV : Nat → Nat} {A : Nat → Prop} {cc : ByteArray} {nL : Nat} {ret : Option FieldType} {pc : Nat} {ls : Array Slot} {rest : List Value} {cB cI cJ : ClassId} {q : Nat → Nat} {N : Nat} {σ : KSt} {v : Int64} (G : CX p s m args meth c D (gTy cB cI cJ) aK aV A RX0 cc nL ret) (hP : va_P D vwCl (kW cB N q σ) H) (hD : va_D A (kW cB N q σ)) (hS : va_S A s.heap H locs) (hdg : decode cc pc = .ok (.putfield 15, 3)) (k : ∀ (H1 : Heap) (locs1 : List Loc), va_P D vwCl (kW cB N q (ks_number σ v)) H1 → va_D A (kW cB N q (ks_number σ v)) → va_S A s.heap H1 locs1 → W p l e R s m args below meth c H1 locs1 cells slots Q (F0 m (pc + 3) ls rest)) : W p l e R s m args below meth c H locs cells slots Q (F0 m pc ls (.long v :: .ref (q 0) :: rest)) := by
  obtain ⟨hx, hb, hml, hown, hT, hrt, hlk, hK, hA, hG, hE⟩ := G
  exact va_put (ci := 0) (v := .long v) (ty := .long) (C := RX0) (T := TX0) (N := 8) hx hb hT i_X0 tyX0 tyX0_ok nmX0 hown hK hP hD hS 0 rfl rfl 7 (by decide) (hT _ wfl_X0_15) (fun _ h9 => h9) rfl (by decide +kernel) rfl rfl (Nat.le_of_ble_eq_true rfl) hdg k
theorem gk_X2_tape {p : Program} {l : Launch} {e : Env} {R : Room} {s : State} {m : MethodId} {args : Array Value} {below : List Frame} {meth : Method} {c : Code} {H : Heap} {locs : List Loc} {cells slots : Nat} {Q : State → Prop} {D : va_G} {aK aV : Nat → Nat} {A : Nat → Prop} {cc : ByteArray} {nL : Nat} {ret : Option FieldType} {pc : Nat} {ls : Array Slot} {rest : List Value} {cB cI cJ : ClassId} {q : Nat → Nat} {N : Nat} {σ : KSt} (G : CX p s m args meth c D (gTy cB cI cJ) aK aV A RX2 cc nL ret) (hP : va_P D vwCl (kW cB N q σ) H) (hdg : decode cc pc = .ok (.getfield 9, 3)) (k : W p l e R s m args below meth c H locs cells slots Q (F0 m (pc + 3) ls (.ref (q 1) :: rest))) : W p l e R s m args below meth c H locs cells slots Q (F0 m pc ls (.ref (q 0) :: rest)) := by
  obtain ⟨hx, hb, hml, hown, hT, hrt, hlk, hK, hA, hG, hE⟩ := G
  exact va_get (ci := 0) (v := .ref (q 1)) (C := RX0) (T := TX0) (N := 8) hx hb hT i_X0 hown hK hP 0 rfl rfl 0 (by decide) (hT _ wfl_X2_9) (fun _ h9 => h9) rfl hdg k
theorem gk_X2_target {p : Program} {l : Launch} {e : Env} {R : Room} {s : State} {m : MethodId} {args : Array Value} {below : List Frame} {meth : Method} {c : Code} {H : Heap} {locs : List Loc} {cells slots : Nat} {Q : State → Prop} {D : va_G} {aK aV : Nat → Nat} {A : Nat → Prop} {cc : ByteArray} {nL : Nat} {ret : Option FieldType} {pc : Nat} {ls : Array Slot} {rest : List Value} {cB cI cJ : ClassId} {q : Nat → Nat} {N : Nat} {σ : KSt} (G : CX p s m args meth c D (gTy cB cI cJ) aK aV A RX2 cc nL ret) (hP : va_P D vwCl (kW cB N q σ) H) (hdg : decode cc pc = .ok (.getfield 15, 3)) (k : W p l e R s m args below meth c H locs cells slots Q (F0 m (pc + 3) ls (.ref (q 3) :: rest))) : W p l e R s m args below meth c H locs cells slots Q (F0 m pc ls (.ref (q 0) :: rest)) := by
  obtain ⟨hx, hb, hml, hown, hT, hrt, hlk, hK, hA, hG, hE⟩ := G
  exact va_get (ci := 0) (v := .ref (q 3)) (C := RX0) (T := TX0) (N := 8) hx hb hT i_X0 hown hK hP 0 rfl rfl 1 (by decide) (hT _ wfl_X2_15) (fun _ h9 => h9) rfl hdg k
theorem gk_X2_depthLimit {p : Program} {l : Launch} {e : Env} {R : Room} {s : State} {m : MethodId} {args : Array Value} {below : List Frame} {meth : Method} {c : Code} {H : Heap} {locs : List Loc} {cells slots : Nat} {Q : State → Prop} {D : va_G} {aK aV : Nat → Nat} {A : Nat → Prop} {cc : ByteArray} {nL : Nat} {ret : Option FieldType} {pc : Nat} {ls : Array Slot} {rest : List Value} {cB cI cJ : ClassId} {q : Nat → Nat} {N : Nat} {σ : KSt} {v : Int32} (G : CX p s m args meth c D (gTy cB cI cJ) aK aV A RX2 cc nL ret) (hP : va_P D vwCl (kW cB N q σ) H) (hdg : decode cc pc = .ok (.getfield 18, 3)) (hv : kf_depthLimit σ = v) (k : W p l e R s m args below meth c H locs cells slots Q (F0 m (pc + 3) ls (.int v :: rest))) : W p l e R s m args below meth c H locs cells slots Q (F0 m pc ls (.ref (q 0) :: rest)) := by
  obtain ⟨hx, hb, hml, hown, hT, hrt, hlk, hK, hA, hG, hE⟩ := G
  subst hv
  exact va_get (ci := 0) (v := .int (kf_depthLimit σ)) (C := RX0) (T := TX0) (N := 8) hx hb hT i_X0 hown hK hP 0 rfl rfl 2 (by decide) (hT _ wfl_X2_18) (fun _ h9 => h9) rfl hdg k
theorem gk_X2_place {p : Program} {l : Launch} {e : Env} {R : Room} {s : State} {m : MethodId} {args : Array Value} {below : List Frame} {meth : Method} {c : Code} {H : Heap} {locs : List Loc} {cells slots : Nat} {Q : State → Prop} {D : va_G} {aK aV : Nat → Nat} {A : Nat → Prop} {cc : ByteArray} {nL : Nat} {ret : Option FieldType} {pc : Nat} {ls : Array Slot} {rest : List Value} {cB cI cJ : ClassId} {q : Nat → Nat} {N : Nat} {σ : KSt} {v : Int32} (G : CX p s m args meth c D (gTy cB cI cJ) aK aV A RX2 cc nL ret) (hP : va_P D vwCl (kW cB N q σ) H) (hdg : decode cc pc = .ok (.getfield 22, 3)) (hv : kf_place σ = v) (k : W p l e R s m args below meth c H locs cells slots Q (F0 m (pc + 3) ls (.int v :: rest))) : W p l e R s m args below meth c H locs cells slots Q (F0 m pc ls (.ref (q 0) :: rest)) := by
  obtain ⟨hx, hb, hml, hown, hT, hrt, hlk, hK, hA, hG, hE⟩ := G
  subst hv
  exact va_get (ci := 0) (v := .int (kf_place σ)) (C := RX0) (T := TX0) (N := 8) hx hb hT i_X0 hown hK hP 0 rfl rfl 3 (by decide) (hT _ wfl_X2_22) (fun _ h9 => h9) rfl hdg k
theorem pk_X2_place {p : Program} {l : Launch} {e : Env} {R : Room} {s : State} {m : MethodId} {args : Array Value} {below : List Frame} {meth : Method} {c : Code} {H : Heap} {locs : List Loc} {cells slots : Nat} {Q : State → Prop} {D : va_G} {aK aV : Nat → Nat} {A : Nat → Prop} {cc : ByteArray} {nL : Nat} {ret : Option FieldType} {pc : Nat} {ls : Array Slot} {rest : List Value} {cB cI cJ : ClassId} {q : Nat → Nat} {N : Nat} {σ : KSt} {v : Int32} (G : CX p s m args meth c D (gTy cB cI cJ) aK aV A RX2 cc nL ret) (hP : va_P D vwCl (kW cB N q σ) H) (hD : va_D A (kW cB N q σ)) (hS : va_S A s.heap H locs) (hdg : decode cc pc = .ok (.putfield 22, 3)) (k : ∀ (H1 : Heap) (locs1 : List Loc), va_P D vwCl (kW cB N q (ks_place σ v)) H1 → va_D A (kW cB N q (ks_place σ v)) → va_S A s.heap H1 locs1 → W p l e R s m args below meth c H1 locs1 cells slots Q (F0 m (pc + 3) ls rest)) : W p l e R s m args below meth c H locs cells slots Q (F0 m pc ls (.int v :: .ref (q 0) :: rest)) := by
  obtain ⟨hx, hb, hml, hown, hT, hrt, hlk, hK, hA, hG, hE⟩ := G
  exact va_put (ci := 0) (v := .int v) (ty := .int) (C := RX0) (T := TX0) (N := 8) hx hb hT i_X0 tyX0 tyX0_ok nmX0 hown hK hP hD hS 0 rfl rfl 3 (by decide) (hT _ wfl_X2_22) (fun _ h9 => h9) rfl (by decide +kernel) rfl rfl (Nat.le_of_ble_eq_true rfl) hdg k
theorem gk_X2_faultKind {p : Program} {l : Launch} {e : Env} {R : Room} {s : State} {m : MethodId} {args : Array Value} {below : List Frame} {meth : Method} {c : Code} {H : Heap} {locs : List Loc} {cells slots : Nat} {Q : State → Prop} {D : va_G} {aK aV : Nat → Nat} {A : Nat → Prop} {cc : ByteArray} {nL : Nat} {ret : Option FieldType} {pc : Nat} {ls : Array Slot} {rest : List Value} {cB cI cJ : ClassId} {q : Nat → Nat} {N : Nat} {σ : KSt} {v : Int32} (G : CX p s m args meth c D (gTy cB cI cJ) aK aV A RX2 cc nL ret) (hP : va_P D vwCl (kW cB N q σ) H) (hdg : decode cc pc = .ok (.getfield 25, 3)) (hv : kf_faultKind σ = v) (k : W p l e R s m args below meth c H locs cells slots Q (F0 m (pc + 3) ls (.int v :: rest))) : W p l e R s m args below meth c H locs cells slots Q (F0 m pc ls (.ref (q 0) :: rest)) := by
  obtain ⟨hx, hb, hml, hown, hT, hrt, hlk, hK, hA, hG, hE⟩ := G
  subst hv
  exact va_get (ci := 0) (v := .int (kf_faultKind σ)) (C := RX0) (T := TX0) (N := 8) hx hb hT i_X0 hown hK hP 0 rfl rfl 4 (by decide) (hT _ wfl_X2_25) (fun _ h9 => h9) rfl hdg k
theorem pk_X2_faultKind {p : Program} {l : Launch} {e : Env} {R : Room} {s : State} {m : MethodId} {args : Array Value} {below : List Frame} {meth : Method} {c : Code} {H : Heap} {locs : List Loc} {cells slots : Nat} {Q : State → Prop} {D : va_G} {aK aV : Nat → Nat} {A : Nat → Prop} {cc : ByteArray} {nL : Nat} {ret : Option FieldType} {pc : Nat} {ls : Array Slot} {rest : List Value} {cB cI cJ : ClassId} {q : Nat → Nat} {N : Nat} {σ : KSt} {v : Int32} (G : CX p s m args meth c D (gTy cB cI cJ) aK aV A RX2 cc nL ret) (hP : va_P D vwCl (kW cB N q σ) H) (hD : va_D A (kW cB N q σ)) (hS : va_S A s.heap H locs) (hdg : decode cc pc = .ok (.putfield 25, 3)) (k : ∀ (H1 : Heap) (locs1 : List Loc), va_P D vwCl (kW cB N q (ks_faultKind σ v)) H1 → va_D A (kW cB N q (ks_faultKind σ v)) → va_S A s.heap H1 locs1 → W p l e R s m args below meth c H1 locs1 cells slots Q (F0 m (pc + 3) ls rest)) : W p l e R s m args below meth c H locs cells slots Q (F0 m pc ls (.int v :: .ref (q 0) :: rest)) := by
  obtain ⟨hx, hb, hml, hown, hT, hrt, hlk, hK, hA, hG, hE⟩ := G
  exact va_put (ci := 0) (v := .int v) (ty := .int) (C := RX0) (T := TX0) (N := 8) hx hb hT i_X0 tyX0 tyX0_ok nmX0 hown hK hP hD hS 0 rfl rfl 4 (by decide) (hT _ wfl_X2_25) (fun _ h9 => h9) rfl (by decide +kernel) rfl rfl (Nat.le_of_ble_eq_true rfl) hdg k
theorem gk_X2_faultPlace {p : Program} {l : Launch} {e : Env} {R : Room} {s : State} {m : MethodId} {args : Array Value} {below : List Frame} {meth : Method} {c : Code} {H : Heap} {locs : List Loc} {cells slots : Nat} {Q : State → Prop} {D : va_G} {aK aV : Nat → Nat} {A : Nat → Prop} {cc : ByteArray} {nL : Nat} {ret : Option FieldType} {pc : Nat} {ls : Array Slot} {rest : List Value} {cB cI cJ : ClassId} {q : Nat → Nat} {N : Nat} {σ : KSt} {v : Int32} (G : CX p s m args meth c D (gTy cB cI cJ) aK aV A RX2 cc nL ret) (hP : va_P D vwCl (kW cB N q σ) H) (hdg : decode cc pc = .ok (.getfield 28, 3)) (hv : kf_faultPlace σ = v) (k : W p l e R s m args below meth c H locs cells slots Q (F0 m (pc + 3) ls (.int v :: rest))) : W p l e R s m args below meth c H locs cells slots Q (F0 m pc ls (.ref (q 0) :: rest)) := by
  obtain ⟨hx, hb, hml, hown, hT, hrt, hlk, hK, hA, hG, hE⟩ := G
  subst hv
  exact va_get (ci := 0) (v := .int (kf_faultPlace σ)) (C := RX0) (T := TX0) (N := 8) hx hb hT i_X0 hown hK hP 0 rfl rfl 5 (by decide) (hT _ wfl_X2_28) (fun _ h9 => h9) rfl hdg k
theorem pk_X2_faultPlace {p : Program} {l : Launch} {e : Env} {R : Room} {s : State} {m : MethodId} {args : Array Value} {below : List Frame} {meth : Method} {c : Code} {H : Heap} {locs : List Loc} {cells slots : Nat} {Q : State → Prop} {D : va_G} {aK aV : Nat → Nat} {A : Nat → Prop} {cc : ByteArray} {nL : Nat} {ret : Option FieldType} {pc : Nat} {ls : Array Slot} {rest : List Value} {cB cI cJ : ClassId} {q : Nat → Nat} {N : Nat} {σ : KSt} {v : Int32} (G : CX p s m args meth c D (gTy cB cI cJ) aK aV A RX2 cc nL ret) (hP : va_P D vwCl (kW cB N q σ) H) (hD : va_D A (kW cB N q σ)) (hS : va_S A s.heap H locs) (hdg : decode cc pc = .ok (.putfield 28, 3)) (k : ∀ (H1 : Heap) (locs1 : List Loc), va_P D vwCl (kW cB N q (ks_faultPlace σ v)) H1 → va_D A (kW cB N q (ks_faultPlace σ v)) → va_S A s.heap H1 locs1 → W p l e R s m args below meth c H1 locs1 cells slots Q (F0 m (pc + 3) ls rest)) : W p l e R s m args below meth c H locs cells slots Q (F0 m pc ls (.int v :: .ref (q 0) :: rest)) := by
  obtain ⟨hx, hb, hml, hown, hT, hrt, hlk, hK, hA, hG, hE⟩ := G
  exact va_put (ci := 0) (v := .int v) (ty := .int) (C := RX0) (T := TX0) (N := 8) hx hb hT i_X0 tyX0 tyX0_ok nmX0 hown hK hP hD hS 0 rfl rfl 5 (by decide) (hT _ wfl_X2_28) (fun _ h9 => h9) rfl (by decide +kernel) rfl rfl (Nat.le_of_ble_eq_true rfl) hdg k
theorem vK {p : Program} {l : Launch} {e : Env} {R : Room} {s : State} {m : MethodId} {args : Array Value} {below : List Frame} {meth : Method} {c : Code} {H : Heap} {locs : List Loc} {cells slots : Nat} {Q : State → Prop} {D : va_G} {aK aV : Nat → Nat} {A : Nat → Prop} {cc : ByteArray} {nL : Nat} {ret : Option FieldType} {pc : Nat} {ls : Array Slot} {rest : List Value} {cB cI cJ : ClassId} {q : Nat → Nat} {N : Nat} {σ : KSt} {ov : Option Value} {y : MethodName} {bytes : ByteArray} {maxL n index : Nat} {ret' : Option FieldType} {rm : Room} {As : List Value} {τ : KSt} (G : CX p s m args meth c D (gTy cB cI cJ) aK aV A RX0 cc nL ret) (M : MV RX0 index RX0 y bytes maxL ret' n) (hM : CT l D (gTy cB cI cJ) aK aV y (wM y bytes maxL ret') rm 0 0 (.ref (q 0) :: As) (kW cB N q σ) ov (kW cB N q τ)) (hP : va_P D vwCl (kW cB N q σ) H) (hD : va_D A (kW cB N q σ)) (hS : va_S A s.heap H locs) (hrm : rm.cells = 0 ∧ rm.slots = 0 ∧ rm.frames + 1 ≤ R.frames ∧ 8 + (maxL + 11) + rm.locals ≤ R.locals) (hc : cells ≤ R.cells ∧ slots ≤ R.slots) (hA : As.length = n) (hls : ls.size = nL) (hst : (rest.map fun v => v.category).sum ≤ 8) (hdg : decode cc pc = .ok (.invokevirtual index, 3)) (k : ∀ (H1 : Heap) (locs1 : List Loc), va_P D vwCl (kW cB N q τ) H1 → va_D A (kW cB N q τ) → va_S A s.heap H1 locs1 → W p l e R s m args below meth c H1 locs1 cells slots Q (F0 m (pc + 3) ls (ov.toList ++ rest))) : W p l e R s m args below meth c H locs cells slots Q (F0 m pc ls (As.reverse ++ .ref (q 0) :: rest)) :=
  ct_v (wr := []) G M hM hP hD hS [0, 1, 2, 3, 4] [] rfl rfl rfl rfl (fun _ h => absurd h List.not_mem_nil) (ci := 0) (q0 := 0) rfl rfl rfl hrm hA hls hst hdg hc k
theorem uK {p : Program} {l : Launch} {e : Env} {R : Room} {s : State} {m : MethodId} {args : Array Value} {below : List Frame} {meth : Method} {c : Code} {H : Heap} {locs : List Loc} {cells slots : Nat} {Q : State → Prop} {D : va_G} {aK aV : Nat → Nat} {A : Nat → Prop} {cc : ByteArray} {nL : Nat} {ret : Option FieldType} {pc : Nat} {ls : Array Slot} {rest : List Value} {cB cI cJ : ClassId} {q : Nat → Nat} {N : Nat} {σ : KSt} {ov : Option Value} {y : MethodName} {bytes : ByteArray} {maxL n index : Nat} {ret' : Option FieldType} {rm : Room} {As : List Value} {τ : KSt} (G : CX p s m args meth c D (gTy cB cI cJ) aK aV A RX0 cc nL ret) {x : MethodName} (M : MU RX0 index RX0 "TextBridge$Reader" x y bytes maxL ret' n) (hM : CT l D (gTy cB cI cJ) aK aV y (wM y bytes maxL ret') rm 0 0 (.ref (q 0) :: As) (kW cB N q σ) ov (kW cB N q τ)) (hP : va_P D vwCl (kW cB N q σ) H) (hD : va_D A (kW cB N q σ)) (hS : va_S A s.heap H locs) (hrm : rm.cells = 0 ∧ rm.slots = 0 ∧ rm.frames + 1 ≤ R.frames ∧ 8 + (maxL + 11) + rm.locals ≤ R.locals) (hc : cells ≤ R.cells ∧ slots ≤ R.slots) (hA : As.length = n) (hls : ls.size = nL) (hst : (rest.map fun v => v.category).sum ≤ 8) (hdg : decode cc pc = .ok (.invokevirtual index, 3)) (k : ∀ (H1 : Heap) (locs1 : List Loc), va_P D vwCl (kW cB N q τ) H1 → va_D A (kW cB N q τ) → va_S A s.heap H1 locs1 → W p l e R s m args below meth c H1 locs1 cells slots Q (F0 m (pc + 3) ls (ov.toList ++ rest))) : W p l e R s m args below meth c H locs cells slots Q (F0 m pc ls (As.reverse ++ .ref (q 0) :: rest)) :=
  ct_u (wr := []) G M hM hP hD hS [0, 1, 2, 3, 4] [] rfl rfl rfl rfl (fun _ h => absurd h List.not_mem_nil) (ci := 0) (q0 := 0) rfl rfl rfl hrm hA hls hst hdg hc k
theorem vK_tape {p : Program} {l : Launch} {e : Env} {R : Room} {s : State} {m : MethodId} {args : Array Value} {below : List Frame} {meth : Method} {c : Code} {H : Heap} {locs : List Loc} {cells slots : Nat} {Q : State → Prop} {D : va_G} {aK aV : Nat → Nat} {A : Nat → Prop} {cc : ByteArray} {nL : Nat} {ret : Option FieldType} {pc : Nat} {ls : Array Slot} {rest : List Value} {cB cI cJ : ClassId} {q : Nat → Nat} {N : Nat} {σ : KSt} {ov : Option Value} {y : MethodName} {bytes : ByteArray} {maxL n index : Nat} {ret' : Option FieldType} {rm : Room} {As : List Value} {τ τ0 : RSt} (G : CX p s m args meth c D (gTy cB cI cJ) aK aV A RX0 cc nL ret) (M : MV RX0 index RX3 y bytes maxL ret' n) (h0 : kf_tape σ = τ0) (hM : CT l D (gTy cB cI cJ) aK aV y (wM y bytes maxL ret') rm 0 0 (.ref (q 1) :: As) (rW cB (q 1) (q 2) 4000 τ0) ov (rW cB (q 1) (q 2) 4000 τ)) (hP : va_P D vwCl (kW cB N q σ) H) (hD : va_D A (kW cB N q σ)) (hS : va_S A s.heap H locs) (hrm : rm.cells = 0 ∧ rm.slots = 0 ∧ rm.frames + 1 ≤ R.frames ∧ 8 + (maxL + 11) + rm.locals ≤ R.locals) (hc : cells ≤ R.cells ∧ slots ≤ R.slots) (hA : As.length = n) (hls : ls.size = nL) (hst : (rest.map fun v => v.category).sum ≤ 8) (hdg : decode cc pc = .ok (.invokevirtual index, 3)) (k : ∀ (H1 : Heap) (locs1 : List Loc), va_P D vwCl (kW cB N q (ks_tape σ τ)) H1 → va_D A (kW cB N q (ks_tape σ τ)) → va_S A s.heap H1 locs1 → W p l e R s m args below meth c H1 locs1 cells slots Q (F0 m (pc + 3) ls (ov.toList ++ rest))) : W p l e R s m args below meth c H locs cells slots Q (F0 m pc ls (As.reverse ++ .ref (q 1) :: rest)) := by
  subst h0
  exact ct_v (wr := [(kW cB N q σ).getD 0 (0, .inr (0, [])), (kW cB N q σ).getD 3 (0, .inr (0, [])), (kW cB N q σ).getD 4 (0, .inr (0, []))]) G M hM hP hD hS [1, 2] [0, 3, 4] rfl rfl rfl rfl (by decide) (ci := 2) (q0 := 1) rfl rfl rfl hrm hA hls hst hdg hc (fun H1 l1 hP hD hS => k H1 l1 (hP.sub [0, 3, 4, 1, 2] rfl) (hD.sub [0, 3, 4, 1, 2] rfl rfl) hS)
theorem vK_target {p : Program} {l : Launch} {e : Env} {R : Room} {s : State} {m : MethodId} {args : Array Value} {below : List Frame} {meth : Method} {c : Code} {H : Heap} {locs : List Loc} {cells slots : Nat} {Q : State → Prop} {D : va_G} {aK aV : Nat → Nat} {A : Nat → Prop} {cc : ByteArray} {nL : Nat} {ret : Option FieldType} {pc : Nat} {ls : Array Slot} {rest : List Value} {cB cI cJ : ClassId} {q : Nat → Nat} {N : Nat} {σ : KSt} {ov : Option Value} {y : MethodName} {bytes : ByteArray} {maxL n index : Nat} {ret' : Option FieldType} {rm : Room} {As : List Value} {τ τ0 : RSt} (G : CX p s m args meth c D (gTy cB cI cJ) aK aV A RX0 cc nL ret) (M : MV RX0 index RX3 y bytes maxL ret' n) (h0 : kf_target σ = τ0) (hM : CT l D (gTy cB cI cJ) aK aV y (wM y bytes maxL ret') rm 0 0 (.ref (q 3) :: As) (rW cB (q 3) (q 4) N τ0) ov (rW cB (q 3) (q 4) N τ)) (hP : va_P D vwCl (kW cB N q σ) H) (hD : va_D A (kW cB N q σ)) (hS : va_S A s.heap H locs) (hrm : rm.cells = 0 ∧ rm.slots = 0 ∧ rm.frames + 1 ≤ R.frames ∧ 8 + (maxL + 11) + rm.locals ≤ R.locals) (hc : cells ≤ R.cells ∧ slots ≤ R.slots) (hA : As.length = n) (hls : ls.size = nL) (hst : (rest.map fun v => v.category).sum ≤ 8) (hdg : decode cc pc = .ok (.invokevirtual index, 3)) (k : ∀ (H1 : Heap) (locs1 : List Loc), va_P D vwCl (kW cB N q (ks_target σ τ)) H1 → va_D A (kW cB N q (ks_target σ τ)) → va_S A s.heap H1 locs1 → W p l e R s m args below meth c H1 locs1 cells slots Q (F0 m (pc + 3) ls (ov.toList ++ rest))) : W p l e R s m args below meth c H locs cells slots Q (F0 m pc ls (As.reverse ++ .ref (q 3) :: rest)) := by
  subst h0
  exact ct_v (wr := [(kW cB N q σ).getD 0 (0, .inr (0, [])), (kW cB N q σ).getD 1 (0, .inr (0, [])), (kW cB N q σ).getD 2 (0, .inr (0, []))]) G M hM hP hD hS [3, 4] [0, 1, 2] rfl rfl rfl rfl (by decide) (ci := 2) (q0 := 3) rfl rfl rfl hrm hA hls hst hdg hc (fun H1 l1 hP hD hS => k H1 l1 (hP.sub [0, 1, 2, 3, 4] rfl) (hD.sub [0, 1, 2, 3, 4] rfl rfl) hS)
theorem nK_tape {p : Program} {l : Launch} {e : Env} {R : Room} {s : State} {m : MethodId} {args : Array Value} {below : List Frame} {meth : Method} {c : Code} {H : Heap} {locs : List Loc} {cells slots : Nat} {Q : State → Prop} {D : va_G} {aK aV : Nat → Nat} {A : Nat → Prop} {cc : ByteArray} {nL : Nat} {ret : Option FieldType} {pc : Nat} {ls : Array Slot} {rest : List Value} {cB cI cJ : ClassId} {q : Nat → Nat} {N : Nat} {σ : KSt} {ov : Option Value} {y : MethodName} {bytes : ByteArray} {maxL n index : Nat} {ret' : Option FieldType} {rm : Room} {As : List Value} {τ τ0 : RSt} (G : CX p s m args meth c D (gTy cB cI cJ) aK aV A RX0 cc nL ret) (M : MN RX0 index y bytes maxL ret' n) (h0 : kf_tape σ = τ0) (hM : CT l D (gTy cB cI cJ) aK aV y (wM y bytes maxL ret') rm 0 0 (.ref (q 1) :: As) (rW cB (q 1) (q 2) 4000 τ0) ov (rW cB (q 1) (q 2) 4000 τ)) (hP : va_P D vwCl (kW cB N q σ) H) (hD : va_D A (kW cB N q σ)) (hS : va_S A s.heap H locs) (hrm : rm.cells = 0 ∧ rm.slots = 0 ∧ rm.frames + 1 ≤ R.frames ∧ 8 + (maxL + 11) + rm.locals ≤ R.locals) (hc : cells ≤ R.cells ∧ slots ≤ R.slots) (hA : (Value.ref (q 1) :: As).length = n) (hls : ls.size = nL) (hst : (rest.map fun v => v.category).sum ≤ 8) (hdg : decode cc pc = .ok (.invokestatic index, 3)) (k : ∀ (H1 : Heap) (locs1 : List Loc), va_P D vwCl (kW cB N q (ks_tape σ τ)) H1 → va_D A (kW cB N q (ks_tape σ τ)) → va_S A s.heap H1 locs1 → W p l e R s m args below meth c H1 locs1 cells slots Q (F0 m (pc + 3) ls (ov.toList ++ rest))) : W p l e R s m args below meth c H locs cells slots Q (F0 m pc ls ((Value.ref (q 1) :: As).reverse ++ rest)) := by
  subst h0
  exact ct_sn (wr := [(kW cB N q σ).getD 0 (0, .inr (0, [])), (kW cB N q σ).getD 3 (0, .inr (0, [])), (kW cB N q σ).getD 4 (0, .inr (0, []))]) G M hM hP hD hS [1, 2] [0, 3, 4] rfl rfl rfl rfl (by decide) hrm hA hls hst hdg hc (fun H1 l1 hP hD hS => k H1 l1 (hP.sub [0, 3, 4, 1, 2] rfl) (hD.sub [0, 3, 4, 1, 2] rfl rfl) hS)
theorem gt_X4_tape {p : Program} {l : Launch} {e : Env} {R : Room} {s : State} {m : MethodId} {args : Array Value} {below : List Frame} {meth : Method} {c : Code} {H : Heap} {locs : List Loc} {cells slots : Nat} {Q : State → Prop} {D : va_G} {aK aV : Nat → Nat} {A : Nat → Prop} {cc : ByteArray} {nL : Nat} {ret : Option FieldType} {pc : Nat} {ls : Array Slot} {rest : List Value} {cB cI cJ : ClassId} {q : Nat → Nat} {σ : TSt} (G : CX p s m args meth c D (gTy cB cI cJ) aK aV A RX4 cc nL ret) (hP : va_P D vwCl (tW cB q σ) H) (hdg : decode cc pc = .ok (.getfield 14, 3)) (k : W p l e R s m args below meth c H locs cells slots Q (F0 m (pc + 3) ls (.ref (q 1) :: rest))) : W p l e R s m args below meth c H locs cells slots Q (F0 m pc ls (.ref (q 0) :: rest)) := by
  obtain ⟨hx, hb, hml, hown, hT, hrt, hlk, hK, hA, hG, hE⟩ := G
  exact va_get (ci := 3) (v := .ref (q 1)) (C := RX4) (T := TX4) (N := 6) hx hb hT i_X4 hown hK hP 0 rfl rfl 0 (by decide) (hT _ wfl_X4_14) (fun _ h9 => h9) rfl hdg k
theorem gt_X4_written {p : Program} {l : Launch} {e : Env} {R : Room} {s : State} {m : MethodId} {args : Array Value} {below : List Frame} {meth : Method} {c : Code} {H : Heap} {locs : List Loc} {cells slots : Nat} {Q : State → Prop} {D : va_G} {aK aV : Nat → Nat} {A : Nat → Prop} {cc : ByteArray} {nL : Nat} {ret : Option FieldType} {pc : Nat} {ls : Array Slot} {rest : List Value} {cB cI cJ : ClassId} {q : Nat → Nat} {σ : TSt} (G : CX p s m args meth c D (gTy cB cI cJ) aK aV A RX4 cc nL ret) (hP : va_P D vwCl (tW cB q σ) H) (hdg : decode cc pc = .ok (.getfield 18, 3)) (k : W p l e R s m args below meth c H locs cells slots Q (F0 m (pc + 3) ls (.ref (q 3) :: rest))) : W p l e R s m args below meth c H locs cells slots Q (F0 m pc ls (.ref (q 0) :: rest)) := by
  obtain ⟨hx, hb, hml, hown, hT, hrt, hlk, hK, hA, hG, hE⟩ := G
  exact va_get (ci := 3) (v := .ref (q 3)) (C := RX4) (T := TX4) (N := 6) hx hb hT i_X4 hown hK hP 0 rfl rfl 1 (by decide) (hT _ wfl_X4_18) (fun _ h9 => h9) rfl hdg k
theorem gt_X4_measure {p : Program} {l : Launch} {e : Env} {R : Room} {s : State} {m : MethodId} {args : Array Value} {below : List Frame} {meth : Method} {c : Code} {H : Heap} {locs : List Loc} {cells slots : Nat} {Q : State → Prop} {D : va_G} {aK aV : Nat → Nat} {A : Nat → Prop} {cc : ByteArray} {nL : Nat} {ret : Option FieldType} {pc : Nat} {ls : Array Slot} {rest : List Value} {cB cI cJ : ClassId} {q : Nat → Nat} {σ : TSt} (G : CX p s m args meth c D (gTy cB cI cJ) aK aV A RX4 cc nL ret) (hP : va_P D vwCl (tW cB q σ) H) (hdg : decode cc pc = .ok (.getfield 21, 3)) (k : W p l e R s m args below meth c H locs cells slots Q (F0 m (pc + 3) ls (.ref (q 5) :: rest))) : W p l e R s m args below meth c H locs cells slots Q (F0 m pc ls (.ref (q 0) :: rest)) := by
  obtain ⟨hx, hb, hml, hown, hT, hrt, hlk, hK, hA, hG, hE⟩ := G
  exact va_get (ci := 3) (v := .ref (q 5)) (C := RX4) (T := TX4) (N := 6) hx hb hT i_X4 hown hK hP 0 rfl rfl 2 (by decide) (hT _ wfl_X4_21) (fun _ h9 => h9) rfl hdg k
theorem gt_X4_depth {p : Program} {l : Launch} {e : Env} {R : Room} {s : State} {m : MethodId} {args : Array Value} {below : List Frame} {meth : Method} {c : Code} {H : Heap} {locs : List Loc} {cells slots : Nat} {Q : State → Prop} {D : va_G} {aK aV : Nat → Nat} {A : Nat → Prop} {cc : ByteArray} {nL : Nat} {ret : Option FieldType} {pc : Nat} {ls : Array Slot} {rest : List Value} {cB cI cJ : ClassId} {q : Nat → Nat} {σ : TSt} {v : Int32} (G : CX p s m args meth c D (gTy cB cI cJ) aK aV A RX4 cc nL ret) (hP : va_P D vwCl (tW cB q σ) H) (hdg : decode cc pc = .ok (.getfield 24, 3)) (hv : tf_depth σ = v) (k : W p l e R s m args below meth c H locs cells slots Q (F0 m (pc + 3) ls (.int v :: rest))) : W p l e R s m args below meth c H locs cells slots Q (F0 m pc ls (.ref (q 0) :: rest)) := by
  obtain ⟨hx, hb, hml, hown, hT, hrt, hlk, hK, hA, hG, hE⟩ := G
  subst hv
  exact va_get (ci := 3) (v := .int (tf_depth σ)) (C := RX4) (T := TX4) (N := 6) hx hb hT i_X4 hown hK hP 0 rfl rfl 3 (by decide) (hT _ wfl_X4_24) (fun _ h9 => h9) rfl hdg k
theorem pt_X4_depth {p : Program} {l : Launch} {e : Env} {R : Room} {s : State} {m : MethodId} {args : Array Value} {below : List Frame} {meth : Method} {c : Code} {H : Heap} {locs : List Loc} {cells slots : Nat} {Q : State → Prop} {D : va_G} {aK aV : Nat → Nat} {A : Nat → Prop} {cc : ByteArray} {nL : Nat} {ret : Option FieldType} {pc : Nat} {ls : Array Slot} {rest : List Value} {cB cI cJ : ClassId} {q : Nat → Nat} {σ : TSt} {v : Int32} (G : CX p s m args meth c D (gTy cB cI cJ) aK aV A RX4 cc nL ret) (hP : va_P D vwCl (tW cB q σ) H) (hD : va_D A (tW cB q σ)) (hS : va_S A s.heap H locs) (hdg : decode cc pc = .ok (.putfield 24, 3)) (k : ∀ (H1 : Heap) (locs1 : List Loc), va_P D vwCl (tW cB q (ts_depth σ v)) H1 → va_D A (tW cB q (ts_depth σ v)) → va_S A s.heap H1 locs1 → W p l e R s m args below meth c H1 locs1 cells slots Q (F0 m (pc + 3) ls rest)) : W p l e R s m args below meth c H locs cells slots Q (F0 m pc ls (.int v :: .ref (q 0) :: rest)) := by
  obtain ⟨hx, hb, hml, hown, hT, hrt, hlk, hK, hA, hG, hE⟩ := G
  exact va_put (ci := 3) (v := .int v) (ty := .int) (C := RX4) (T := TX4) (N := 6) hx hb hT i_X4 tyX4 tyX4_ok nmX4 hown hK hP hD hS 0 rfl rfl 3 (by decide) (hT _ wfl_X4_24) (fun _ h9 => h9) rfl (by decide +kernel) rfl rfl (Nat.le_of_ble_eq_true rfl) hdg k
theorem gt_X4_room {p : Program} {l : Launch} {e : Env} {R : Room} {s : State} {m : MethodId} {args : Array Value} {below : List Frame} {meth : Method} {c : Code} {H : Heap} {locs : List Loc} {cells slots : Nat} {Q : State → Prop} {D : va_G} {aK aV : Nat → Nat} {A : Nat → Prop} {cc : ByteArray} {nL : Nat} {ret : Option FieldType} {pc : Nat} {ls : Array Slot} {rest : List Value} {cB cI cJ : ClassId} {q : Nat → Nat} {σ : TSt} {v : Int32} (G : CX p s m args meth c D (gTy cB cI cJ) aK aV A RX4 cc nL ret) (hP : va_P D vwCl (tW cB q σ) H) (hdg : decode cc pc = .ok (.getfield 28, 3)) (hv : tf_room σ = v) (k : W p l e R s m args below meth c H locs cells slots Q (F0 m (pc + 3) ls (.int v :: rest))) : W p l e R s m args below meth c H locs cells slots Q (F0 m pc ls (.ref (q 0) :: rest)) := by
  obtain ⟨hx, hb, hml, hown, hT, hrt, hlk, hK, hA, hG, hE⟩ := G
  subst hv
  exact va_get (ci := 3) (v := .int (tf_room σ)) (C := RX4) (T := TX4) (N := 6) hx hb hT i_X4 hown hK hP 0 rfl rfl 4 (by decide) (hT _ wfl_X4_28) (fun _ h9 => h9) rfl hdg k
theorem pt_X4_room {p : Program} {l : Launch} {e : Env} {R : Room} {s : State} {m : MethodId} {args : Array Value} {below : List Frame} {meth : Method} {c : Code} {H : Heap} {locs : List Loc} {cells slots : Nat} {Q : State → Prop} {D : va_G} {aK aV : Nat → Nat} {A : Nat → Prop} {cc : ByteArray} {nL : Nat} {ret : Option FieldType} {pc : Nat} {ls : Array Slot} {rest : List Value} {cB cI cJ : ClassId} {q : Nat → Nat} {σ : TSt} {v : Int32} (G : CX p s m args meth c D (gTy cB cI cJ) aK aV A RX4 cc nL ret) (hP : va_P D vwCl (tW cB q σ) H) (hD : va_D A (tW cB q σ)) (hS : va_S A s.heap H locs) (hdg : decode cc pc = .ok (.putfield 28, 3)) (k : ∀ (H1 : Heap) (locs1 : List Loc), va_P D vwCl (tW cB q (ts_room σ v)) H1 → va_D A (tW cB q (ts_room σ v)) → va_S A s.heap H1 locs1 → W p l e R s m args below meth c H1 locs1 cells slots Q (F0 m (pc + 3) ls rest)) : W p l e R s m args below meth c H locs cells slots Q (F0 m pc ls (.int v :: .ref (q 0) :: rest)) := by
  obtain ⟨hx, hb, hml, hown, hT, hrt, hlk, hK, hA, hG, hE⟩ := G
  exact va_put (ci := 3) (v := .int v) (ty := .int) (C := RX4) (T := TX4) (N := 6) hx hb hT i_X4 tyX4 tyX4_ok nmX4 hown hK hP hD hS 0 rfl rfl 4 (by decide) (hT _ wfl_X4_28) (fun _ h9 => h9) rfl (by decide +kernel) rfl rfl (Nat.le_of_ble_eq_true rfl) hdg k
theorem gt_X4_faultPlace {p : Program} {l : Launch} {e : Env} {R : Room} {s : State} {m : MethodId} {args : Array Value} {below : List Frame} {meth : Method} {c : Code} {H : Heap} {locs : List Loc} {cells slots : Nat} {Q : State → Prop} {D : va_G} {aK aV : Nat → Nat} {A : Nat → Prop} {cc : ByteArray} {nL : Nat} {ret : Option FieldType} {pc : Nat} {ls : Array Slot} {rest : List Value} {cB cI cJ : ClassId} {q : Nat → Nat} {σ : TSt} {v : Int32} (G : CX p s m args meth c D (gTy cB cI cJ) aK aV A RX4 cc nL ret) (hP : va_P D vwCl (tW cB q σ) H) (hdg : decode cc pc = .ok (.getfield 31, 3)) (hv : tf_faultPlace σ = v) (k : W p l e R s m args below meth c H locs cells slots Q (F0 m (pc + 3) ls (.int v :: rest))) : W p l e R s m args below meth c H locs cells slots Q (F0 m pc ls (.ref (q 0) :: rest)) := by
  obtain ⟨hx, hb, hml, hown, hT, hrt, hlk, hK, hA, hG, hE⟩ := G
  subst hv
  exact va_get (ci := 3) (v := .int (tf_faultPlace σ)) (C := RX4) (T := TX4) (N := 6) hx hb hT i_X4 hown hK hP 0 rfl rfl 5 (by decide) (hT _ wfl_X4_31) (fun _ h9 => h9) rfl hdg k
theorem pt_X4_faultPlace {p : Program} {l : Launch} {e : Env} {R : Room} {s : State} {m : MethodId} {args : Array Value} {below : List Frame} {meth : Method} {c : Code} {H : Heap} {locs : List Loc} {cells slots : Nat} {Q : State → Prop} {D : va_G} {aK aV : Nat → Nat} {A : Nat → Prop} {cc : ByteArray} {nL : Nat} {ret : Option FieldType} {pc : Nat} {ls : Array Slot} {rest : List Value} {cB cI cJ : ClassId} {q : Nat → Nat} {σ : TSt} {v : Int32} (G : CX p s m args meth c D (gTy cB cI cJ) aK aV A RX4 cc nL ret) (hP : va_P D vwCl (tW cB q σ) H) (hD : va_D A (tW cB q σ)) (hS : va_S A s.heap H locs) (hdg : decode cc pc = .ok (.putfield 31, 3)) (k : ∀ (H1 : Heap) (locs1 : List Loc), va_P D vwCl (tW cB q (ts_faultPlace σ v)) H1 → va_D A (tW cB q (ts_faultPlace σ v)) → va_S A s.heap H1 locs1 → W p l e R s m args below meth c H1 locs1 cells slots Q (F0 m (pc + 3) ls rest)) : W p l e R s m args below meth c H locs cells slots Q (F0 m pc ls (.int v :: .ref (q 0) :: rest)) := by
  obtain ⟨hx, hb, hml, hown, hT, hrt, hlk, hK, hA, hG, hE⟩ := G
  exact va_put (ci := 3) (v := .int v) (ty := .int) (C := RX4) (T := TX4) (N := 6) hx hb hT i_X4 tyX4 tyX4_ok nmX4 hown hK hP hD hS 0 rfl rfl 5 (by decide) (hT _ wfl_X4_31) (fun _ h9 => h9) rfl (by decide +kernel) rfl rfl (Nat.le_of_ble_eq_true rfl) hdg k
theorem vT {p : Program} {l : Launch} {e : Env} {R : Room} {s : State} {m : MethodId} {args : Array Value} {below : List Frame} {meth : Method} {c : Code} {H : Heap} {locs : List Loc} {cells slots : Nat} {Q : State → Prop} {D : va_G} {aK aV : Nat → Nat} {A : Nat → Prop} {cc : ByteArray} {nL : Nat} {ret : Option FieldType} {pc : Nat} {ls : Array Slot} {rest : List Value} {cB cI cJ : ClassId} {q : Nat → Nat} {σ : TSt} {ov : Option Value} {y : MethodName} {bytes : ByteArray} {maxL n index : Nat} {ret' : Option FieldType} {rm : Room} {As : List Value} {τ : TSt} (G : CX p s m args meth c D (gTy cB cI cJ) aK aV A RX4 cc nL ret) (M : MV RX4 index RX4 y bytes maxL ret' n) (hM : CT l D (gTy cB cI cJ) aK aV y (wM y bytes maxL ret') rm 0 0 (.ref (q 0) :: As) (tW cB q σ) ov (tW cB q τ)) (hP : va_P D vwCl (tW cB q σ) H) (hD : va_D A (tW cB q σ)) (hS : va_S A s.heap H locs) (hrm : rm.cells = 0 ∧ rm.slots = 0 ∧ rm.frames + 1 ≤ R.frames ∧ 8 + (maxL + 11) + rm.locals ≤ R.locals) (hc : cells ≤ R.cells ∧ slots ≤ R.slots) (hA : As.length = n) (hls : ls.size = nL) (hst : (rest.map fun v => v.category).sum ≤ 8) (hdg : decode cc pc = .ok (.invokevirtual index, 3)) (k : ∀ (H1 : Heap) (locs1 : List Loc), va_P D vwCl (tW cB q τ) H1 → va_D A (tW cB q τ) → va_S A s.heap H1 locs1 → W p l e R s m args below meth c H1 locs1 cells slots Q (F0 m (pc + 3) ls (ov.toList ++ rest))) : W p l e R s m args below meth c H locs cells slots Q (F0 m pc ls (As.reverse ++ .ref (q 0) :: rest)) :=
  ct_v (wr := []) G M hM hP hD hS [0, 1, 2, 3, 4, 5, 6] [] rfl rfl rfl rfl (fun _ h => absurd h List.not_mem_nil) (ci := 3) (q0 := 0) rfl rfl rfl hrm hA hls hst hdg hc k
theorem vT_tape {p : Program} {l : Launch} {e : Env} {R : Room} {s : State} {m : MethodId} {args : Array Value} {below : List Frame} {meth : Method} {c : Code} {H : Heap} {locs : List Loc} {cells slots : Nat} {Q : State → Prop} {D : va_G} {aK aV : Nat → Nat} {A : Nat → Prop} {cc : ByteArray} {nL : Nat} {ret : Option FieldType} {pc : Nat} {ls : Array Slot} {rest : List Value} {cB cI cJ : ClassId} {q : Nat → Nat} {σ : TSt} {ov : Option Value} {y : MethodName} {bytes : ByteArray} {maxL n index : Nat} {ret' : Option FieldType} {rm : Room} {As : List Value} {τ τ0 : RSt} (G : CX p s m args meth c D (gTy cB cI cJ) aK aV A RX4 cc nL ret) (M : MV RX4 index RX3 y bytes maxL ret' n) (h0 : tf_tape σ = τ0) (hM : CT l D (gTy cB cI cJ) aK aV y (wM y bytes maxL ret') rm 0 0 (.ref (q 1) :: As) (rW cB (q 1) (q 2) 4000 τ0) ov (rW cB (q 1) (q 2) 4000 τ)) (hP : va_P D vwCl (tW cB q σ) H) (hD : va_D A (tW cB q σ)) (hS : va_S A s.heap H locs) (hrm : rm.cells = 0 ∧ rm.slots = 0 ∧ rm.frames + 1 ≤ R.frames ∧ 8 + (maxL + 11) + rm.locals ≤ R.locals) (hc : cells ≤ R.cells ∧ slots ≤ R.slots) (hA : As.length = n) (hls : ls.size = nL) (hst : (rest.map fun v => v.category).sum ≤ 8) (hdg : decode cc pc = .ok (.invokevirtual index, 3)) (k : ∀ (H1 : Heap) (locs1 : List Loc), va_P D vwCl (tW cB q (ts_tape σ τ)) H1 → va_D A (tW cB q (ts_tape σ τ)) → va_S A s.heap H1 locs1 → W p l e R s m args below meth c H1 locs1 cells slots Q (F0 m (pc + 3) ls (ov.toList ++ rest))) : W p l e R s m args below meth c H locs cells slots Q (F0 m pc ls (As.reverse ++ .ref (q 1) :: rest)) := by
  subst h0
  exact ct_v (wr := [(tW cB q σ).getD 0 (0, .inr (0, [])), (tW cB q σ).getD 3 (0, .inr (0, [])), (tW cB q σ).getD 4 (0, .inr (0, [])), (tW cB q σ).getD 5 (0, .inr (0, [])), (tW cB q σ).getD 6 (0, .inr (0, []))]) G M hM hP hD hS [1, 2] [0, 3, 4, 5, 6] rfl rfl rfl rfl (by decide) (ci := 2) (q0 := 1) rfl rfl rfl hrm hA hls hst hdg hc (fun H1 l1 hP hD hS => k H1 l1 (hP.sub [0, 5, 6, 1, 2, 3, 4] rfl) (hD.sub [0, 5, 6, 1, 2, 3, 4] rfl rfl) hS)
theorem vT_written {p : Program} {l : Launch} {e : Env} {R : Room} {s : State} {m : MethodId} {args : Array Value} {below : List Frame} {meth : Method} {c : Code} {H : Heap} {locs : List Loc} {cells slots : Nat} {Q : State → Prop} {D : va_G} {aK aV : Nat → Nat} {A : Nat → Prop} {cc : ByteArray} {nL : Nat} {ret : Option FieldType} {pc : Nat} {ls : Array Slot} {rest : List Value} {cB cI cJ : ClassId} {q : Nat → Nat} {σ : TSt} {ov : Option Value} {y : MethodName} {bytes : ByteArray} {maxL n index : Nat} {ret' : Option FieldType} {rm : Room} {As : List Value} {τ τ0 : RSt} (G : CX p s m args meth c D (gTy cB cI cJ) aK aV A RX4 cc nL ret) (M : MV RX4 index RX3 y bytes maxL ret' n) (h0 : tf_written σ = τ0) (hM : CT l D (gTy cB cI cJ) aK aV y (wM y bytes maxL ret') rm 0 0 (.ref (q 3) :: As) (rW cB (q 3) (q 4) 6000 τ0) ov (rW cB (q 3) (q 4) 6000 τ)) (hP : va_P D vwCl (tW cB q σ) H) (hD : va_D A (tW cB q σ)) (hS : va_S A s.heap H locs) (hrm : rm.cells = 0 ∧ rm.slots = 0 ∧ rm.frames + 1 ≤ R.frames ∧ 8 + (maxL + 11) + rm.locals ≤ R.locals) (hc : cells ≤ R.cells ∧ slots ≤ R.slots) (hA : As.length = n) (hls : ls.size = nL) (hst : (rest.map fun v => v.category).sum ≤ 8) (hdg : decode cc pc = .ok (.invokevirtual index, 3)) (k : ∀ (H1 : Heap) (locs1 : List Loc), va_P D vwCl (tW cB q (ts_written σ τ)) H1 → va_D A (tW cB q (ts_written σ τ)) → va_S A s.heap H1 locs1 → W p l e R s m args below meth c H1 locs1 cells slots Q (F0 m (pc + 3) ls (ov.toList ++ rest))) : W p l e R s m args below meth c H locs cells slots Q (F0 m pc ls (As.reverse ++ .ref (q 3) :: rest)) := by
  subst h0
  exact ct_v (wr := [(tW cB q σ).getD 0 (0, .inr (0, [])), (tW cB q σ).getD 1 (0, .inr (0, [])), (tW cB q σ).getD 2 (0, .inr (0, [])), (tW cB q σ).getD 5 (0, .inr (0, [])), (tW cB q σ).getD 6 (0, .inr (0, []))]) G M hM hP hD hS [3, 4] [0, 1, 2, 5, 6] rfl rfl rfl rfl (by decide) (ci := 2) (q0 := 3) rfl rfl rfl hrm hA hls hst hdg hc (fun H1 l1 hP hD hS => k H1 l1 (hP.sub [0, 1, 2, 5, 6, 3, 4] rfl) (hD.sub [0, 1, 2, 5, 6, 3, 4] rfl rfl) hS)
theorem vT_measure {p : Program} {l : Launch} {e : Env} {R : Room} {s : State} {m : MethodId} {args : Array Value} {below : List Frame} {meth : Method} {c : Code} {H : Heap} {locs : List Loc} {cells slots : Nat} {Q : State → Prop} {D : va_G} {aK aV : Nat → Nat} {A : Nat → Prop} {cc : ByteArray} {nL : Nat} {ret : Option FieldType} {pc : Nat} {ls : Array Slot} {rest : List Value} {cB cI cJ : ClassId} {q : Nat → Nat} {σ : TSt} {ov : Option Value} {y : MethodName} {bytes : ByteArray} {maxL n index : Nat} {ret' : Option FieldType} {rm : Room} {As : List Value} {τ τ0 : RSt} (G : CX p s m args meth c D (gTy cB cI cJ) aK aV A RX4 cc nL ret) (M : MV RX4 index RX3 y bytes maxL ret' n) (h0 : tf_measure σ = τ0) (hM : CT l D (gTy cB cI cJ) aK aV y (wM y bytes maxL ret') rm 0 0 (.ref (q 5) :: As) (rW cB (q 5) (q 6) 0 τ0) ov (rW cB (q 5) (q 6) 0 τ)) (hP : va_P D vwCl (tW cB q σ) H) (hD : va_D A (tW cB q σ)) (hS : va_S A s.heap H locs) (hrm : rm.cells = 0 ∧ rm.slots = 0 ∧ rm.frames + 1 ≤ R.frames ∧ 8 + (maxL + 11) + rm.locals ≤ R.locals) (hc : cells ≤ R.cells ∧ slots ≤ R.slots) (hA : As.length = n) (hls : ls.size = nL) (hst : (rest.map fun v => v.category).sum ≤ 8) (hdg : decode cc pc = .ok (.invokevirtual index, 3)) (k : ∀ (H1 : Heap) (locs1 : List Loc), va_P D vwCl (tW cB q (ts_measure σ τ)) H1 → va_D A (tW cB q (ts_measure σ τ)) → va_S A s.heap H1 locs1 → W p l e R s m args below meth c H1 locs1 cells slots Q (F0 m (pc + 3) ls (ov.toList ++ rest))) : W p l e R s m args below meth c H locs cells slots Q (F0 m pc ls (As.reverse ++ .ref (q 5) :: rest)) := by
  subst h0
  exact ct_v (wr := [(tW cB q σ).getD 0 (0, .inr (0, [])), (tW cB q σ).getD 1 (0, .inr (0, [])), (tW cB q σ).getD 2 (0, .inr (0, [])), (tW cB q σ).getD 3 (0, .inr (0, [])), (tW cB q σ).getD 4 (0, .inr (0, []))]) G M hM hP hD hS [5, 6] [0, 1, 2, 3, 4] rfl rfl rfl rfl (by decide) (ci := 2) (q0 := 5) rfl rfl rfl hrm hA hls hst hdg hc (fun H1 l1 hP hD hS => k H1 l1 (hP.sub [0, 1, 2, 3, 4, 5, 6] rfl) (hD.sub [0, 1, 2, 3, 4, 5, 6] rfl rfl) hS)

def cz {α : Type} (y : Int64) (k : Option α) : Option α := if y = 0 then none else k
theorem cz_some {α : Type} {y : Int64} {k : Option α} {r : α} (h : cz y k = some r) : ¬ y = 0 ∧ k = some r := by
  unfold cz at h
  by_cases c : y = 0
  · rw [if_pos c] at h; cases h
  · rw [if_neg c] at h; exact ⟨c, h⟩
section G0
variable {p : Program} {l : Launch} {e : Env} {R : Room} {s : State} {m : MethodId} {args : Array Value} {below : List Frame} {meth : Method} {c : Code} {H : Heap} {locs : List Loc} {cells slots : Nat} {Q : State → Prop}
variable {D : va_G} {tys : List (ClassId × FieldType)} {aK aV : Nat → Nat} {A : Nat → Prop} {own : String} {cc : ByteArray} {nL : Nat} {ret : Option FieldType} {pc : Nat} {ls : Array Slot} {w : va_W} {ov : Option Value} {y : MethodName} {bytes : ByteArray} {maxL n index : Nat} {ret' : Option FieldType} {rm : Room} {As rest : List Value} {b : Nat}
/-- behind a call of a method that has no world: nothing has changed -/
theorem ct_go0 {av : Array Value} {st0 : List Value} (G : CX p s m args meth c D tys aK aV A own cc nL ret) (hP : va_P D vwCl w H) (hS : va_S A s.heap H locs)
    (hr : va_Run p l e R s m args below meth c H locs cells slots 0 0 (F0 m pc ls st0) rest (cQ D tys (va_A [] H.size) [] ov av) (va_A [] H.size))
    (kk : ∀ (H1 : Heap) (locs1 : List Loc), va_P D vwCl w H1 → va_S A s.heap H1 locs1 → W p l e R s m args below meth c H1 locs1 cells slots Q (F0 m (pc + 3) ls (ov.toList ++ rest))) : W p l e R s m args below meth c H locs cells slots Q (F0 m pc ls st0) := by
  obtain ⟨hx, hb, hml, hown, hT, hrt, hlk, hK, hA, hG, hE⟩ := G
  have hnA : ∀ q : Nat, q < H.size → ¬ va_A [] H.size q := by
    intro q hq h
    rcases h with ⟨k, e, h⟩ | h
    · simp at h
    · omega
  intro T hT X
  obtain ⟨v, st₀, t, T', L, h0, X', hL, e1, e2, ⟨⟨hv, hP1, hK1, hD1⟩, hz, hk⟩, st⟩ := hr T hT X
  cases hv
  rw [h0] at hz hk
  rw [← e1] at hz hk
  obtain ⟨t2, a1, b1⟩ := kk T'.heap (locs ++ L) (fun k q hq => (hP k q hq).kept (hk q.1 (hP k q hq).lt (hnA _ (hP k q hq).lt))) ⟨Nat.le_trans hS.1 hz, fun q h1 h2 => by rw [hk q (Nat.lt_of_lt_of_le h1 hS.1) (hnA q (Nat.lt_of_lt_of_le h1 hS.1))]; exact hS.2.1 q h1 h2, fun q hq => by
      rcases List.mem_append.mp hq with h | h
      · exact hS.2.2 q h
      · rcases hL q h with ⟨k, e, h⟩ | h
        · simp at h
        · exact hA _ (Nat.le_trans hS.1 h)⟩ T' rfl X'
  exact ⟨t2, st t2 a1, b1⟩
theorem ct_s0 (G : CX p s m args meth c D tys aK aV A own cc nL ret) (M : MS0 own index y bytes maxL ret' n) (hM : CT l D tys aK aV y (wM y bytes maxL ret') rm 0 0 As [] ov []) (hP : va_P D vwCl w H) (hD : va_D A w) (hS : va_S A s.heap H locs)
    (hrm : rm.cells = 0 ∧ rm.slots = 0 ∧ rm.frames + 1 ≤ R.frames ∧ 8 + (maxL + 11) + rm.locals ≤ R.locals) (hc : cells ≤ R.cells ∧ slots ≤ R.slots) (hA : As.length = n) (hls : ls.size = nL) (hst : (rest.map fun v => v.category).sum ≤ 8) (hdg : decode cc pc = .ok (.invokestatic index, 3))
    (kk : ∀ (H1 : Heap) (locs1 : List Loc), va_P D vwCl w H1 → va_S A s.heap H1 locs1 → W p l e R s m args below meth c H1 locs1 cells slots Q (F0 m (pc + 3) ls (ov.toList ++ rest))) : W p l e R s m args below meth c H locs cells slots Q (F0 m pc ls (As.reverse ++ rest)) := by
  have hp := ct_pre (wc := []) G hP hD hS [] rfl rfl As
  obtain ⟨hx, hb, hml, hown, hT, hrt, hlk, hK, hAA, hG, hE⟩ := id G
  have cw : CallB R s args own index y bytes maxL ret' (wM y bytes maxL ret') rm 0 0 n ∧ (Cond.static y).before args s = true := by
    obtain ⟨M1, M2⟩ := M
    refine cwS (Ts := wT) n hT ?_ rfl hrm.1 hrm.2.1 M2 hrm.2.2
    intro w hw
    have hw1 : w ∈ wT := by
      rcases List.mem_append.mp hw with h | h
      · exact M1 w (by simp only [List.mem_cons, List.not_mem_nil, or_false] at h ⊢; rcases h with h | h | h <;> simp [h])
      · rcases List.mem_cons.mp h with h | h
        · exact M1 w (by simp [h])
        · exact h
    exact ⟨hw1, wT_self w hw1⟩
  exact ct_go0 G hP hS (va_runS (Ts := wT) (g := F0 m pc ls (As.reverse ++ rest)) (rest := rest) ⟨hx, hb, hml, hown, hT⟩ (hM H.size) cw hp rfl hA hls rfl (lv_room hst) hdg hc) kk
theorem ct_sn0 (G : CX p s m args meth c D tys aK aV A own cc nL ret) (M : MN own index y bytes maxL ret' n) (hM : CT l D tys aK aV y (wM y bytes maxL ret') rm 0 0 As [] ov []) (hP : va_P D vwCl w H) (hD : va_D A w) (hS : va_S A s.heap H locs)
    (hrm : rm.cells = 0 ∧ rm.slots = 0 ∧ rm.frames + 1 ≤ R.frames ∧ 8 + (maxL + 11) + rm.locals ≤ R.locals) (hc : cells ≤ R.cells ∧ slots ≤ R.slots) (hA : As.length = n) (hls : ls.size = nL) (hst : (rest.map fun v => v.category).sum ≤ 8) (hdg : decode cc pc = .ok (.invokestatic index, 3))
    (kk : ∀ (H1 : Heap) (locs1 : List Loc), va_P D vwCl w H1 → va_S A s.heap H1 locs1 → W p l e R s m args below meth c H1 locs1 cells slots Q (F0 m (pc + 3) ls (ov.toList ++ rest))) : W p l e R s m args below meth c H locs cells slots Q (F0 m pc ls (As.reverse ++ rest)) := by
  have hp := ct_pre (wc := []) G hP hD hS [] rfl rfl As
  obtain ⟨hx, hb, hml, hown, hT, hrt, hlk, hK, hAA, hG, hE⟩ := id G
  obtain ⟨M1, M2, M3⟩ := M
  have cw : va_CN R s args own index y "TextBridge" bytes maxL ret' (wM y bytes maxL ret') rm 0 0 n := by
    refine va_cnB (Ts := wT) n hT ?_ rfl hrm.1 hrm.2.1 (hG.2 _ M3) (hT _ (M1 _ (by simp))) M2 hrm.2.2
    intro w hw
    have hw1 : w ∈ wT := by
      rcases List.mem_cons.mp hw with h | h
      · exact M1 w (by simp [h])
      · exact h
    exact ⟨hw1, wT_self w hw1⟩
  exact ct_go0 G hP hS (va_runSN (Ts := wT) (g := F0 m pc ls (As.reverse ++ rest)) (rest := rest) ⟨hx, hb, hml, hown, hT⟩ (hM H.size) ⟨cw, hT _ (M1 _ (by simp)), trivial⟩ hp rfl hA hls rfl (lv_room hst) hdg hc) kk
end G0
