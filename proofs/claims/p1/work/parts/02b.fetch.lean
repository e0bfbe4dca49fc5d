theorem z_gd {α : Type} {n pc : Nat} {x : Option α} {q : α} (h : cond (Nat.ble n pc) none x = some q) : pc < n ∧ x = some q := by
  cases hb : Nat.ble n pc with
  | true => rw [hb] at h; cases h
  | false =>
    rw [hb] at h
    refine ⟨Nat.not_le.mp fun hle => ?_, h⟩
    rw [Nat.ble_eq_true_of_le hle] at hb
    cases hb
theorem z_ck {f : Nat → Option (Jvm.ClassFile.Instr × Nat)} {cc : ByteArray} {a n pc : Nat} {q : Jvm.ClassFile.Instr × Nat} (hl : (List.range' a n).all (fun pc => match f pc with | some q => decide (decode cc pc = .ok q) | none => true) = true) (h1 : a ≤ pc) (h2 : pc < a + n) (h : f pc = some q) : decode cc pc = .ok q := by
  have h3 := List.all_eq_true.mp hl pc (List.mem_range'_1.mpr ⟨h1, h2⟩)
  rw [h] at h3
  exact of_decide_eq_true h3
