/-! the tables say what the claim's bytes and words say -/
noncomputable def mj_chk (y : Nat) (f : Nat → Option mjE) (len : Nat) : Bool := (List.range len).all fun pc => match f pc with
  | some e => mj_ok y pc e
  | none => true
theorem mj_chk_spec {y len : Nat} {f : Nat → Option mjE} (h : mj_chk y f len = true) (hf : ∀ pc, Nat.ble len pc = true → f pc = none) : ∀ pc e, f pc = some e → mj_ok y pc e = true := by
  intro pc e he
  by_cases hl : pc < len
  · have := List.all_eq_true.mp h pc (List.mem_range.mpr hl)
    rw [he] at this
    exact this
  · rw [hf pc (Nat.ble_eq_true_of_le (Nat.le_of_not_lt hl))] at he
    cases he
theorem mj_cs {α : Type} {b : Bool} {f g : α} {P : α → Prop} (h1 : b = true → P f) (h2 : b = false → P g) : P (bif b then f else g) := by
  cases b
  · exact h2 rfl
  · exact h1 rfl
theorem mj_bf {b : Bool} {x : Option mjE} (h : b = true) : (bif b then none else x) = none := by rw [h]; rfl
theorem mjk_0 : mj_chk 0 mjc_0 21 = true := by decide +kernel
theorem mjk_1 : mj_chk 1 mjc_1 39 = true := by decide +kernel
theorem mjk_2 : mj_chk 2 mjc_2 35 = true := by decide +kernel
theorem mjk_3 : mj_chk 3 mjc_3 12 = true := by decide +kernel
theorem mjk_4 : mj_chk 4 mjc_4 32 = true := by decide +kernel
theorem mjk_5 : mj_chk 5 mjc_5 37 = true := by decide +kernel
theorem mjk_6 : mj_chk 6 mjc_6 47 = true := by decide +kernel
theorem mjk_7 : mj_chk 7 mjc_7 104 = true := by decide +kernel
theorem mjk_8 : mj_chk 8 mjc_8 45 = true := by decide +kernel
theorem mjk_9 : mj_chk 9 mjc_9 96 = true := by decide +kernel
theorem mjk_10 : mj_chk 10 mjc_10 22 = true := by decide +kernel
theorem mjk_11 : mj_chk 11 mjc_11 70 = true := by decide +kernel
theorem mjk_12 : mj_chk 12 mjc_12 24 = true := by decide +kernel
theorem mjk_13 : mj_chk 13 mjc_13 7 = true := by decide +kernel
theorem mjk_14 : mj_chk 14 mjc_14 7 = true := by decide +kernel
theorem mjk_15 : mj_chk 15 mjc_15 7 = true := by decide +kernel
theorem mjk_16 : mj_chk 16 mjc_16 10 = true := by decide +kernel
theorem mjk_17 : mj_chk 17 mjc_17 21 = true := by decide +kernel
theorem mjk_18 : mj_chk 18 mjc_18 28 = true := by decide +kernel
theorem mjk_19 : mj_chk 19 mjc_19 48 = true := by decide +kernel
theorem mjk_20 : mj_chk 20 mjc_20 18 = true := by decide +kernel
theorem mjk_21 : mj_chk 21 mjc_21 27 = true := by decide +kernel
theorem mjk_22 : mj_chk 22 mjc_22 37 = true := by decide +kernel
theorem mjk_23 : mj_chk 23 mjc_23 54 = true := by decide +kernel
theorem mjk_24 : mj_chk 24 mjc_24 31 = true := by decide +kernel
theorem mjk_25 : mj_chk 25 mjc_25 43 = true := by decide +kernel
theorem mjk_26 : mj_chk 26 mjc_26 57 = true := by decide +kernel
theorem mj_moks0 : (List.range 27).all (fun z => mj_mok (0 + z)) = true := by decide +kernel
theorem mj_mokz0 : ∀ z, 0 ≤ z → z < 27 → mj_mok z = true := fun z h1 h2 => by have := List.all_eq_true.mp mj_moks0 (z - 0) (List.mem_range.mpr (by omega)); rwa [show 0 + (z - 0) = z by omega] at this
