/-! rules of the small machine -/
theorem mj_run_succ {n y pc : Nat} {L : mjL} {st : List Value} {w : mjW} {c q : Nat} : mj_run (n + 1) y pc L st w c q =
    match mj_code y pc with
    | none => none
    | some e => if mj_op e = 0 then (match mj_sim y pc e L st w c q with
        | none => none
        | some C => mj_run n y C.1 C.2.1 C.2.2.1 C.2.2.2.1 C.2.2.2.2.1 C.2.2.2.2.2)
      else if mj_op e = 1 then mj_rtn y e st w
      else match mj_call e st w with
        | none => none
        | some ar =>
          if mj_cok y e.2.2.2.1 L ar.1 ar.2 w c q = true then
            match mj_run n e.2.2.2.1 0 (mj_entry e.2.2.2.1 ar.1) [] w 0 0 with
            | none => none
            | some wr => mj_run n y (pc + 3) L (wr.2.toList ++ ar.2) wr.1 (c + mj_mc e.2.2.2.1) (q + mj_ms e.2.2.2.1)
          else none := rfl
theorem mj_run_mono : ∀ (n y pc : Nat) (L : mjL) (st : List Value) (w : mjW) (c q : Nat) (x : mjW × Option Value), mj_run n y pc L st w c q = some x → mj_run (n + 1) y pc L st w c q = some x := by
  intro n
  induction n with
  | zero => intro y pc L st w c q x h; cases h
  | succ n ih =>
    intro y pc L st w c q x h
    rw [mj_run_succ] at h ⊢
    cases hc : mj_code y pc with
    | none => rw [hc] at h; cases h
    | some e =>
      rw [hc] at h
      try dsimp only at h ⊢
      by_cases ho : mj_op e = 0
      · rw [if_pos ho] at h ⊢
        cases hC : mj_sim y pc e L st w c q with
        | none => rw [hC] at h; cases h
        | some C => rw [hC] at h; exact ih _ _ _ _ _ _ _ _ h
      rw [if_neg ho] at h ⊢
      by_cases ho1 : mj_op e = 1
      · rw [if_pos ho1] at h ⊢
        exact h
      · rw [if_neg ho1] at h ⊢
        cases hC : mj_call e st w with
        | none => rw [hC] at h; cases h
        | some ar =>
          rw [hC] at h
          try dsimp only at h ⊢
          split at h
          · next hk =>
            rw [if_pos hk]
            cases hR : mj_run n e.2.2.2.1 0 (mj_entry e.2.2.2.1 ar.1) [] w 0 0 with
            | none => rw [hR] at h; cases h
            | some wr =>
              rw [hR] at h
              rw [ih _ _ _ _ _ _ _ _ hR]
              exact ih _ _ _ _ _ _ _ _ h
          · cases h
theorem mj_run_add {n y pc : Nat} {L : mjL} {st : List Value} {w : mjW} {c q : Nat} {x : mjW × Option Value} (h : mj_run n y pc L st w c q = some x) : ∀ k : Nat, mj_run (n + k) y pc L st w c q = some x
  | 0 => h
  | k + 1 => mj_run_mono _ _ _ _ _ _ _ _ _ (mj_run_add h k)
theorem mj_run_le {n m y pc : Nat} {L : mjL} {st : List Value} {w : mjW} {c q : Nat} {x : mjW × Option Value} (h : mj_run n y pc L st w c q = some x) (hm : n ≤ m) : mj_run m y pc L st w c q = some x := by
  have := mj_run_add h (m - n)
  rwa [show n + (m - n) = m by omega] at this
def mj_Go (y pc : Nat) (L : mjL) (st : List Value) (w w' : mjW) (r : Option Value) : Prop := ∃ n, mj_run n y pc L st w 0 0 = some (w', r)
def mj_Ev (z : Nat) (as : List Value) (w w' : mjW) (r : Option Value) : Prop := mj_Go z 0 (mj_entry z as) [] w w' r
noncomputable def mj_steps : Nat → Nat → mjC → Option mjC
  | 0, _, C => some C
  | n + 1, y, (pc, L, st, w, c, q) => match mj_code y pc with
    | none => none
    | some e => if mj_op e = 0 then (match mj_sim y pc e L st w c q with
        | none => none
        | some C => mj_steps n y C) else none
theorem mj_run_steps : ∀ (k n y : Nat) (C C' : mjC), mj_steps k y C = some C' → mj_run (n + k) y C.1 C.2.1 C.2.2.1 C.2.2.2.1 C.2.2.2.2.1 C.2.2.2.2.2 = mj_run n y C'.1 C'.2.1 C'.2.2.1 C'.2.2.2.1 C'.2.2.2.2.1 C'.2.2.2.2.2 := by
  intro k
  induction k with
  | zero => intro n y C C' h; cases h; rfl
  | succ k ih =>
    intro n y C C' h
    obtain ⟨pc, L, st, w, c, q⟩ := C
    rw [show n + (k + 1) = (n + k) + 1 by omega, mj_run_succ]
    unfold mj_steps at h
    cases hc : mj_code y pc with
    | none => rw [hc] at h; cases h
    | some e =>
      rw [hc] at h
      try dsimp only at h ⊢
      by_cases ho : mj_op e = 0
      · rw [if_pos ho] at h ⊢
        cases hC : mj_sim y pc e L st w c q with
        | none => rw [hC] at h; cases h
        | some C => rw [hC] at h; exact ih _ _ _ _ h
      · rw [if_neg ho] at h
        cases h
section GO
variable {y pc pc' : Nat} {L L' : mjL} {st st' : List Value} {w w1 w' : mjW} {r r1 : Option Value}
theorem mj_go (k : Nat) (h : mj_steps k y (pc, L, st, w, 0, 0) = some (pc', L', st', w1, 0, 0)) (g : mj_Go y pc' L' st' w1 w' r) : mj_Go y pc L st w w' r := by
  obtain ⟨n, hn⟩ := g
  exact ⟨n + k, by rw [mj_run_steps k n y _ _ h]; exact hn⟩
theorem mj_if {cd : Prop} [Decidable cd] {t f : Nat} (h1 : cd → mj_Go y t L st w w' r) (h2 : ¬ cd → mj_Go y f L st w w' r) : mj_Go y (if cd then t else f) L st w w' r := by
  by_cases h : cd
  · rw [if_pos h]; exact h1 h
  · rw [if_neg h]; exact h2 h
theorem mj_ret1 {e : mjE} (hc : mj_code y pc = some e) (ho : mj_op e = 1) (h : mj_rtn y e st w = some (w', r)) : mj_Go y pc L st w w' r := by
  refine ⟨1, ?_⟩
  rw [mj_run_succ, hc]
  try dsimp only
  rw [if_neg (by omega), if_pos ho]
  exact h
theorem mj_step1 {e : mjE} {C : mjC} (hc : mj_code y pc = some e) (ho : mj_op e = 0) (h : mj_sim y pc e L st w 0 0 = some C) (h0 : C.2.2.2.2 = (0, 0)) (g : mj_Go y C.1 C.2.1 C.2.2.1 C.2.2.2.1 w' r) : mj_Go y pc L st w w' r := by
  obtain ⟨n, hn⟩ := g
  refine ⟨n + 1, ?_⟩
  rw [mj_run_succ, hc]
  try dsimp only
  rw [if_pos ho, h]
  obtain ⟨a1, a2, a3, a4, a5, a6⟩ := C
  cases h0
  exact hn
theorem mj_callE {e : mjE} {z : Nat} {as rest : List Value} (hc : mj_code y pc = some e) (ho : mj_op e = 2) (hz : e.2.2.2.1 = z) (ha : mj_call e st w = some (as, rest)) (hk : mj_cok y z L as rest w 0 0 = true) (hm : mj_mc z = 0 ∧ mj_ms z = 0) (ev : mj_Ev z as w w1 r1)
    (g : mj_Go y (pc + 3) L (r1.toList ++ rest) w1 w' r) : mj_Go y pc L st w w' r := by
  subst hz
  obtain ⟨n1, h1⟩ := ev
  obtain ⟨n2, h2⟩ := g
  refine ⟨(n1 + n2) + 1, ?_⟩
  rw [mj_run_succ, hc]
  try dsimp only
  rw [if_neg (by omega), if_neg (by omega), ha]
  try dsimp only
  rw [if_pos hk, mj_run_le h1 (by omega)]
  try dsimp only
  rw [hm.1, hm.2]
  exact mj_run_le h2 (by omega)
end GO
