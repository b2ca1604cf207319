/-! the class's readers of an office -/
theorem sitL_some {O : Off} {c p : Nat} : ∀ {q}, sitL O c q = p + 1 → p < q ∧ O.chair p = c
  | 0, h => by cases h
  | q + 1, h => by
    unfold sitL at h
    by_cases e : O.chair q = c
    · rw [if_pos e] at h
      obtain rfl : q = p := by omega
      exact ⟨by omega, e⟩
    · rw [if_neg e] at h
      have := sitL_some h
      exact ⟨by omega, this.2⟩
theorem sitL_none {O : Off} {c : Nat} : ∀ {q}, sitL O c q = 0 → ∀ p, p < q → O.chair p ≠ c
  | 0, _, p, hp => absurd hp (by omega)
  | q + 1, h, p, hp => by
    unfold sitL at h
    by_cases e : O.chair q = c
    · rw [if_pos e] at h; omega
    · rw [if_neg e] at h
      by_cases e2 : p = q
      · rw [e2]; exact e
      · exact sitL_none h p (by omega)
theorem sitr_at {O : Off} (hV : VO O) {p : Nat} (hp : p < O.n) : sitr O (O.chair p) = p + 1 := by
  rcases Nat.eq_zero_or_pos (sitr O (O.chair p)) with h | h
  · exact absurd rfl (sitL_none h p hp)
  · obtain ⟨s, hs⟩ : ∃ s, sitr O (O.chair p) = s + 1 := ⟨sitr O (O.chair p) - 1, by omega⟩
    have := sitL_some hs
    rw [hs, hV.inj s p this.1 hp this.2]
theorem sitr_le (O : Off) (c : Nat) : sitr O c ≤ O.n := sitL_le O c O.n
theorem sitr_iff {O : Off} (hV : VO O) {c p : Nat} : sitr O c = p + 1 ↔ p < O.n ∧ O.chair p = c :=
  ⟨fun h => sitL_some h, fun h => by rw [← h.2]; exact sitr_at hV h.1⟩
/-- a stronger one on the chair c - 1, if it is one and not dry; none 0 -/
def stN (O : Off) (p c : Nat) : Nat := if c = 0 ∨ 9 ≤ c then 0 else if bitN O.dry (c - 1) = 1 then 0 else if sitr O (c - 1) ≠ 0 ∧ O.str p < O.str (sitr O (c - 1) - 1) then sitr O (c - 1) else 0
theorem stN_le (O : Off) (p c : Nat) : stN O p c ≤ O.n := by
  have := sitr_le O (c - 1)
  unfold stN; split
  · omega
  · split
    · omega
    · split <;> omega
theorem stN_iff {O : Off} (hV : VO O) {p c q : Nat} : stN O p c = q + 1 ↔ q < O.n ∧ O.chair q + 1 = c ∧ bitN O.dry (O.chair q) = 0 ∧ O.str p < O.str q := by
  have hb := bitN_lt O.dry (c - 1)
  unfold stN
  constructor
  · intro h
    by_cases h1 : c = 0 ∨ 9 ≤ c
    · rw [if_pos h1] at h; omega
    rw [if_neg h1] at h
    by_cases h2 : bitN O.dry (c - 1) = 1
    · rw [if_pos h2] at h; omega
    rw [if_neg h2] at h
    by_cases h3 : sitr O (c - 1) ≠ 0 ∧ O.str p < O.str (sitr O (c - 1) - 1)
    · rw [if_pos h3] at h
      have h4 := (sitr_iff hV).mp h
      rw [h, Nat.add_sub_cancel] at h3
      rw [h4.2]
      exact ⟨h4.1, by omega, by omega, h3.2⟩
    · rw [if_neg h3] at h; omega
  · rintro ⟨h1, h2, h3, h4⟩
    have hc := hV.chair q h1
    have e : c - 1 = O.chair q := by omega
    rw [if_neg (by omega), e, if_neg (by omega), sitr_at hV h1, if_pos ⟨by omega, by rw [Nat.add_sub_cancel]; exact h4⟩]
theorem may_iff {O : Off} (hV : VO O) {p q : Nat} (hq : q < O.n) : mayN O p q ↔ stN O p (O.chair p) = q + 1 ∨ stN O p (O.chair p + 2) = q + 1 := by
  rw [stN_iff hV, stN_iff hV]
  constructor
  · rintro ⟨h1 | h1, h2, h3⟩
    · exact Or.inr ⟨hq, by omega, h2, h3⟩
    · exact Or.inl ⟨hq, by omega, h2, h3⟩
  · rintro (⟨_, h1, h2, h3⟩ | ⟨_, h1, h2, h3⟩)
    · exact ⟨Or.inr (by omega), h2, h3⟩
    · exact ⟨Or.inl (by omega), h2, h3⟩
theorem looks_char (O : Off) (p : Nat) : ∀ q, (looksN O p q = 0 → ∀ j, j < q → ¬ mayN O p j) ∧ (∀ m, looksN O p q = m + 1 → m < q ∧ mayN O p m ∧ ∀ j, j < q → mayN O p j → O.str j < O.str m ∨ (O.str j = O.str m ∧ m ≤ j))
  | 0 => ⟨fun _ j h => absurd h (by omega), fun m h => by cases h⟩
  | q + 1 => by
    obtain ⟨i1, i2⟩ := looks_char O p q
    unfold looksN
    by_cases hc : mayN O p q ∧ (looksN O p q = 0 ∨ O.str (looksN O p q - 1) < O.str q)
    · rw [if_pos hc]
      refine ⟨fun h => absurd h (by omega), fun m h => ?_⟩
      obtain rfl : q = m := by omega
      refine ⟨by omega, hc.1, fun j hj hm => ?_⟩
      by_cases e : j = q
      · subst e; exact Or.inr ⟨rfl, Nat.le_refl _⟩
      · rcases hc.2 with h0 | h0
        · exact absurd hm (i1 h0 j (by omega))
        · rcases Nat.eq_zero_or_pos (looksN O p q) with z | z
          · exact absurd hm (i1 z j (by omega))
          · have := (i2 (looksN O p q - 1) (by omega)).2.2 j (by omega) hm
            omega
    · rw [if_neg hc]
      refine ⟨fun h j hj hm => ?_, fun m h => ?_⟩
      · by_cases e : j = q
        · subst e; exact hc ⟨hm, Or.inl h⟩
        · exact i1 h j (by omega) hm
      · obtain ⟨h1, h2, h3⟩ := i2 m h
        refine ⟨by omega, h2, fun j hj hm => ?_⟩
        by_cases e : j = q
        · subst e
          have : ¬ O.str m < O.str j := fun z => hc ⟨hm, Or.inr (by rw [h, Nat.add_sub_cancel]; exact z)⟩
          omega
        · exact h3 j (by omega) hm
theorem looks_is {O : Off} {p m : Nat} (hm : m < O.n) (h1 : mayN O p m) (h2 : ∀ j, j < O.n → mayN O p j → O.str j < O.str m ∨ (O.str j = O.str m ∧ m ≤ j)) : looksN O p O.n = m + 1 := by
  obtain ⟨i1, i2⟩ := looks_char O p O.n
  rcases Nat.eq_zero_or_pos (looksN O p O.n) with z | z
  · exact absurd h1 (i1 z m hm)
  · obtain ⟨k, hk⟩ : ∃ k, looksN O p O.n = k + 1 := ⟨looksN O p O.n - 1, by omega⟩
    obtain ⟨g1, g2, g3⟩ := i2 k hk
    have a := g3 m hm h1
    have b := h2 k g1 g2
    omega
/-- of whom one looks at -/
def bothN (O : Off) (b a : Nat) : Nat := if b = 0 then a else if a = 0 then b else if O.str (b - 1) = O.str (a - 1) then min b a else if O.str (a - 1) < O.str (b - 1) then b else a
theorem looks_both {O : Off} (hV : VO O) (p : Nat) : looksN O p O.n = bothN O (stN O p (O.chair p)) (stN O p (O.chair p + 2)) := by
  have hb := stN_le O p (O.chair p)
  have ha := stN_le O p (O.chair p + 2)
  have hm := fun q (hq : q < O.n) => may_iff hV (p := p) hq
  generalize stN O p (O.chair p) = b at *
  generalize stN O p (O.chair p + 2) = a at *
  unfold bothN
  have one : ∀ r, r ≠ 0 → r ≤ O.n → (∀ q, q < O.n → (mayN O p q → q + 1 = b ∨ q + 1 = a)) → (r = b ∨ r = a) → (b ≠ 0 → O.str (b - 1) < O.str (r - 1) ∨ (O.str (b - 1) = O.str (r - 1) ∧ r ≤ b)) → (a ≠ 0 → O.str (a - 1) < O.str (r - 1) ∨ (O.str (a - 1) = O.str (r - 1) ∧ r ≤ a)) → looksN O p O.n = r := by
    intro r h0 h1 h2 h3 h4 h5
    obtain ⟨m, rfl⟩ : ∃ m, r = m + 1 := ⟨r - 1, by omega⟩
    refine looks_is (by omega) ((hm m (by omega)).mpr (by omega)) fun j hj hj2 => ?_
    rw [Nat.add_sub_cancel] at h4 h5
    rcases h2 j hj hj2 with e | e
    · have := h4 (by omega); rw [← e, Nat.add_sub_cancel] at this; omega
    · have := h5 (by omega); rw [← e, Nat.add_sub_cancel] at this; omega
  have h2 : ∀ q, q < O.n → (mayN O p q → q + 1 = b ∨ q + 1 = a) := fun q hq h => by have := (hm q hq).mp h; omega
  by_cases b0 : b = 0
  · rw [if_pos b0]
    by_cases a0 : a = 0
    · rcases Nat.eq_zero_or_pos (looksN O p O.n) with z | z
      · omega
      · have := (looks_char O p O.n).2 (looksN O p O.n - 1) (by omega)
        have := h2 _ this.1 this.2.1
        omega
    · exact one a a0 ha h2 (Or.inr rfl) (fun z => absurd b0 z) (fun _ => Or.inr ⟨rfl, Nat.le_refl _⟩)
  · rw [if_neg b0]
    by_cases a0 : a = 0
    · rw [if_pos a0]
      exact one b b0 hb h2 (Or.inl rfl) (fun _ => Or.inr ⟨rfl, Nat.le_refl _⟩) (fun z => absurd a0 z)
    · rw [if_neg a0]
      by_cases e : O.str (b - 1) = O.str (a - 1)
      · rw [if_pos e]
        by_cases l : b ≤ a
        · rw [Nat.min_eq_left l]
          exact one b b0 hb h2 (Or.inl rfl) (fun _ => Or.inr ⟨rfl, Nat.le_refl _⟩) (fun _ => Or.inr ⟨e.symm, l⟩)
        · rw [Nat.min_eq_right (by omega)]
          exact one a a0 ha h2 (Or.inr rfl) (fun _ => Or.inr ⟨e, by omega⟩) (fun _ => Or.inr ⟨rfl, Nat.le_refl _⟩)
      · rw [if_neg e]
        by_cases l : O.str (a - 1) < O.str (b - 1)
        · rw [if_pos l]
          exact one b b0 hb h2 (Or.inl rfl) (fun _ => Or.inr ⟨rfl, Nat.le_refl _⟩) (fun _ => Or.inl l)
        · rw [if_neg l]
          exact one a a0 ha h2 (Or.inr rfl) (fun _ => Or.inl (by omega)) (fun _ => Or.inr ⟨rfl, Nat.le_refl _⟩)
