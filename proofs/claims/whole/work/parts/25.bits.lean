/-! bits of rows -/
theorem rw6_hi {d : Nat → Nat} (h : dgo d) {i : Nat} (hi : 18 ≤ i) : (rw6 d).testBit i = false := by
  apply Nat.testBit_lt_two_pow
  have := rw6_lt h
  exact Nat.lt_of_lt_of_le this (Nat.le_trans (by decide : 262144 ≤ 2 ^ 18) (Nat.pow_le_pow_right (by omega) hi))
theorem rw6_bit {d : Nat → Nat} (h : dgo d) : ∀ j, j < 6 → ∀ r, r < 3 → (rw6 d).testBit (3 * j + r) = (d (5 - j)).testBit r := by
  obtain ⟨h0, h1, h2, h3, h4, h5⟩ := dgo_all h
  intro j hj r hr
  rw [Nat.testBit_eq_decide_div_mod_eq, Nat.testBit_eq_decide_div_mod_eq]
  have hr3 : r = 0 ∨ r = 1 ∨ r = 2 := by omega
  have key : rw6 d / 2 ^ (3 * j + r) % 2 = d (5 - j) / 2 ^ r % 2 := by
    rcases lt6 hj with rfl | rfl | rfl | rfl | rfl | rfl <;> rcases hr3 with rfl | rfl | rfl <;> simp only [rw6, Nat.reduceMul, Nat.reduceSub, Nat.reduceAdd, Nat.reducePow] <;> omega
  rw [key]
theorem rw6_ext {n : Nat} {d : Nat → Nat} (h : dgo d) (hn : ∀ i, 18 ≤ i → n.testBit i = false) (hb : ∀ j, j < 6 → ∀ r, r < 3 → n.testBit (3 * j + r) = (d (5 - j)).testBit r) : n = rw6 d := by
  apply Nat.eq_of_testBit_eq
  intro i
  by_cases hi : 18 ≤ i
  · rw [hn i hi, rw6_hi h hi]
  · have e : i = 3 * (i / 3) + i % 3 := (Nat.div_add_mod i 3).symm
    rw [e, hb (i / 3) (by omega) (i % 3) (Nat.mod_lt _ (by omega)), rw6_bit h (i / 3) (by omega) (i % 3) (Nat.mod_lt _ (by omega))]
def mkN (p k : Nat) : Nat := if k = p then 7 else 0
theorem mk_go (p : Nat) : dgo (mkN p) := fun k _ => by unfold mkN; split <;> omega
theorem mk_rw : ∀ p, p < 6 → 7 * 2 ^ (15 - 3 * p) = rw6 (mkN p) := by decide
theorem b7 : ∀ r, r < 3 → (7 : Nat).testBit r = true := by decide
theorem bF : ∀ i, i < 18 → (4294967295 : Nat).testBit i = true := by decide
theorem wr_bits {d e : Nat → Nat} (hd : dgo d) (he : dgo e) (p : Nat) : (rw6 d &&& (rw6 (mkN p) ^^^ 4294967295)) ||| (rw6 e &&& rw6 (mkN p)) = rw6 (fun k => if k = p then e k else d k) := by
  refine rw6_ext (fun k hk => ?_) (fun i hi => ?_) (fun j hj r hr => ?_)
  · show (if k = p then e k else d k) < 8
    split
    · exact he k hk
    · exact hd k hk
  · rw [Nat.testBit_or, Nat.testBit_and, Nat.testBit_and, rw6_hi hd hi, rw6_hi he hi]; rfl
  · rw [Nat.testBit_or, Nat.testBit_and, Nat.testBit_and, Nat.testBit_xor, rw6_bit hd j hj r hr, rw6_bit he j hj r hr, rw6_bit (mk_go p) j hj r hr, bF _ (by omega)]
    unfold mkN
    by_cases h : 5 - j = p
    · rw [if_pos h, if_pos h, b7 r hr]; simp
    · rw [if_neg h, if_neg h, Nat.zero_testBit]; simp
theorem xor_lt8 : ∀ a, a < 8 → ∀ b, b < 8 → a ^^^ b < 8 := by decide
theorem xor_0 : ∀ a, a < 8 → ∀ b, b < 8 → (a ^^^ b = 0 ↔ a = b) := by decide
theorem xor_7 : ∀ a, a < 8 → a ^^^ 7 = 7 - a := by decide
theorem xor_go {d e : Nat → Nat} (hd : dgo d) (he : dgo e) : dgo (fun k => d k ^^^ e k) := fun k hk => xor_lt8 _ (hd k hk) _ (he k hk)
theorem rw6_xor {d e : Nat → Nat} (hd : dgo d) (he : dgo e) : rw6 d ^^^ rw6 e = rw6 (fun k => d k ^^^ e k) := by
  refine rw6_ext (xor_go hd he) (fun i hi => ?_) (fun j hj r hr => ?_)
  · rw [Nat.testBit_xor, rw6_hi hd hi, rw6_hi he hi]; rfl
  · rw [Nat.testBit_xor, rw6_bit hd j hj r hr, rw6_bit he j hj r hr, Nat.testBit_xor]
theorem rw6_not {d : Nat → Nat} (hd : dgo d) : rw6 d ^^^ 262143 = rw6 (fun k => 7 - d k) := by
  have h7 : dgo (fun _ => 7) := fun _ _ => by show 7 < 8; omega
  rw [show 262143 = rw6 (fun _ => 7) by decide, rw6_xor hd h7]
  exact rw6_congr (fun k hk => xor_7 _ (hd k hk))
theorem nI_and (a b : Nat) : nI a &&& nI b = nI (a &&& b) := by
  apply Int32.toBitVec_inj.mp
  rw [Int32.toBitVec_and]
  exact BitVec.ofNat_and.symm
theorem nI_xor (a b : Nat) : nI a ^^^ nI b = nI (a ^^^ b) := by
  apply Int32.toBitVec_inj.mp
  rw [Int32.toBitVec_xor]
  exact BitVec.ofNat_xor.symm
theorem m1_nI : (-1 : Int32) = nI 4294967295 := by decide
theorem lead_0 {f : Nat → Nat} (h : dgo f) {p : Nat} (hp : p < 6) : rw6 f / 2 ^ (15 - 3 * p) = 0 ↔ ∀ j, j ≤ p → f j = 0 := by
  have h0 : dgo (fun _ => 0) := fun _ _ => by show 0 < 8; omega
  have := first_eq h h0 (k := p + 1) (by omega)
  rw [show 3 * (6 - (p + 1)) = 15 - 3 * p by omega, show rw6 (fun _ => 0) = 0 by decide, Nat.zero_div] at this
  rw [this]
  constructor
  · intro q j hj; exact q j (by omega)
  · intro q j hj; exact q j (by omega)
theorem fd_cases (f g : Nat → Nat) : (fdN f g = 6 ∧ ∀ j, j < 6 → f j = g j) ∨ (fdN f g < 6 ∧ f (fdN f g) ≠ g (fdN f g) ∧ ∀ j, j < fdN f g → f j = g j) := by
  have h : ∀ k, k ≤ 6 → (∀ j, j < k → f j = g j) ∨ ∃ m, m < k ∧ f m ≠ g m ∧ ∀ j, j < m → f j = g j := by
    intro k
    induction k with
    | zero => intro _; exact Or.inl fun _ h => absurd h (by omega)
    | succ k ih =>
      intro hk
      rcases ih (by omega) with h | ⟨m, h1, h2, h3⟩
      · by_cases q : f k = g k
        · refine Or.inl fun j hj => ?_
          by_cases e : j = k
          · rw [e]; exact q
          · exact h j (by omega)
        · exact Or.inr ⟨k, by omega, q, h⟩
      · exact Or.inr ⟨m, by omega, h2, h3⟩
  rcases h 6 (by omega) with h | ⟨m, h1, h2, h3⟩
  · exact Or.inl ⟨fd_no h, h⟩
  · have e := fd_at h1 h3 h2
    rw [e]
    exact Or.inr ⟨h1, h2, h3⟩
section B1
variable {I : Nat → Nat → Int32} {J : Nat → Nat → Int64} {K : List (Nat × Nat)} {G : Nat → Nat → Option Nat}
theorem c_firstPlace {d e : Nat → Nat} (hd : dgo d) (he : dgo e) (hne : fdN d e < 6) : mj_Ev 59 [.int (nI (rw6 (fun k => d k ^^^ e k)))] (K, I, J, G) (K, I, J, G) (some (.int (nI (fdN d e)))) := by
  refine mj_ev_of ?_
  have hx := xor_go hd he
  have hl := rw6_lt hx
  refine mjT_go 2 (pc' := 2) (L' := [some (.int (nI (rw6 (fun k => d k ^^^ e k)))), some (.int (nI 0))]) (st' := []) (w1 := (K, I, J, G)) rfl ?_
  refine mj_loop (fun k L w => L = [some (.int (nI (rw6 (fun k => d k ^^^ e k)))), some (.int (nI k))] ∧ w = (K, I, J, G) ∧ ∀ j, j < k → d j = e j) (fdN d e) (k0 := 0) (Nat.zero_le _) ?_ ?_ ?_
  · exact ⟨rfl, rfl, fun _ h => absurd h (by omega)⟩
  · rintro k _ _ hk ⟨rfl, rfl, hal⟩ hc
    have heq : d k = e k := Decidable.byContradiction fun q => by have := fd_at (by omega) hal q; omega
    have hk5 : k < 5 := by
      obtain h | h : k < 5 ∨ k = 5 := by omega
      · exact h
      · subst h; omega
    have hz : rw6 (fun k => d k ^^^ e k) / 2 ^ (15 - 3 * k) = 0 := (lead_0 hx (by omega)).mpr fun j hj => by
      refine (xor_0 _ (hd j (by omega)) _ (he j (by omega))).mpr ?_
      by_cases q : j = k
      · rw [q]; exact heq
      · exact hal j (by omega)
    refine mjT_go 3 (pc' := if nI 5 ≤ nI k then 24 else 7) (L' := [some (.int (nI (rw6 (fun k => d k ^^^ e k)))), some (.int (nI k))]) (st' := []) (w1 := (K, I, J, G)) rfl ?_
    refine mjT_ifF (nI_ge (by omega) (by omega)) ?_
    refine mjT_go 8 (pc' := if ¬ (nI (rw6 (fun k => d k ^^^ e k))) >>> (((nI 15) - ((nI 3) * (nI k))) &&& 31) = 0 then 24 else 18) (L' := [some (.int (nI (rw6 (fun k => d k ^^^ e k)))), some (.int (nI k))]) (st' := []) (w1 := (K, I, J, G)) rfl ?_
    rw [pk_shrN (by omega) _ _ (sh15 k (by omega)), hz]
    refine mjT_ifF (fun q => q nI_0) ?_
    refine mjT_go 2 (pc' := 2) (L' := [some (.int (nI (rw6 (fun k => d k ^^^ e k)))), some (.int ((nI k) + (nI 1)))]) (st' := []) (w1 := (K, I, J, G)) rfl ?_
    rw [nI_add]
    refine hc _ _ ⟨rfl, rfl, fun j hj => ?_⟩
    by_cases q : j = k
    · rw [q]; exact heq
    · exact hal j (by omega)
  · rintro _ _ ⟨rfl, rfl, hal⟩
    rcases fd_cases d e with q | ⟨q1, hdif, _⟩
    · omega
    generalize fdN d e = p at q1 hdif hne ⊢
    refine mjT_go 3 (pc' := if nI 5 ≤ nI p then 24 else 7) (L' := [some (.int (nI (rw6 (fun k => d k ^^^ e k)))), some (.int (nI p))]) (st' := []) (w1 := (K, I, J, G)) rfl ?_
    refine mjT_if_le (u := 5) (v := p) rfl rfl (by omega) (by omega) (fun h5 => ?_) (fun h5 => ?_)
    · refine mjT_go 1 (pc' := 25) (L' := [some (.int (nI (rw6 (fun k => d k ^^^ e k)))), some (.int (nI p))]) (st' := [.int (nI p)]) (w1 := (K, I, J, G)) rfl ?_
      refine mjT_ret rfl rfl rfl ?_
      exact ⟨rfl, rfl⟩
    · refine mjT_go 8 (pc' := if ¬ (nI (rw6 (fun k => d k ^^^ e k))) >>> (((nI 15) - ((nI 3) * (nI p))) &&& 31) = 0 then 24 else 18) (L' := [some (.int (nI (rw6 (fun k => d k ^^^ e k)))), some (.int (nI p))]) (st' := []) (w1 := (K, I, J, G)) rfl ?_
      have hd2 : rw6 (fun k => d k ^^^ e k) / 2 ^ (15 - 3 * p) ≤ rw6 (fun k => d k ^^^ e k) := Nat.div_le_self _ _
      rw [pk_shrN (by omega) _ _ (sh15 p (by omega))]
      have hnz : rw6 (fun k => d k ^^^ e k) / 2 ^ (15 - 3 * p) ≠ 0 := fun q => hdif ((xor_0 _ (hd p q1) _ (he p q1)).mp ((lead_0 hx q1).mp q p (Nat.le_refl _)))
      refine mjT_ifT (nI_ne0 (Nat.pos_of_ne_zero hnz) (Nat.lt_of_le_of_lt hd2 (by omega))) ?_
      refine mjT_go 1 (pc' := 25) (L' := [some (.int (nI (rw6 (fun k => d k ^^^ e k)))), some (.int (nI p))]) (st' := [.int (nI p)]) (w1 := (K, I, J, G)) rfl ?_
      refine mjT_ret rfl rfl rfl ?_
      exact ⟨rfl, rfl⟩
end B1
