section M3
variable {I : Nat → Nat → Int32} {J : Nat → Nat → Int64} {x : Nat} {O : Off}
theorem tookN_le (O : Off) (w : Nat) : ∀ q, tookN O w q ≤ q
  | 0 => Nat.le_refl _
  | q + 1 => by have := tookN_le O w q; unfold tookN; split <;> omega
theorem tookN_0 (O : Off) : ∀ q, tookN O 0 q = 0
  | 0 => rfl
  | q + 1 => by unfold tookN; rw [tookN_0 O q, if_neg (by omega)]
theorem tookN_1 (O : Off) (k : Nat) : tookN O 1 (k + 1) = tookN O 1 k + (if takeN O k < 6 then 1 else 0) := by
  show tookN O 1 k + (if 1 = 1 ∧ takeN O k < 6 then 1 else 0) = _
  by_cases h : takeN O k < 6
  · rw [if_pos ⟨rfl, h⟩, if_pos h]
  · rw [if_neg (fun q => h q.2), if_neg h]
theorem m_pass (hV : VO O) (hO : MO I x O) (hx : x ≤ 1680) {b : Nat} (hb : b < 2) : mj_E 167 [.ref 0, .int (nI x), .int (nI b)] (KM, I, J, GM) (fun w' r => r = some (.int (nI (tookN O b O.n))) ∧ ∃ I', w' = (KM, I', J, GM) ∧ MO I' x (passO O b) ∧ FrM I I' x) := by
  have hn := hV.n
  have hd := hV.day
  refine mjT_gen fun Q hQ => ?_
  have tail : ∀ (I2 : Nat → Nat → Int32) (d : Option Value), MO I2 x (midO O b O.n) → FrM I I2 x → mj_To 167 45 [some (.ref 0), some (.int (nI x)), some (.int (nI b)), some (.int (nI (tookN O b O.n))), d] [] (KM, I2, J, GM) Q := by
    intro I2 d hO2 hf2
    refine mjT_go 6 (pc' := 55) (L' := [some (.ref 0), some (.int (nI x)), some (.int (nI b)), some (.int (nI (tookN O b O.n))), d]) (st' := [.int ((nI x) + (nI 148)), .ref 1, .int ((nI x) + (nI 148)), .ref 1]) (w1 := (KM, I2, J, GM)) rfl ?_
    refine mjT_ial (v := nI O.day) (x + 148) 1840 rfl (pc' := 56) rfl rfl (by simp only [nI_add, pk_mul]) (by omega) (by omega) (mo_at hO2.day rfl (by omega)) ?_
    refine mjT_go 2 (pc' := 58) (L' := [some (.ref 0), some (.int (nI x)), some (.int (nI b)), some (.int (nI (tookN O b O.n))), d]) (st' := [.int ((nI O.day) + (nI 1)), .int ((nI x) + (nI 148)), .ref 1]) (w1 := (KM, I2, J, GM)) rfl ?_
    obtain ⟨V1, eV1⟩ : ∃ z, z = mj_row I2 1 (va_up (I2 1) (x + 148) ((nI O.day) + (nI 1))) := ⟨_, rfl⟩
    refine mjT_ias (I' := V1) (x + 148) 1840 rfl (pc' := 59) rfl rfl (by simp only [nI_add, pk_mul]) (by omega) (by omega) eV1.symm ?_
    refine mjT_go 1 (pc' := 60) (L' := [some (.ref 0), some (.int (nI x)), some (.int (nI b)), some (.int (nI (tookN O b O.n))), d]) (st' := [.int (nI (tookN O b O.n))]) (w1 := (KM, V1, J, GM)) rfl ?_
    refine mjT_ret rfl rfl rfl ?_
    exact hQ _ _ ⟨rfl, _, rfl, mo_day (d := O.day + 1) (eV1.trans (by rw [nI_add])) (by omega) hO2 hn, fr_tr hf2 (fr_st eV1 (by omega))⟩
  refine mjT_go 2 (pc' := 2) (L' := [some (.ref 0), some (.int (nI x)), some (.int (nI b)), none, none]) (st' := [.int (nI x), .ref 0]) (w1 := (KM, I, J, GM)) rfl ?_
  refine mjT_call (as := [.ref 0, .int (nI x)]) (rest := []) rfl rfl rfl rfl rfl ⟨rfl, rfl⟩ (m_ownAgain hV hO hx) ?_
  rintro _ _ ⟨rfl, I1, rfl, hO1, hw1, hf1⟩
  refine mjT_go 4 (pc' := 10) (L' := [some (.ref 0), some (.int (nI x)), some (.int (nI b)), some (.int (nI 0)), some (.int (nI 0))]) (st' := []) (w1 := (KM, I1, J, GM)) rfl ?_
  obtain rfl | rfl : b = 0 ∨ b = 1 := by omega
  · have hO2 : MO I1 x (midO O 0 O.n) := mo_ext hO1 (fun p hp k hk => by rw [if_neg (by omega), if_neg (by omega)]) (fun p hp k hk => by rw [if_neg (by omega), if_neg (by omega)])
    refine mjT_go 6 (pc' := 21) (L' := [some (.ref 0), some (.int (nI x)), some (.int (nI 0)), some (.int (nI 0)), some (.int (nI 0))]) (st' := [.int ((nI x) + (nI 147)), .ref 1, .int (nI 0)]) (w1 := (KM, I1, J, GM)) rfl ?_
    refine mjT_ial (v := nI O.n) (x + 147) 1840 rfl (pc' := 22) rfl rfl (by simp only [nI_add, pk_mul]) (by omega) (by omega) (mo_at hO1.n rfl (by omega)) ?_
    refine mjT_go 1 (pc' := if nI O.n ≤ nI 0 then 45 else 25) (L' := [some (.ref 0), some (.int (nI x)), some (.int (nI 0)), some (.int (nI 0)), some (.int (nI 0))]) (st' := []) (w1 := (KM, I1, J, GM)) rfl ?_
    refine mjT_if_le (u := O.n) (v := 0) rfl rfl (by omega) (by omega) (fun hn0 => ?_) (fun hn0 => ?_)
    · have := tail I1 (some (.int (nI 0))) hO2 hf1
      rw [tookN_0] at this
      exact this
    · refine mjT_go 2 (pc' := if nI 0 = 0 then 45 else 29) (L' := [some (.ref 0), some (.int (nI x)), some (.int (nI 0)), some (.int (nI 0)), some (.int (nI 0))]) (st' := []) (w1 := (KM, I1, J, GM)) rfl ?_
      refine mjT_ifT nI_0 ?_
      have := tail I1 (some (.int (nI 0))) hO2 hf1
      rw [tookN_0] at this
      exact this
  · refine mj_loop (fun k L w => ∃ I', L = [some (.ref 0), some (.int (nI x)), some (.int (nI 1)), some (.int (nI (tookN O 1 k))), some (.int (nI k))] ∧ w = (KM, I', J, GM) ∧ MO I' x (midO O 1 k) ∧ FrM I I' x ∧ ∀ p, p < O.n → ∀ k, k < 6 → I' 4 (6 * p + k) = nI (gvN O p k)) O.n (k0 := 0) (Nat.zero_le _) ?_ ?_ ?_
    · exact ⟨_, rfl, rfl, mo_ext hO1 (fun p hp k hk => by rw [if_neg (by omega), if_neg (by omega)]) (fun p hp k hk => by rw [if_neg (by omega), if_neg (by omega)]), hf1, hw1⟩
    · rintro k _ _ hk ⟨I2, rfl, rfl, hO2, hf2, hw2⟩ hc
      have htk := tookN_le O 1 k
      refine mjT_go 6 (pc' := 21) (L' := [some (.ref 0), some (.int (nI x)), some (.int (nI 1)), some (.int (nI (tookN O 1 k))), some (.int (nI k))]) (st' := [.int ((nI x) + (nI 147)), .ref 1, .int (nI k)]) (w1 := (KM, I2, J, GM)) rfl ?_
      refine mjT_ial (v := nI O.n) (x + 147) 1840 rfl (pc' := 22) rfl rfl (by simp only [nI_add, pk_mul]) (by omega) (by omega) (mo_at hO2.n rfl (by omega)) ?_
      refine mjT_go 1 (pc' := if nI O.n ≤ nI k then 45 else 25) (L' := [some (.ref 0), some (.int (nI x)), some (.int (nI 1)), some (.int (nI (tookN O 1 k))), some (.int (nI k))]) (st' := []) (w1 := (KM, I2, J, GM)) rfl ?_
      refine mjT_ifF (nI_ge (by omega) (by omega)) ?_
      refine mjT_go 2 (pc' := if nI 1 = 0 then 45 else 29) (L' := [some (.ref 0), some (.int (nI x)), some (.int (nI 1)), some (.int (nI (tookN O 1 k))), some (.int (nI k))]) (st' := []) (w1 := (KM, I2, J, GM)) rfl ?_
      refine mjT_ifF (by decide) ?_
      refine mjT_go 4 (pc' := 34) (L' := [some (.ref 0), some (.int (nI x)), some (.int (nI 1)), some (.int (nI (tookN O 1 k))), some (.int (nI k))]) (st' := [.int (nI k), .int (nI x), .ref 0, .int (nI (tookN O 1 k))]) (w1 := (KM, I2, J, GM)) rfl ?_
      refine mjT_call (as := [.ref 0, .int (nI x), .int (nI k)]) (rest := [.int (nI (tookN O 1 k))]) rfl rfl rfl rfl rfl ⟨rfl, rfl⟩ (m_takes hV hk hO2 hw2 hx) ?_
      rintro _ _ ⟨rfl, I3, rfl, hO3, hf3, h43⟩
      refine mjT_go 4 (pc' := 10) (L' := [some (.ref 0), some (.int (nI x)), some (.int (nI 1)), some (.int ((nI (tookN O 1 k)) + (nI (if takeN O k < 6 then 1 else 0)))), some (.int ((nI k) + (nI 1)))]) (st' := []) (w1 := (KM, I3, J, GM)) rfl ?_
      rw [nI_add, nI_add, ← tookN_1]
      exact hc _ _ ⟨_, rfl, rfl, hO3, fr_tr hf2 hf3, by rw [h43]; exact hw2⟩
    · rintro _ _ ⟨I2, rfl, rfl, hO2, hf2, hw2⟩
      refine mjT_go 6 (pc' := 21) (L' := [some (.ref 0), some (.int (nI x)), some (.int (nI 1)), some (.int (nI (tookN O 1 O.n))), some (.int (nI O.n))]) (st' := [.int ((nI x) + (nI 147)), .ref 1, .int (nI O.n)]) (w1 := (KM, I2, J, GM)) rfl ?_
      refine mjT_ial (v := nI O.n) (x + 147) 1840 rfl (pc' := 22) rfl rfl (by simp only [nI_add, pk_mul]) (by omega) (by omega) (mo_at hO2.n rfl (by omega)) ?_
      refine mjT_go 1 (pc' := if nI O.n ≤ nI O.n then 45 else 25) (L' := [some (.ref 0), some (.int (nI x)), some (.int (nI 1)), some (.int (nI (tookN O 1 O.n))), some (.int (nI O.n))]) (st' := []) (w1 := (KM, I2, J, GM)) rfl ?_
      refine mjT_ifT (Int32.le_refl _) ?_
      exact tail I2 _ hO2 hf2
theorem goO_day (O : Off) : ∀ k, (goO O k).day = O.day + k
  | 0 => rfl
  | k + 1 => by show (goO O k).day + 1 = _; rw [goO_day O k]; omega
theorem v_go {O : Off} (hV : VO O) : ∀ k, O.day + k ≤ 20000 → VO (goO O k)
  | 0, _ => hV
  | k + 1, h => v_pass (v_go hV k (by omega)) (by rw [goO_day]; omega) _
theorem wetN_lt (O : Off) : wetN O < 2 := bitN_lt _ _
theorem m_goOn (hV : VO O) (hO : MO I 1680 O) {n : Nat} (hnn : O.day + n ≤ 20000) : mj_E 176 [.ref 0, .int (nI n)] (KM, I, J, GM) (fun w' r => r = none ∧ ∃ I', w' = (KM, I', J, GM) ∧ MO I' 1680 (goO O n) ∧ FrM I I' 1680) := by
  refine mjT_go 2 (pc' := 2) (L' := [some (.ref 0), some (.int (nI n)), some (.int (nI 0)), none]) (st' := []) (w1 := (KM, I, J, GM)) rfl ?_
  refine mj_loop (fun k L w => ∃ (d : Option Value) (I' : Nat → Nat → Int32), L = [some (.ref 0), some (.int (nI n)), some (.int (nI k)), d] ∧ w = (KM, I', J, GM) ∧ MO I' 1680 (goO O k) ∧ FrM I I' 1680) n (k0 := 0) (Nat.zero_le _) ?_ ?_ ?_
  · exact ⟨_, _, rfl, rfl, hO, fr_refl⟩
  · rintro k _ _ hk ⟨d, I1, rfl, rfl, hO1, hf1⟩ hc
    have hV1 := v_go hV k (by omega)
    refine mjT_go 3 (pc' := if nI n ≤ nI k then 28 else 7) (L' := [some (.ref 0), some (.int (nI n)), some (.int (nI k)), d]) (st' := []) (w1 := (KM, I1, J, GM)) rfl ?_
    refine mjT_ifF (nI_ge (by omega) (by omega)) ?_
    refine mjT_go 4 (pc' := 15) (L' := [some (.ref 0), some (.int (nI n)), some (.int (nI k)), d]) (st' := [.int (nI 1680), .ref 0, .int (nI 1680), .ref 0]) (w1 := (KM, I1, J, GM)) rfl ?_
    refine mjT_callE (as := [.ref 0, .int (nI 1680)]) (rest := [.int (nI 1680), .ref 0]) rfl rfl rfl rfl rfl ⟨rfl, rfl⟩ (m_isWet hV1 hO1 (by omega)) ?_
    refine mjT_call (as := [.ref 0, .int (nI 1680), .int (nI (wetN (goO O k)))]) (rest := []) rfl rfl rfl rfl rfl ⟨rfl, rfl⟩ (m_pass hV1 hO1 (by omega) (wetN_lt _)) ?_
    rintro _ _ ⟨rfl, I2, rfl, hO2, hf2⟩
    refine mjT_go 3 (pc' := 2) (L' := [some (.ref 0), some (.int (nI n)), some (.int ((nI k) + (nI 1))), some (.int (nI (tookN (goO O k) (wetN (goO O k)) (goO O k).n)))]) (st' := []) (w1 := (KM, I2, J, GM)) rfl ?_
    rw [nI_add]
    exact hc _ _ ⟨_, _, rfl, rfl, hO2, fr_tr hf1 hf2⟩
  · rintro _ _ ⟨d, I1, rfl, rfl, hO1, hf1⟩
    refine mjT_go 3 (pc' := if nI n ≤ nI n then 28 else 7) (L' := [some (.ref 0), some (.int (nI n)), some (.int (nI n)), d]) (st' := []) (w1 := (KM, I1, J, GM)) rfl ?_
    refine mjT_ifT (Int32.le_refl _) ?_
    refine mjT_ret rfl rfl rfl ?_
    exact ⟨rfl, _, rfl, hO1, hf1⟩
/-- an office stands at another place -/
theorem mo_move {I I' : Nat → Nat → Int32} {x z : Nat} {O : Off} (hO : MO I x O) (hn : O.n ≤ 7) (h : ∀ k, k < 153 → I' 1 (z + k) = I 1 (x + k)) : MO I' z O := by
  have g : ∀ a v, I 1 (x + a) = v → a < 153 → I' 1 (z + a) = v := fun a v e q => (h a q).trans e
  exact ⟨g _ _ hO.n (by omega), g _ _ hO.day (by omega), g _ _ hO.wet (by omega), g _ _ hO.dry (by omega), g _ _ hO.las (by omega), g _ _ hO.draw (by omega),
    fun p hp => g _ _ (hO.kind p hp) (by omega),
    fun p hp => mo_at (g (21 * p + 1) _ (mo_at (hO.str p hp) rfl (by omega)) (by omega)) rfl (by omega),
    fun p hp => mo_at (g (21 * p + 2) _ (mo_at (hO.chair p hp) rfl (by omega)) (by omega)) rfl (by omega),
    fun p hp k hk => mo_at (g (21 * p + 3 + k) _ (mo_at (hO.own p hp k hk) rfl (by omega)) (by omega)) rfl (by omega),
    fun p hp k hk => mo_at (g (21 * p + 9 + k) _ (mo_at (hO.wr p hp k hk) rfl (by omega)) (by omega)) rfl (by omega),
    fun p hp k hk => mo_at (g (21 * p + 15 + k) _ (mo_at (hO.till p hp k hk) rfl (by omega)) (by omega)) rfl (by omega)⟩
/-- what begin leaves as it was -/
abbrev FrT (I I' : Nat → Nat → Int32) : Prop := (∀ h, h ≠ 1 → h ≠ 4 → I' h = I h) ∧ (∀ k, k < 1680 → I' 1 k = I 1 k)
theorem ft_of {I I' : Nat → Nat → Int32} (h : FrM I I' 1680) : FrT I I' := ⟨h.1, fun k hk => h.2 k (Or.inl hk)⟩
theorem ft_tr {I I' I2 : Nat → Nat → Int32} (h : FrT I I') (h' : FrT I' I2) : FrT I I2 := ⟨fun a b c => (h'.1 a b c).trans (h.1 a b c), fun a b => (h'.2 a b).trans (h.2 a b)⟩
theorem ft_refl {I : Nat → Nat → Int32} : FrT I I := ⟨fun _ _ _ => rfl, fun _ _ => rfl⟩
theorem m_begin (hV : VO O) (hO : MO I 0 O) : mj_E 175 [.ref 0] (KM, I, J, GM) (fun w' r => r = none ∧ ∃ I', w' = (KM, I', J, GM) ∧ MO I' 1680 O ∧ FrT I I') := by
  refine mjT_go 2 (pc' := 2) (L' := [some (.ref 0), some (.int (nI 0))]) (st' := []) (w1 := (KM, I, J, GM)) rfl ?_
  refine mj_loop (fun k L w => ∃ I', L = [some (.ref 0), some (.int (nI k))] ∧ w = (KM, I', J, GM) ∧ (∀ j, j < k → I' 1 (1680 + j) = I 1 j) ∧ FrT I I') 160 (k0 := 0) (Nat.zero_le _) ?_ ?_ ?_
  · exact ⟨_, rfl, rfl, fun _ h => absurd h (by omega), ft_refl⟩
  · rintro k _ _ hk ⟨I1, rfl, rfl, h1, hf1⟩ hc
    refine mjT_go 3 (pc' := if nI 160 ≤ nI k then 31 else 9) (L' := [some (.ref 0), some (.int (nI k))]) (st' := []) (w1 := (KM, I1, J, GM)) rfl ?_
    refine mjT_ifF (nI_ge (by omega) (by omega)) ?_
    refine mjT_go 8 (pc' := 23) (L' := [some (.ref 0), some (.int (nI k))]) (st' := [.int (nI k), .ref 1, .int ((nI 1680) + (nI k)), .ref 1]) (w1 := (KM, I1, J, GM)) rfl ?_
    refine mjT_ial (v := I1 1 k) k 1840 rfl (pc' := 24) rfl rfl rfl (by omega) (by omega) rfl ?_
    obtain ⟨V1, eV1⟩ : ∃ z, z = mj_row I1 1 (va_up (I1 1) (1680 + k) (I1 1 k)) := ⟨_, rfl⟩
    refine mjT_ias (I' := V1) (1680 + k) 1840 rfl (pc' := 25) rfl rfl (by simp only [nI_add, pk_mul]) (by omega) (by omega) eV1.symm ?_
    refine mjT_go 2 (pc' := 2) (L' := [some (.ref 0), some (.int ((nI k) + (nI 1)))]) (st' := []) (w1 := (KM, V1, J, GM)) rfl ?_
    rw [nI_add]
    refine hc _ _ ⟨_, rfl, rfl, fun j hj => ?_, ft_tr hf1 ⟨fun h a _ => st_h eV1 a, fun j hj => st_ne eV1 (by omega)⟩⟩
    by_cases e : j = k
    · subst e; exact (st_at eV1).trans (hf1.2 j (by omega))
    · exact (st_ne eV1 (by omega)).trans (h1 j (by omega))
  · rintro _ _ ⟨I1, rfl, rfl, h1, hf1⟩
    refine mjT_go 3 (pc' := if nI 160 ≤ nI 160 then 31 else 9) (L' := [some (.ref 0), some (.int (nI 160))]) (st' := []) (w1 := (KM, I1, J, GM)) rfl ?_
    refine mjT_ifT (Int32.le_refl _) ?_
    refine mjT_ret rfl rfl rfl ?_
    exact ⟨rfl, _, rfl, mo_move hO hV.n (fun k hk => by rw [h1 k (by omega), Nat.zero_add]), hf1⟩
end M3
