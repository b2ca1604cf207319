/-! a day of those watched -/
def inW (ws : Nat → Nat) : Nat → Nat → Bool
  | 0, _ => false
  | k + 1, p => inW ws k p || p == ws k
def cntW (O : Off) (wet : Nat) (ws : Nat → Nat) : Nat → Nat
  | 0 => 0
  | k + 1 => cntW O wet ws k + if wet = 1 ∧ takeN O (ws k) < 6 then 1 else 0
theorem cntW_le (O : Off) (wet : Nat) (ws : Nat → Nat) : ∀ k, cntW O wet ws k ≤ k
  | 0 => Nat.le_refl _
  | k + 1 => by have := cntW_le O wet ws k; unfold cntW; split <;> omega
theorem cntW_0 (O : Off) (ws : Nat → Nat) : ∀ k, cntW O 0 ws k = 0
  | 0 => rfl
  | k + 1 => by unfold cntW; rw [cntW_0 O ws k, if_neg (by omega)]
theorem cntW_1 (O : Off) (ws : Nat → Nat) (k : Nat) : cntW O 1 ws (k + 1) = cntW O 1 ws k + (if takeN O (ws k) < 6 then 1 else 0) := by
  show cntW O 1 ws k + (if 1 = 1 ∧ takeN O (ws k) < 6 then 1 else 0) = _
  by_cases h : takeN O (ws k) < 6
  · rw [if_pos ⟨rfl, h⟩, if_pos h]
  · rw [if_neg (fun q => h q.2), if_neg h]
theorem cntW_id (O : Off) (wet : Nat) : ∀ k, cntW O wet (fun k => k) k = tookN O wet k
  | 0 => rfl
  | k + 1 => by unfold cntW tookN; rw [cntW_id O wet k]
theorem inW_of {ws : Nat → Nat} : ∀ {m k}, k < m → inW ws m (ws k) = true
  | 0, _, h => absurd h (by omega)
  | m + 1, k, h => by
    unfold inW
    by_cases e : k = m
    · subst e; simp
    · rw [inW_of (m := m) (by omega)]; rfl
/-- the m watched, in their order, are those in P; their models are known and in P -/
abbrev WA (I : Nat → Nat → Int32) (o : Nat) (O : Off) (P : Nat → Prop) (m : Nat) (ws : Nat → Nat) : Prop :=
  (I o 10 = nI m) ∧
  (m ≤ 7) ∧
  (∀ k, k < m → I (o + 8) k = nI (ws k) ∧ ws k < O.n ∧ P (ws k)) ∧
  (∀ p, p < O.n → P p → ∃ k, k < m ∧ ws k = p) ∧
  (∀ p, p < O.n → P p → I (o + 9) p = sI (modelN O p)) ∧
  (∀ p, p < O.n → P p → modelN O p ≠ 0 → P (modelN O p - 1))
theorem WA.m {I : Nat → Nat → Int32} {o : Nat} {O : Off} {P : Nat → Prop} {m : Nat} {ws : Nat → Nat} (h : WA I o O P m ws) : I o 10 = nI m := h.1
theorem WA.m7 {I : Nat → Nat → Int32} {o : Nat} {O : Off} {P : Nat → Prop} {m : Nat} {ws : Nat → Nat} (h : WA I o O P m ws) : m ≤ 7 := h.2.1
theorem WA.ws {I : Nat → Nat → Int32} {o : Nat} {O : Off} {P : Nat → Prop} {m : Nat} {ws : Nat → Nat} (h : WA I o O P m ws) : ∀ k, k < m → I (o + 8) k = nI (ws k) ∧ ws k < O.n ∧ P (ws k) := h.2.2.1
theorem WA.all {I : Nat → Nat → Int32} {o : Nat} {O : Off} {P : Nat → Prop} {m : Nat} {ws : Nat → Nat} (h : WA I o O P m ws) : ∀ p, p < O.n → P p → ∃ k, k < m ∧ ws k = p := h.2.2.2.1
theorem WA.mod {I : Nat → Nat → Int32} {o : Nat} {O : Off} {P : Nat → Prop} {m : Nat} {ws : Nat → Nat} (h : WA I o O P m ws) : ∀ p, p < O.n → P p → I (o + 9) p = sI (modelN O p) := h.2.2.2.2.1
theorem WA.cl {I : Nat → Nat → Int32} {o : Nat} {O : Off} {P : Nat → Prop} {m : Nat} {ws : Nat → Nat} (h : WA I o O P m ws) : ∀ p, p < O.n → P p → modelN O p ≠ 0 → P (modelN O p - 1) := h.2.2.2.2.2
/-- what a day leaves: all but the hands and the row before -/
abbrev FrD (I I' : Nat → Nat → Int32) (o : Nat) : Prop := ∀ h, h ≠ o + 1 → h ≠ o + 2 → h ≠ o + 3 → h ≠ o + 10 → I' h = I h
theorem looksN_pass (O : Off) (w p : Nat) : ∀ r, looksN (passO O w) p r = looksN O p r
  | 0 => rfl
  | r + 1 => by unfold looksN; rw [looksN_pass O w p r]; rfl
theorem modelN_pass (O : Off) (w p : Nat) : modelN (passO O w) p = modelN O p := by
  unfold modelN
  show (if O.kind p = 3 ∨ bitN O.dry (O.chair p) = 1 then 0 else looksN (passO O w) p O.n) = _
  rw [looksN_pass]
theorem wa_pass {I I' : Nat → Nat → Int32} {o : Nat} {O : Off} {P : Nat → Prop} {m : Nat} {ws : Nat → Nat} (h : WA I o O P m ws) (hf : FrD I I' o) (w : Nat) : WA I' o (passO O w) P m ws := by
  have e0 : I' o = I o := hf o (by omega) (by omega) (by omega) (by omega)
  have e8 : I' (o + 8) = I (o + 8) := hf _ (by omega) (by omega) (by omega) (by omega)
  have e9 : I' (o + 9) = I (o + 9) := hf _ (by omega) (by omega) (by omega) (by omega)
  refine ⟨by rw [e0]; exact h.m, h.m7, by rw [e8]; exact h.ws, h.all, ?_, ?_⟩
  · intro p hp hP; rw [e9, modelN_pass]; exact h.mod p hp hP
  · intro p hp hP; rw [modelN_pass]; exact h.cl p hp hP
section D1
variable {I : Nat → Nat → Int32} {J : Nat → Nat → Int64} {o : Nat} {O : Off} {P : Nat → Prop} {m : Nat} {ws : Nat → Nat}
theorem c_passDay (hV : VO O) (hG : OfG o) (hO : RO I o O P) (hW : WA I o O P m ws) {b : Nat} (hb2 : b < 2) : mj_E 32 [.ref o, .int (nI b)] (KC, I, J, GC) (fun w' r => r = some (.int (nI (cntW O b ws m))) ∧ ∃ I', w' = (KC, I', J, GC) ∧ RO I' o (passO O b) P ∧ FrD I I' o) := by
  have hn := hV.n
  have hd := hV.day
  have hm7 := hW.m7
  refine mjT_gen fun Q hQ => ?_
  have tail : ∀ (I2 : Nat → Nat → Int32) (d : Option Value), RO I2 o (midO O b O.n) P → FrD I I2 o → mj_To 32 93 [some (.ref o), some (.int (nI b)), some (.int (nI (cntW O b ws m))), d] [] (KC, I2, J, GC) Q := by
    intro I2 d hO2 hf2
    refine mjT_go 1 (pc' := 94) (L' := [some (.ref o), some (.int (nI b)), some (.int (nI (cntW O b ws m))), d]) (st' := [.ref o]) (w1 := (KC, I2, J, GC)) rfl ?_
    refine mjT_gfr (h' := (o + 1)) rfl (pc' := 97) rfl hG.k0 hG.r1 ?_
    refine mjT_go 1 (pc' := 98) (L' := [some (.ref o), some (.int (nI b)), some (.int (nI (cntW O b ws m))), d]) (st' := [.ref (o + 1), .ref (o + 1)]) (w1 := (KC, I2, J, GC)) rfl ?_
    refine mjT_gfi (v := nI O.day) rfl (Or.inl rfl) (pc' := 101) rfl hG.k1 (mo_at (hO2.day) (by omega) (by omega)) ?_
    refine mjT_go 2 (pc' := 103) (L' := [some (.ref o), some (.int (nI b)), some (.int (nI (cntW O b ws m))), d]) (st' := [.int ((nI O.day) + (nI 1)), .ref (o + 1)]) (w1 := (KC, I2, J, GC)) rfl ?_
    obtain ⟨V1, eV1⟩ : ∃ z, z = mj_row I2 (o + 1) (va_up (I2 (o + 1)) 0 ((nI O.day) + (nI 1))) := ⟨_, rfl⟩
    refine mjT_pfi (I' := V1) rfl (pc' := 106) rfl hG.k1 eV1.symm ?_
    refine mjT_go 1 (pc' := 107) (L' := [some (.ref o), some (.int (nI b)), some (.int (nI (cntW O b ws m))), d]) (st' := [.int (nI (cntW O b ws m))]) (w1 := (KC, V1, J, GC)) rfl ?_
    refine mjT_ret rfl rfl rfl ?_
    refine hQ _ _ ⟨rfl, _, rfl, ro_hands hO2 (fun h h1 _ _ _ => st_h eV1 h1) ⟨?_, ?_, ?_⟩, fun h h1 h2 h3 h4 => (st_h eV1 h1).trans (hf2 h h1 h2 h3 h4)⟩
    · rw [st_at eV1, nI_add]; rfl
    · intro p hp hP; rw [st_h eV1 (by omega)]; exact hO2.wr p hp hP
    · intro p hp hP k hk; rw [st_h eV1 (by omega)]; exact hO2.till p hp hP k hk
  refine mjT_go 2 (pc' := 2) (L' := [some (.ref o), some (.int (nI b)), some (.int (nI 0)), none]) (st' := []) (w1 := (KC, I, J, GC)) rfl ?_
  refine mj_loop (fun k L w => ∃ (d : Option Value) (I' : Nat → Nat → Int32), L = [some (.ref o), some (.int (nI b)), some (.int (nI k)), d] ∧ w = (KC, I', J, GC) ∧ HO I' (o + 1) (gdO O (fun a _ => inW ws k a)) P ∧ ∀ h, h ≠ o + 2 → h ≠ o + 3 → I' h = I h) m (k0 := 0) (Nat.zero_le _) ?_ ?_ ?_
  · exact ⟨_, _, rfl, rfl, ho_ext (ho_of hO) (fun _ _ _ _ _ => rfl) (fun _ _ _ _ _ => rfl), fun _ _ _ => rfl⟩
  · rintro k _ _ hk ⟨d, I1, rfl, rfl, hO1, hf1⟩ hc
    obtain ⟨hw1, hw2, hw3⟩ := hW.ws k hk
    have hR1 : RO I1 o (gdO O (fun a _ => inW ws k a)) P := ro_hands hO (fun h h1 h2 h3 h4 => hf1 h h2 h3) hO1
    refine mjT_go 2 (pc' := 4) (L' := [some (.ref o), some (.int (nI b)), some (.int (nI k)), d]) (st' := [.ref o, .int (nI k)]) (w1 := (KC, I1, J, GC)) rfl ?_
    refine mjT_gfi (v := nI m) rfl (Or.inl rfl) (pc' := 7) rfl hG.k0 ((by rw [hf1 _ (by omega) (by omega)]; exact hW.m)) ?_
    refine mjT_go 1 (pc' := if nI m ≤ nI k then 40 else 10) (L' := [some (.ref o), some (.int (nI b)), some (.int (nI k)), d]) (st' := []) (w1 := (KC, I1, J, GC)) rfl ?_
    refine mjT_ifF (nI_ge (by omega) (by omega)) ?_
    refine mjT_go 1 (pc' := 11) (L' := [some (.ref o), some (.int (nI b)), some (.int (nI k)), d]) (st' := [.ref o]) (w1 := (KC, I1, J, GC)) rfl ?_
    refine mjT_gfr (h' := (o + 1)) rfl (pc' := 14) rfl hG.k0 hG.r1 ?_
    refine mjT_go 1 (pc' := 15) (L' := [some (.ref o), some (.int (nI b)), some (.int (nI k)), d]) (st' := [.ref o, .ref (o + 1)]) (w1 := (KC, I1, J, GC)) rfl ?_
    refine mjT_gfr (h' := (o + 8)) rfl (pc' := 18) rfl hG.k0 hG.r8 ?_
    refine mjT_go 1 (pc' := 19) (L' := [some (.ref o), some (.int (nI b)), some (.int (nI k)), d]) (st' := [.int (nI k), .ref (o + 8), .ref (o + 1)]) (w1 := (KC, I1, J, GC)) rfl ?_
    refine mjT_ial (v := nI (ws k)) k 7 rfl (pc' := 20) rfl hG.k8 rfl (by omega) (by omega) ((by rw [hf1 _ (by omega) (by omega)]; exact hw1)) ?_
    refine mjT_go 1 (pc' := 21) (L' := [some (.ref o), some (.int (nI b)), some (.int (nI k)), d]) (st' := [.ref o, .int (nI (ws k)), .ref (o + 1)]) (w1 := (KC, I1, J, GC)) rfl ?_
    refine mjT_gfr (h' := (o + 6)) rfl (pc' := 24) rfl hG.k0 hG.r6 ?_
    refine mjT_go 1 (pc' := 25) (L' := [some (.ref o), some (.int (nI b)), some (.int (nI k)), d]) (st' := [.ref o, .ref (o + 6), .int (nI (ws k)), .ref (o + 1)]) (w1 := (KC, I1, J, GC)) rfl ?_
    refine mjT_gfr (h' := (o + 8)) rfl (pc' := 28) rfl hG.k0 hG.r8 ?_
    refine mjT_go 1 (pc' := 29) (L' := [some (.ref o), some (.int (nI b)), some (.int (nI k)), d]) (st' := [.int (nI k), .ref (o + 8), .ref (o + 6), .int (nI (ws k)), .ref (o + 1)]) (w1 := (KC, I1, J, GC)) rfl ?_
    refine mjT_ial (v := nI (ws k)) k 7 rfl (pc' := 30) rfl hG.k8 rfl (by omega) (by omega) ((by rw [hf1 _ (by omega) (by omega)]; exact hw1)) ?_
    refine mjT_ial (v := nI (rw6 (O.own (ws k)))) (ws k) 7 rfl (pc' := 31) rfl hG.k6 rfl (by omega) (by omega) (mo_at (hR1.own (ws k) (show (ws k) < O.n by omega)) (by omega) (by omega)) ?_
    refine mjT_call (as := [.ref (o + 1), .int (nI (ws k)), .int (nI (rw6 (O.own (ws k))))]) (rest := []) rfl rfl rfl (mj_callI rfl rfl hG.k1) rfl ⟨rfl, rfl⟩ (c_giveBack hV (ha_of hG) (fun a _ => inW ws k a) hO1 hw2 hw3) ?_
    rintro _ _ ⟨rfl, I2, rfl, hO2, hf2⟩
    refine mjT_go 2 (pc' := 2) (L' := [some (.ref o), some (.int (nI b)), some (.int ((nI k) + (nI 1))), d]) (st' := []) (w1 := (KC, I2, J, GC)) rfl ?_
    rw [nI_add]
    exact hc _ _ ⟨_, _, rfl, rfl, hO2, fun h h1 h2 => (hf2 h h1 h2).trans (hf1 h h1 h2)⟩
  · rintro _ _ ⟨d, I1, rfl, rfl, hO1, hf1⟩
    have hR1 : RO I1 o (mdO O (fun _ => false)) P := by
      refine ro_hands hO (fun h h1 h2 h3 h4 => hf1 h h2 h3) (ho_ext hO1 ?_ ?_)
      · intro p hp hP k hk
        obtain ⟨j, hj, rfl⟩ := hW.all p hp hP
        simp [inW_of hj]
      · intro p hp hP k hk
        obtain ⟨j, hj, rfl⟩ := hW.all p hp hP
        simp [inW_of hj]
    refine mjT_go 2 (pc' := 4) (L' := [some (.ref o), some (.int (nI b)), some (.int (nI m)), d]) (st' := [.ref o, .int (nI m)]) (w1 := (KC, I1, J, GC)) rfl ?_
    refine mjT_gfi (v := nI m) rfl (Or.inl rfl) (pc' := 7) rfl hG.k0 ((by rw [hf1 _ (by omega) (by omega)]; exact hW.m)) ?_
    refine mjT_go 1 (pc' := if nI m ≤ nI m then 40 else 10) (L' := [some (.ref o), some (.int (nI b)), some (.int (nI m)), d]) (st' := []) (w1 := (KC, I1, J, GC)) rfl ?_
    refine mjT_ifT (Int32.le_refl _) ?_
    refine mjT_go 4 (pc' := if nI b = 0 then 93 else 46) (L' := [some (.ref o), some (.int (nI b)), some (.int (nI 0)), d]) (st' := []) (w1 := (KC, I1, J, GC)) rfl ?_
    obtain rfl | rfl : b = 0 ∨ b = 1 := by omega
    · refine mjT_ifT nI_0 ?_
      have := tail I1 d (ro_hands hR1 (fun _ _ _ _ _ => rfl) (ho_ext (ho_of hR1) (fun p hp hP k hk => by simp) (fun p hp hP k hk => by simp))) (fun h h1 h2 h3 h4 => hf1 h h2 h3)
      rw [cntW_0] at this
      exact this
    · refine mjT_ifF (by decide) ?_
      refine mjT_go 1 (pc' := 47) (L' := [some (.ref o), some (.int (nI 1)), some (.int (nI 0)), d]) (st' := [.ref o]) (w1 := (KC, I1, J, GC)) rfl ?_
      refine mjT_gfr (h' := (o + 1)) rfl (pc' := 50) rfl hG.k0 hG.r1 ?_
      refine mjT_gfr (h' := (o + 2)) rfl (pc' := 53) rfl hG.k1 hG.r2 ?_
      refine mjT_go 2 (pc' := 55) (L' := [some (.ref o), some (.int (nI 1)), some (.int (nI 0)), d]) (st' := [.ref o, .int (nI 0), .ref (o + 2)]) (w1 := (KC, I1, J, GC)) rfl ?_
      refine mjT_gfr (h' := (o + 10)) rfl (pc' := 58) rfl hG.k0 hG.r10 ?_
      refine mjT_go 2 (pc' := 61) (L' := [some (.ref o), some (.int (nI 1)), some (.int (nI 0)), d]) (st' := [.int (nI 7), .int (nI 0), .ref (o + 10), .int (nI 0), .ref (o + 2)]) (w1 := (KC, I1, J, GC)) rfl ?_
      obtain ⟨V1, eV1⟩ : ∃ z, z = mj_row I1 (o + 10) (va_cpy (I1 (o + 2)) (I1 (o + 10)) 0 0 7) := ⟨_, rfl⟩
      refine mjT_cpi (I' := V1) (n := 7) (n2 := 7) (sp := 0) (dp := 0) (m := 7) rfl (pc' := 64) rfl hG.k2 hG.k10 rfl rfl rfl (by omega) (by omega) (by omega) (by decide) eV1.symm ?_
      refine mjT_go 2 (pc' := 66) (L' := [some (.ref o), some (.int (nI 1)), some (.int (nI 0)), some (.int (nI 0))]) (st' := []) (w1 := (KC, V1, J, GC)) rfl ?_
      refine mj_loop (fun k L w => ∃ I', L = [some (.ref o), some (.int (nI 1)), some (.int (nI (cntW O 1 ws k))), some (.int (nI k))] ∧ w = (KC, I', J, GC) ∧ RO I' o (mdO O (fun a => inW ws k a)) P ∧ (∀ h, h ≠ o + 2 → h ≠ o + 3 → h ≠ o + 10 → I' h = I h) ∧ ∀ p, p < O.n → P p → I' (o + 10) p = nI (rw6 (gvN O p))) m (k0 := 0) (Nat.zero_le _) ?_ ?_ ?_
      · refine ⟨_, rfl, rfl, ro_hands hR1 (fun h h1 h2 h3 h4 => by rw [eV1]; simp [mj_row, h4]) (ho_ext (ho_cong (ho_of hR1) ?_ ?_ ?_) (fun p hp hP k hk => rfl) (fun p hp hP k hk => rfl)), fun h h2 h3 h4 => ?_, fun p hp hP => ?_⟩
        · rw [eV1]; simp [mj_row]
        · rw [eV1]; simp [mj_row]
        · rw [eV1]; simp [mj_row]
        · rw [eV1]; simp [mj_row, h4]; exact hf1 h h2 h3
        · rw [eV1]
          have := hR1.wr p hp hP
          refine Eq.trans ?_ (this.trans (congrArg nI (rw6_congr fun k hk => ?_)))
          · simp [mj_row, va_cpy, show p < 7 by omega]
          · show (if false = true ∧ takeN O p = k then seenN O p k else gvN O p k) = _
            rw [if_neg (fun q => Bool.noConfusion q.1)]
      · rintro k _ _ hk ⟨I2, rfl, rfl, hO2, hf2, hb2⟩ hc
        obtain ⟨hw1, hw2, hw3⟩ := hW.ws k hk
        refine mjT_go 2 (pc' := 68) (L' := [some (.ref o), some (.int (nI 1)), some (.int (nI (cntW O 1 ws k))), some (.int (nI k))]) (st' := [.ref o, .int (nI k)]) (w1 := (KC, I2, J, GC)) rfl ?_
        refine mjT_gfi (v := nI m) rfl (Or.inl rfl) (pc' := 71) rfl hG.k0 ((by rw [hf2 _ (by omega) (by omega) (by omega)]; exact hW.m)) ?_
        refine mjT_go 1 (pc' := if nI m ≤ nI k then 93 else 74) (L' := [some (.ref o), some (.int (nI 1)), some (.int (nI (cntW O 1 ws k))), some (.int (nI k))]) (st' := []) (w1 := (KC, I2, J, GC)) rfl ?_
        refine mjT_ifF (nI_ge (by omega) (by omega)) ?_
        refine mjT_go 3 (pc' := 77) (L' := [some (.ref o), some (.int (nI 1)), some (.int (nI (cntW O 1 ws k))), some (.int (nI k))]) (st' := [.ref o, .ref o, .int (nI (cntW O 1 ws k))]) (w1 := (KC, I2, J, GC)) rfl ?_
        refine mjT_gfr (h' := (o + 8)) rfl (pc' := 80) rfl hG.k0 hG.r8 ?_
        refine mjT_go 1 (pc' := 81) (L' := [some (.ref o), some (.int (nI 1)), some (.int (nI (cntW O 1 ws k))), some (.int (nI k))]) (st' := [.int (nI k), .ref (o + 8), .ref o, .int (nI (cntW O 1 ws k))]) (w1 := (KC, I2, J, GC)) rfl ?_
        refine mjT_ial (v := nI (ws k)) k 7 rfl (pc' := 82) rfl hG.k8 rfl (by omega) (by omega) ((by rw [hf2 _ (by omega) (by omega) (by omega)]; exact hw1)) ?_
        refine mjT_call (as := [.ref o, .int (nI (ws k))]) (rest := [.int (nI (cntW O 1 ws k))]) rfl rfl rfl (mj_callI rfl rfl hG.k0) rfl ⟨rfl, rfl⟩ (c_take hV hG (fun a => inW ws k a) hO2 hb2 hw2 hw3 (by rw [hf2 _ (by omega) (by omega) (by omega)]; exact hW.mod _ hw2 hw3) (hW.cl _ hw2 hw3)) ?_
        rintro _ _ ⟨rfl, I3, rfl, hO3, hf3⟩
        refine mjT_go 4 (pc' := 66) (L' := [some (.ref o), some (.int (nI 1)), some (.int ((nI (cntW O 1 ws k)) + (nI (if takeN O (ws k) < 6 then 1 else 0)))), some (.int ((nI k) + (nI 1)))]) (st' := []) (w1 := (KC, I3, J, GC)) rfl ?_
        rw [nI_add, nI_add, ← cntW_1]
        exact hc _ _ ⟨_, rfl, rfl, hO3, fun h h2 h3 h4 => (hf3 h h2 h3).trans (hf2 h h2 h3 h4), fun p hp hP => by rw [hf3 _ (by omega) (by omega)]; exact hb2 p hp hP⟩
      · rintro _ _ ⟨I2, rfl, rfl, hO2, hf2, hb2⟩
        refine mjT_go 2 (pc' := 68) (L' := [some (.ref o), some (.int (nI 1)), some (.int (nI (cntW O 1 ws m))), some (.int (nI m))]) (st' := [.ref o, .int (nI m)]) (w1 := (KC, I2, J, GC)) rfl ?_
        refine mjT_gfi (v := nI m) rfl (Or.inl rfl) (pc' := 71) rfl hG.k0 ((by rw [hf2 _ (by omega) (by omega) (by omega)]; exact hW.m)) ?_
        refine mjT_go 1 (pc' := if nI m ≤ nI m then 93 else 74) (L' := [some (.ref o), some (.int (nI 1)), some (.int (nI (cntW O 1 ws m))), some (.int (nI m))]) (st' := []) (w1 := (KC, I2, J, GC)) rfl ?_
        refine mjT_ifT (Int32.le_refl _) ?_
        refine tail I2 _ (ro_hands hO2 (fun _ _ _ _ _ => rfl) (ho_ext (ho_of hO2) (fun p hp hP k hk => ?_) (fun p hp hP k hk => ?_))) (fun h h1 h2 h3 h4 => hf2 h h2 h3 h4)
        · obtain ⟨j, hj, rfl⟩ := hW.all p hp hP
          simp [inW_of hj, hp]
        · obtain ⟨j, hj, rfl⟩ := hW.all p hp hP
          simp [inW_of hj, hp]
end D1
