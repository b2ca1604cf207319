/-! one office becomes another -/
theorem cp_at {I I' : Nat → Nat → Int32} {h h2 n : Nat} (e : I' = mj_row I h2 (va_cpy (I h) (I h2) 0 0 n)) {k : Nat} (hk : k < n) : I' h2 k = I h k := by
  subst e; simp [mj_row, va_cpy, hk]
theorem cp_h {I I' : Nat → Nat → Int32} {h h2 n : Nat} (e : I' = mj_row I h2 (va_cpy (I h) (I h2) 0 0 n)) {h' : Nat} (hh : h' ≠ h2) : I' h' = I h' := by
  subst e; simp [mj_row, hh]
def ldO (O : Off) (la dr : Nat) : Off := mkO O.n O.day O.wet O.dry la dr O.kind O.str O.chair O.own O.wr O.till
section BE
variable {I : Nat → Nat → Int32} {J : Nat → Nat → Int64} {o o2 q q2 : Nat} {O : Off} {P : Nat → Prop}
theorem c_hbecome (hn : O.n ≤ 7) (hG : HaG q) (hG2 : HaG q2) (hd : q2 + 2 < q ∨ q + 2 < q2) (hO : HO I q2 O P) : mj_E 1 [.ref q, .ref q2] (KC, I, J, GC) (fun w' r => r = none ∧ ∃ I', w' = (KC, I', J, GC) ∧ HO I' q O P ∧ ∀ h, (h < q ∨ q + 2 < h) → I' h = I h) := by
  refine mjT_go 2 (pc' := 2) (L' := [some (.ref q), some (.ref q2)]) (st' := [.ref q2, .ref q]) (w1 := (KC, I, J, GC)) rfl ?_
  refine mjT_gfi (v := nI O.day) rfl (Or.inl rfl) (pc' := 5) rfl hG2.k0 (mo_at (hO.day) (by omega) (by omega)) ?_
  obtain ⟨V1, eV1⟩ : ∃ z, z = mj_row I q (va_up (I q) 0 (nI O.day)) := ⟨_, rfl⟩
  refine mjT_pfi (I' := V1) rfl (pc' := 8) rfl hG.k0 eV1.symm ?_
  refine mjT_go 1 (pc' := 9) (L' := [some (.ref q), some (.ref q2)]) (st' := [.ref q2]) (w1 := (KC, V1, J, GC)) rfl ?_
  refine mjT_gfr (h' := (q2 + 1)) rfl (pc' := 12) rfl hG2.k0 hG2.r1 ?_
  refine mjT_go 2 (pc' := 14) (L' := [some (.ref q), some (.ref q2)]) (st' := [.ref q, .int (nI 0), .ref (q2 + 1)]) (w1 := (KC, V1, J, GC)) rfl ?_
  refine mjT_gfr (h' := (q + 1)) rfl (pc' := 17) rfl hG.k0 hG.r1 ?_
  refine mjT_go 2 (pc' := 20) (L' := [some (.ref q), some (.ref q2)]) (st' := [.int (nI 7), .int (nI 0), .ref (q + 1), .int (nI 0), .ref (q2 + 1)]) (w1 := (KC, V1, J, GC)) rfl ?_
  obtain ⟨V2, eV2⟩ : ∃ z, z = mj_row V1 (q + 1) (va_cpy (V1 (q2 + 1)) (V1 (q + 1)) 0 0 7) := ⟨_, rfl⟩
  refine mjT_cpi (I' := V2) (n := 7) (n2 := 7) (sp := 0) (dp := 0) (m := 7) rfl (pc' := 23) rfl hG2.k1 hG.k1 rfl rfl rfl (by omega) (by omega) (by omega) (by decide) eV2.symm ?_
  refine mjT_go 1 (pc' := 24) (L' := [some (.ref q), some (.ref q2)]) (st' := [.ref q2]) (w1 := (KC, V2, J, GC)) rfl ?_
  refine mjT_gfr (h' := (q2 + 2)) rfl (pc' := 27) rfl hG2.k0 hG2.r2 ?_
  refine mjT_go 2 (pc' := 29) (L' := [some (.ref q), some (.ref q2)]) (st' := [.ref q, .int (nI 0), .ref (q2 + 2)]) (w1 := (KC, V2, J, GC)) rfl ?_
  refine mjT_gfr (h' := (q + 2)) rfl (pc' := 32) rfl hG.k0 hG.r2 ?_
  refine mjT_go 2 (pc' := 35) (L' := [some (.ref q), some (.ref q2)]) (st' := [.int (nI 42), .int (nI 0), .ref (q + 2), .int (nI 0), .ref (q2 + 2)]) (w1 := (KC, V2, J, GC)) rfl ?_
  obtain ⟨V3, eV3⟩ : ∃ z, z = mj_row V2 (q + 2) (va_cpy (V2 (q2 + 2)) (V2 (q + 2)) 0 0 42) := ⟨_, rfl⟩
  refine mjT_cpi (I' := V3) (n := 42) (n2 := 42) (sp := 0) (dp := 0) (m := 42) rfl (pc' := 38) rfl hG2.k2 hG.k2 rfl rfl rfl (by omega) (by omega) (by omega) (by decide) eV3.symm ?_
  refine mjT_ret rfl rfl rfl ?_
  refine ⟨rfl, _, rfl, ⟨?_, ?_, ?_⟩, fun h hh => by rw [cp_h eV3 (by omega), cp_h eV2 (by omega), st_h eV1 (by omega)]⟩
  · rw [cp_h eV3 (by omega), cp_h eV2 (by omega)]; exact st_at eV1
  · intro p hp hP
    rw [cp_h eV3 (by omega), cp_at eV2 (by omega), st_h eV1 (by omega)]; exact hO.wr p hp hP
  · intro p hp hP k hk
    rw [cp_at eV3 (by omega), cp_h eV2 (by omega), st_h eV1 (by omega)]; exact hO.till p hp hP k hk
theorem c_moveIn (hn : O.n ≤ 7) (hG : OfG o) (hG2 : OfG o2) (hd : o2 + 10 < o ∨ o + 10 < o2) (hO : RO I o2 O P) {la dr : Nat} (hla : I o 3 = nI la) (hdr : I o 4 = nI dr) : mj_E 9 [.ref o, .ref o2] (KC, I, J, GC) (fun w' r => r = none ∧ ∃ I', w' = (KC, I', J, GC) ∧ RO I' o (ldO O la dr) P ∧ ∀ h, (h < o ∨ o + 7 < h) → I' h = I h) := by
  refine mjT_go 2 (pc' := 2) (L' := [some (.ref o), some (.ref o2)]) (st' := [.ref o2, .ref o]) (w1 := (KC, I, J, GC)) rfl ?_
  refine mjT_gfi (v := nI O.n) rfl (Or.inl rfl) (pc' := 5) rfl hG2.k0 (mo_at (hO.n) (by omega) (by omega)) ?_
  obtain ⟨V1, eV1⟩ : ∃ z, z = mj_row I o (va_up (I o) 0 (nI O.n)) := ⟨_, rfl⟩
  refine mjT_pfi (I' := V1) rfl (pc' := 8) rfl hG.k0 eV1.symm ?_
  refine mjT_go 2 (pc' := 10) (L' := [some (.ref o), some (.ref o2)]) (st' := [.ref o2, .ref o]) (w1 := (KC, V1, J, GC)) rfl ?_
  refine mjT_gfi (v := nI O.dry) rfl (Or.inl rfl) (pc' := 13) rfl hG2.k0 ((by rw [st_h eV1 (by omega)]; exact hO.dry)) ?_
  obtain ⟨V2, eV2⟩ : ∃ z, z = mj_row V1 o (va_up (V1 o) 1 (nI O.dry)) := ⟨_, rfl⟩
  refine mjT_pfi (I' := V2) rfl (pc' := 16) rfl hG.k0 eV2.symm ?_
  refine mjT_go 2 (pc' := 18) (L' := [some (.ref o), some (.ref o2)]) (st' := [.ref o2, .ref o]) (w1 := (KC, V2, J, GC)) rfl ?_
  refine mjT_gfi (v := nI O.wet) rfl (Or.inl rfl) (pc' := 21) rfl hG2.k0 ((by rw [st_h eV2 (by omega), st_h eV1 (by omega)]; exact hO.wet)) ?_
  obtain ⟨V3, eV3⟩ : ∃ z, z = mj_row V2 o (va_up (V2 o) 2 (nI O.wet)) := ⟨_, rfl⟩
  refine mjT_pfi (I' := V3) rfl (pc' := 24) rfl hG.k0 eV3.symm ?_
  refine mjT_go 1 (pc' := 25) (L' := [some (.ref o), some (.ref o2)]) (st' := [.ref o]) (w1 := (KC, V3, J, GC)) rfl ?_
  refine mjT_gfr (h' := (o + 1)) rfl (pc' := 28) rfl hG.k0 hG.r1 ?_
  refine mjT_go 1 (pc' := 29) (L' := [some (.ref o), some (.ref o2)]) (st' := [.ref o2, .ref (o + 1)]) (w1 := (KC, V3, J, GC)) rfl ?_
  refine mjT_gfr (h' := (o2 + 1)) rfl (pc' := 32) rfl hG2.k0 hG2.r1 ?_
  have hH : HO V3 (o2 + 1) O P := ho_cong (ho_of hO) (by rw [st_h eV3 (by omega), st_h eV2 (by omega), st_h eV1 (by omega)]) (by rw [st_h eV3 (by omega), st_h eV2 (by omega), st_h eV1 (by omega)]) (by rw [st_h eV3 (by omega), st_h eV2 (by omega), st_h eV1 (by omega)])
  refine mjT_call (as := [.ref (o + 1), .ref (o2 + 1)]) (rest := []) rfl rfl rfl (mj_callI rfl rfl hG.k1) rfl ⟨rfl, rfl⟩ (c_hbecome hn (ha_of hG) (ha_of hG2) (by omega) hH) ?_
  rintro _ _ ⟨rfl, I2, rfl, hH2, hf2⟩
  refine mjT_go 1 (pc' := 36) (L' := [some (.ref o), some (.ref o2)]) (st' := [.ref o2]) (w1 := (KC, I2, J, GC)) rfl ?_
  refine mjT_gfr (h' := (o2 + 4)) rfl (pc' := 39) rfl hG2.k0 hG2.r4 ?_
  refine mjT_go 2 (pc' := 41) (L' := [some (.ref o), some (.ref o2)]) (st' := [.ref o, .int (nI 0), .ref (o2 + 4)]) (w1 := (KC, I2, J, GC)) rfl ?_
  refine mjT_gfr (h' := (o + 4)) rfl (pc' := 44) rfl hG.k0 hG.r4 ?_
  refine mjT_go 2 (pc' := 47) (L' := [some (.ref o), some (.ref o2)]) (st' := [.int (nI 7), .int (nI 0), .ref (o + 4), .int (nI 0), .ref (o2 + 4)]) (w1 := (KC, I2, J, GC)) rfl ?_
  obtain ⟨V4, eV4⟩ : ∃ z, z = mj_row I2 (o + 4) (va_cpy (I2 (o2 + 4)) (I2 (o + 4)) 0 0 7) := ⟨_, rfl⟩
  refine mjT_cpi (I' := V4) (n := 7) (n2 := 7) (sp := 0) (dp := 0) (m := 7) rfl (pc' := 50) rfl hG2.k4 hG.k4 rfl rfl rfl (by omega) (by omega) (by omega) (by decide) eV4.symm ?_
  refine mjT_go 1 (pc' := 51) (L' := [some (.ref o), some (.ref o2)]) (st' := [.ref o2]) (w1 := (KC, V4, J, GC)) rfl ?_
  refine mjT_gfr (h' := (o2 + 5)) rfl (pc' := 54) rfl hG2.k0 hG2.r5 ?_
  refine mjT_go 2 (pc' := 56) (L' := [some (.ref o), some (.ref o2)]) (st' := [.ref o, .int (nI 0), .ref (o2 + 5)]) (w1 := (KC, V4, J, GC)) rfl ?_
  refine mjT_gfr (h' := (o + 5)) rfl (pc' := 59) rfl hG.k0 hG.r5 ?_
  refine mjT_go 2 (pc' := 62) (L' := [some (.ref o), some (.ref o2)]) (st' := [.int (nI 7), .int (nI 0), .ref (o + 5), .int (nI 0), .ref (o2 + 5)]) (w1 := (KC, V4, J, GC)) rfl ?_
  obtain ⟨V5, eV5⟩ : ∃ z, z = mj_row V4 (o + 5) (va_cpy (V4 (o2 + 5)) (V4 (o + 5)) 0 0 7) := ⟨_, rfl⟩
  refine mjT_cpi (I' := V5) (n := 7) (n2 := 7) (sp := 0) (dp := 0) (m := 7) rfl (pc' := 65) rfl hG2.k5 hG.k5 rfl rfl rfl (by omega) (by omega) (by omega) (by decide) eV5.symm ?_
  refine mjT_go 1 (pc' := 66) (L' := [some (.ref o), some (.ref o2)]) (st' := [.ref o2]) (w1 := (KC, V5, J, GC)) rfl ?_
  refine mjT_gfr (h' := (o2 + 6)) rfl (pc' := 69) rfl hG2.k0 hG2.r6 ?_
  refine mjT_go 2 (pc' := 71) (L' := [some (.ref o), some (.ref o2)]) (st' := [.ref o, .int (nI 0), .ref (o2 + 6)]) (w1 := (KC, V5, J, GC)) rfl ?_
  refine mjT_gfr (h' := (o + 6)) rfl (pc' := 74) rfl hG.k0 hG.r6 ?_
  refine mjT_go 2 (pc' := 77) (L' := [some (.ref o), some (.ref o2)]) (st' := [.int (nI 7), .int (nI 0), .ref (o + 6), .int (nI 0), .ref (o2 + 6)]) (w1 := (KC, V5, J, GC)) rfl ?_
  obtain ⟨V6, eV6⟩ : ∃ z, z = mj_row V5 (o + 6) (va_cpy (V5 (o2 + 6)) (V5 (o + 6)) 0 0 7) := ⟨_, rfl⟩
  refine mjT_cpi (I' := V6) (n := 7) (n2 := 7) (sp := 0) (dp := 0) (m := 7) rfl (pc' := 80) rfl hG2.k6 hG.k6 rfl rfl rfl (by omega) (by omega) (by omega) (by decide) eV6.symm ?_
  refine mjT_go 1 (pc' := 81) (L' := [some (.ref o), some (.ref o2)]) (st' := [.ref o2]) (w1 := (KC, V6, J, GC)) rfl ?_
  refine mjT_gfr (h' := (o2 + 7)) rfl (pc' := 84) rfl hG2.k0 hG2.r7 ?_
  refine mjT_go 2 (pc' := 86) (L' := [some (.ref o), some (.ref o2)]) (st' := [.ref o, .int (nI 0), .ref (o2 + 7)]) (w1 := (KC, V6, J, GC)) rfl ?_
  refine mjT_gfr (h' := (o + 7)) rfl (pc' := 89) rfl hG.k0 hG.r7 ?_
  refine mjT_go 2 (pc' := 92) (L' := [some (.ref o), some (.ref o2)]) (st' := [.int (nI 8), .int (nI 0), .ref (o + 7), .int (nI 0), .ref (o2 + 7)]) (w1 := (KC, V6, J, GC)) rfl ?_
  obtain ⟨V7, eV7⟩ : ∃ z, z = mj_row V6 (o + 7) (va_cpy (V6 (o2 + 7)) (V6 (o + 7)) 0 0 8) := ⟨_, rfl⟩
  refine mjT_cpi (I' := V7) (n := 8) (n2 := 8) (sp := 0) (dp := 0) (m := 8) rfl (pc' := 95) rfl hG2.k7 hG.k7 rfl rfl rfl (by omega) (by omega) (by omega) (by decide) eV7.symm ?_
  refine mjT_ret rfl rfl rfl ?_
  have f0 : ∀ h, h ≠ o → V3 h = I h := fun h hh => by rw [st_h eV3 hh, st_h eV2 hh, st_h eV1 hh]
  have g : ∀ h, h ≠ o + 4 → h ≠ o + 5 → h ≠ o + 6 → h ≠ o + 7 → V7 h = I2 h := fun h a b c d => by rw [cp_h eV7 d, cp_h eV6 c, cp_h eV5 b, cp_h eV4 a]
  have g2 : ∀ k, 4 ≤ k → k ≤ 10 → I2 (o2 + k) = I (o2 + k) := fun k a b => by rw [hf2 _ (by omega), f0 _ (by omega)]
  refine ⟨rfl, _, rfl, ⟨?_, ?_, ?_, ?_, ?_, ?_, ?_, ?_, ?_, ?_, ?_, ?_⟩, fun h hh => by rw [g h (by omega) (by omega) (by omega) (by omega), hf2 _ (by omega), f0 _ (by omega)]⟩
  · rw [g _ (by omega) (by omega) (by omega) (by omega), hf2 _ (by omega), st_ne eV3 (by omega), st_ne eV2 (by omega)]; exact st_at eV1
  · rw [g _ (by omega) (by omega) (by omega) (by omega), hf2 _ (by omega), st_ne eV3 (by omega)]; exact st_at eV2
  · rw [g _ (by omega) (by omega) (by omega) (by omega), hf2 _ (by omega)]; exact st_at eV3
  · rw [g _ (by omega) (by omega) (by omega) (by omega), hf2 _ (by omega), st_ne eV3 (by omega), st_ne eV2 (by omega), st_ne eV1 (by omega)]; exact hla
  · rw [g _ (by omega) (by omega) (by omega) (by omega), hf2 _ (by omega), st_ne eV3 (by omega), st_ne eV2 (by omega), st_ne eV1 (by omega)]; exact hdr
  · rw [g _ (by omega) (by omega) (by omega) (by omega)]; exact hH2.day
  · intro p (hp : p < O.n)
    rw [cp_h eV7 (by omega), cp_h eV6 (by omega), cp_h eV5 (by omega), cp_at eV4 (by omega), g2 4 (by omega) (by omega)]; exact hO.kind p hp
  · intro p (hp : p < O.n)
    rw [cp_h eV7 (by omega), cp_h eV6 (by omega), cp_at eV5 (by omega), cp_h eV4 (by omega), g2 5 (by omega) (by omega)]; exact hO.str p hp
  · intro p (hp : p < O.n)
    rw [cp_h eV7 (by omega), cp_at eV6 (by omega), cp_h eV5 (by omega), cp_h eV4 (by omega), g2 6 (by omega) (by omega)]; exact hO.own p hp
  · intro c hc
    rw [cp_at eV7 (by omega), cp_h eV6 (by omega), cp_h eV5 (by omega), cp_h eV4 (by omega), g2 7 (by omega) (by omega)]
    exact (hO.sit c hc).trans (congrArg sI (sitL_ch (O := O) (O' := ldO O la dr) rfl c O.n))
  · intro p (hp : p < O.n) hP
    rw [g _ (by omega) (by omega) (by omega) (by omega)]; exact hH2.wr p hp hP
  · intro p (hp : p < O.n) hP k hk
    rw [g _ (by omega) (by omega) (by omega) (by omega)]; exact hH2.till p hp hP k hk
theorem c_become (hn : O.n ≤ 7) (hG : OfG o) (hG2 : OfG o2) (hd : o2 + 10 < o ∨ o + 10 < o2) (hO : RO I o2 O P) {la dr : Nat} (hla : I o 3 = nI la) (hdr : I o 4 = nI dr) : mj_E 10 [.ref o, .ref o2] (KC, I, J, GC) (fun w' r => r = none ∧ ∃ I', w' = (KC, I', J, GC) ∧ RO I' o O P ∧ ∀ h, (h < o ∨ o + 7 < h) → I' h = I h) := by
  refine mjT_go 2 (pc' := 2) (L' := [some (.ref o), some (.ref o2)]) (st' := [.ref o2, .ref o]) (w1 := (KC, I, J, GC)) rfl ?_
  refine mjT_call (as := [.ref o, .ref o2]) (rest := []) rfl rfl rfl (mj_callI rfl rfl hG.k0) rfl ⟨rfl, rfl⟩ (c_moveIn hn hG hG2 hd hO hla hdr) ?_
  rintro _ _ ⟨rfl, I2, rfl, hO2, hf2⟩
  refine mjT_go 2 (pc' := 7) (L' := [some (.ref o), some (.ref o2)]) (st' := [.ref o2, .ref o]) (w1 := (KC, I2, J, GC)) rfl ?_
  refine mjT_gfi (v := nI O.las) rfl (Or.inl rfl) (pc' := 10) rfl hG2.k0 ((by rw [hf2 _ (by omega)]; exact hO.las)) ?_
  obtain ⟨V1, eV1⟩ : ∃ z, z = mj_row I2 o (va_up (I2 o) 3 (nI O.las)) := ⟨_, rfl⟩
  refine mjT_pfi (I' := V1) rfl (pc' := 13) rfl hG.k0 eV1.symm ?_
  refine mjT_go 2 (pc' := 15) (L' := [some (.ref o), some (.ref o2)]) (st' := [.ref o2, .ref o]) (w1 := (KC, V1, J, GC)) rfl ?_
  refine mjT_gfi (v := nI O.draw) rfl (Or.inl rfl) (pc' := 18) rfl hG2.k0 ((by rw [st_h eV1 (by omega), hf2 _ (by omega)]; exact hO.draw)) ?_
  obtain ⟨V2, eV2⟩ : ∃ z, z = mj_row V1 o (va_up (V1 o) 4 (nI O.draw)) := ⟨_, rfl⟩
  refine mjT_pfi (I' := V2) rfl (pc' := 21) rfl hG.k0 eV2.symm ?_
  refine mjT_ret rfl rfl rfl ?_
  have g : ∀ h, h ≠ o → V2 h = I2 h := fun h hh => by rw [st_h eV2 hh, st_h eV1 hh]
  have g1 : ∀ k, k ≠ 3 → k ≠ 4 → V2 o k = I2 o k := fun k a b => by rw [st_ne eV2 b, st_ne eV1 a]
  refine ⟨rfl, _, rfl, ⟨?_, ?_, ?_, ?_, ?_, ?_, ?_, ?_, ?_, ?_, ?_, ?_⟩, fun h hh => by rw [g h (by omega), hf2 _ hh]⟩
  · rw [g1 _ (by omega) (by omega)]; exact hO2.n
  · rw [g1 _ (by omega) (by omega)]; exact hO2.dry
  · rw [g1 _ (by omega) (by omega)]; exact hO2.wet
  · rw [st_ne eV2 (by omega)]; exact st_at eV1
  · exact st_at eV2
  · rw [g _ (by omega)]; exact hO2.day
  · rw [g _ (by omega)]; exact hO2.kind
  · rw [g _ (by omega)]; exact hO2.str
  · rw [g _ (by omega)]; exact hO2.own
  · intro c hc
    rw [g _ (by omega)]
    exact (hO2.sit c hc).trans (congrArg sI (sitL_ch (O := ldO O la dr) (O' := O) rfl c O.n))
  · rw [g _ (by omega)]; exact hO2.wr
  · rw [g _ (by omega)]; exact hO2.till
end BE
