/-! the model's office -/
section MR
variable {I I' I0 : Nat → Nat → Int32} {J : Nat → Nat → Int64} {K : List (Nat × Nat)} {G : Nat → Nat → Option Nat} {tp : Nat → Nat} {tl pos p m : Nat} {O E O0 : Off} {P : Nat → Prop} {S : Sta}
abbrev RdM (tp : Nat → Nat) (tl : Nat) (I : Nat → Nat → Int32) (pos : Nat) : Prop :=
  (I 0 3 = nI tl) ∧
  (I 0 4 = nI pos) ∧
  (∀ j, j < tl → I 2 j = nI (tp j)) ∧
  (∀ j, j < tl → 32 ≤ tp j ∧ tp j ≤ 126) ∧
  (tl ≤ 130 ∧ pos ≤ tl)
theorem RdM.len {tp : Nat → Nat} {tl : Nat} {I : Nat → Nat → Int32} {pos : Nat} (zz : RdM tp tl I pos) : I 0 3 = nI tl := zz.1
theorem RdM.ps {tp : Nat → Nat} {tl : Nat} {I : Nat → Nat → Int32} {pos : Nat} (zz : RdM tp tl I pos) : I 0 4 = nI pos := zz.2.1
theorem RdM.lt {tp : Nat → Nat} {tl : Nat} {I : Nat → Nat → Int32} {pos : Nat} (zz : RdM tp tl I pos) : ∀ j, j < tl → I 2 j = nI (tp j) := zz.2.2.1
theorem RdM.rg {tp : Nat → Nat} {tl : Nat} {I : Nat → Nat → Int32} {pos : Nat} (zz : RdM tp tl I pos) : ∀ j, j < tl → 32 ≤ tp j ∧ tp j ≤ 126 := zz.2.2.2.1
theorem RdM.le {tp : Nat → Nat} {tl : Nat} {I : Nat → Nat → Int32} {pos : Nat} (zz : RdM tp tl I pos) : tl ≤ 130 ∧ pos ≤ tl := zz.2.2.2.2
abbrev FrN (I I' : Nat → Nat → Int32) : Prop := (∀ h, h ≠ 0 → I' h = I h) ∧ ∀ k, k ≠ 4 → I' 0 k = I 0 k
theorem rm_at (h : RdM tp tl I pos) {q : Nat} (h2 : I' 2 = I 2) (h3 : I' 0 3 = I 0 3) (hp : I' 0 4 = nI q) (hq : q ≤ tl) : RdM tp tl I' q :=
  ⟨h3.trans h.len, hp, fun j hj => by rw [h2]; exact h.lt j hj, h.rg, h.le.1, hq⟩
theorem rm_fr (h : RdM tp tl I pos) (h2 : I' 2 = I 2) (h3 : I' 0 3 = I 0 3) (h4 : I' 0 4 = I 0 4) : RdM tp tl I' pos := rm_at h h2 h3 (h4.trans h.ps) h.le.2
theorem fn_st {v : Int32} (e : I' = mj_row I 0 (va_up (I 0) 4 v)) : FrN I I' := ⟨fun h hh => st_h e hh, fun k hk => st_ne e hk⟩
theorem fn_tr {I2 : Nat → Nat → Int32} (h : FrN I I') (h' : FrN I' I2) : FrN I I2 := ⟨fun a b => (h'.1 a b).trans (h.1 a b), fun a b => (h'.2 a b).trans (h.2 a b)⟩
theorem rm_fn (h : RdM tp tl I pos) {q : Nat} (hf : FrN I I') (hp : I' 0 4 = nI q) (hq : q ≤ tl) : RdM tp tl I' q := rm_at h (hf.1 2 (by omega)) (hf.2 3 (by omega)) hp hq
theorem m_here (h : RdM tp tl I pos) : mj_E 154 [.ref 0] (KM, I, J, GM) (fun w' r => r = some (.int (tI (lcA tp tl (skN tp tl pos)))) ∧ ∃ I', w' = (KM, I', J, GM) ∧ RdM tp tl I' (skN tp tl pos) ∧ FrN I I') := by
  have hle := h.le
  have hge := sk_ge tp tl pos
  have hsl := sk_le (tp := tp) hle.2
  refine mjT_gen fun Q hQ => ?_
  refine mj_loop (fun k L w => ∃ I', L = [some (.ref 0)] ∧ w = (KM, I', J, GM) ∧ RdM tp tl I' (pos + k) ∧ FrN I I') (skN tp tl pos - pos) (k0 := 0) (Nat.zero_le _) ?_ ?_ ?_
  · exact ⟨_, rfl, rfl, h, fun _ _ => rfl, fun _ _ => rfl⟩
  · rintro k _ _ hk ⟨I2, rfl, rfl, h2, hf2⟩ hc
    obtain ⟨a1, a2⟩ := sk_in (tp := tp) (tl := tl) (p := pos) (j := pos + k) (by omega) (by omega)
    refine mjT_go 1 (pc' := 1) (L' := [some (.ref 0)]) (st' := [.ref 0]) (w1 := (KM, I2, J, GM)) rfl ?_
    refine mjT_gfi (v := nI (pos + k)) rfl (Or.inl rfl) (pc' := 4) rfl rfl (show I2 0 4 = nI (pos + k) from h2.ps) ?_
    refine mjT_go 1 (pc' := 5) (L' := [some (.ref 0)]) (st' := [.ref 0, .int (nI (pos + k))]) (w1 := (KM, I2, J, GM)) rfl ?_
    refine mjT_gfi (v := nI tl) rfl (Or.inl rfl) (pc' := 8) rfl rfl (show I2 0 3 = nI tl from h2.len) ?_
    refine mjT_go 1 (pc' := if nI tl ≤ nI (pos + k) then 38 else 11) (L' := [some (.ref 0)]) (st' := []) (w1 := (KM, I2, J, GM)) rfl ?_
    refine mjT_ifF (nI_ge (by omega) (by omega)) ?_
    refine mjT_go 3 (pc' := 16) (L' := [some (.ref 0)]) (st' := [.ref 0, .ref 2]) (w1 := (KM, I2, J, GM)) rfl ?_
    refine mjT_gfi (v := nI (pos + k)) rfl (Or.inl rfl) (pc' := 19) rfl rfl (show I2 0 4 = nI (pos + k) from h2.ps) ?_
    refine mjT_ial (v := nI (tp (pos + k))) (pos + k) 130 rfl (pc' := 20) rfl rfl rfl (by omega) (by omega) (show I2 2 (pos + k) = nI (tp (pos + k)) from (h2.lt _ a1)) ?_
    refine mjT_go 2 (pc' := if ¬ nI (tp (pos + k)) = nI 32 then 38 else 25) (L' := [some (.ref 0)]) (st' := []) (w1 := (KM, I2, J, GM)) rfl ?_
    refine mjT_ifF (fun q => q (by rw [a2])) ?_
    refine mjT_go 2 (pc' := 27) (L' := [some (.ref 0)]) (st' := [.ref 0, .ref 0]) (w1 := (KM, I2, J, GM)) rfl ?_
    refine mjT_gfi (v := nI (pos + k)) rfl (Or.inl rfl) (pc' := 30) rfl rfl (show I2 0 4 = nI (pos + k) from h2.ps) ?_
    refine mjT_go 2 (pc' := 32) (L' := [some (.ref 0)]) (st' := [.int ((nI (pos + k)) + (nI 1)), .ref 0]) (w1 := (KM, I2, J, GM)) rfl ?_
    obtain ⟨V1, eV1⟩ : ∃ z, z = mj_row I2 0 (va_up (I2 0) 4 ((nI (pos + k)) + (nI 1))) := ⟨_, rfl⟩
    refine mjT_pfi (I' := V1) rfl (pc' := 35) rfl rfl eV1.symm ?_
    refine mjT_go 1 (pc' := 0) (L' := [some (.ref 0)]) (st' := []) (w1 := (KM, V1, J, GM)) rfl ?_
    rw [nI_add] at eV1
    exact hc _ _ ⟨_, rfl, rfl, rm_fn h2 (fn_st eV1) (st_at eV1) (by omega), fn_tr hf2 (fn_st eV1)⟩
  · rintro _ _ ⟨I2, rfl, rfl, h2, hf2⟩
    rw [show pos + (skN tp tl pos - pos) = skN tp tl pos by omega] at h2
    have hst := sk_st tp tl pos
    generalize skN tp tl pos = q at *
    have fin : mj_To 154 38 [some (.ref 0)] [] (KM, I2, J, GM) Q := by
      refine mjT_go 1 (pc' := 39) (L' := [some (.ref 0)]) (st' := [.ref 0]) (w1 := (KM, I2, J, GM)) rfl ?_
      refine mjT_gfi (v := nI q) rfl (Or.inl rfl) (pc' := 42) rfl rfl (show I2 0 4 = nI q from h2.ps) ?_
      refine mjT_go 1 (pc' := 43) (L' := [some (.ref 0)]) (st' := [.ref 0, .int (nI q)]) (w1 := (KM, I2, J, GM)) rfl ?_
      refine mjT_gfi (v := nI tl) rfl (Or.inl rfl) (pc' := 46) rfl rfl (show I2 0 3 = nI tl from h2.len) ?_
      refine mjT_go 1 (pc' := if nI tl ≤ nI q then 61 else 49) (L' := [some (.ref 0)]) (st' := []) (w1 := (KM, I2, J, GM)) rfl ?_
      refine mjT_if_le (u := tl) (v := q) rfl rfl (by omega) (by omega) (fun h3 => ?_) (fun h3 => ?_)
      · refine mjT_go 1 (pc' := 63) (L' := [some (.ref 0)]) (st' := [.int (-4)]) (w1 := (KM, I2, J, GM)) rfl ?_
        refine mjT_ret rfl rfl rfl ?_
        refine hQ _ _ ⟨?_, _, rfl, h2, hf2⟩
        unfold lcA
        rw [if_neg (by omega)]; rfl
      · have hrg := h2.rg q h3
        refine mjT_go 3 (pc' := 54) (L' := [some (.ref 0)]) (st' := [.ref 0, .ref 2]) (w1 := (KM, I2, J, GM)) rfl ?_
        refine mjT_gfi (v := nI q) rfl (Or.inl rfl) (pc' := 57) rfl rfl (show I2 0 4 = nI q from h2.ps) ?_
        refine mjT_ial (v := nI (tp q)) q 130 rfl (pc' := 58) rfl rfl rfl (by omega) (by omega) (show I2 2 q = nI (tp q) from (h2.lt _ h3)) ?_
        refine mjT_go 1 (pc' := 63) (L' := [some (.ref 0)]) (st' := [.int (nI (tp q))]) (w1 := (KM, I2, J, GM)) rfl ?_
        refine mjT_ret rfl rfl rfl ?_
        refine hQ _ _ ⟨?_, _, rfl, h2, hf2⟩
        unfold lcA
        rw [if_pos h3, tI_s]
    refine mjT_go 1 (pc' := 1) (L' := [some (.ref 0)]) (st' := [.ref 0]) (w1 := (KM, I2, J, GM)) rfl ?_
    refine mjT_gfi (v := nI q) rfl (Or.inl rfl) (pc' := 4) rfl rfl (show I2 0 4 = nI q from h2.ps) ?_
    refine mjT_go 1 (pc' := 5) (L' := [some (.ref 0)]) (st' := [.ref 0, .int (nI q)]) (w1 := (KM, I2, J, GM)) rfl ?_
    refine mjT_gfi (v := nI tl) rfl (Or.inl rfl) (pc' := 8) rfl rfl (show I2 0 3 = nI tl from h2.len) ?_
    refine mjT_go 1 (pc' := if nI tl ≤ nI q then 38 else 11) (L' := [some (.ref 0)]) (st' := []) (w1 := (KM, I2, J, GM)) rfl ?_
    refine mjT_if_le (u := tl) (v := q) rfl rfl (by omega) (by omega) (fun h3 => ?_) (fun h3 => ?_)
    · exact fin
    · have hrg := h2.rg q h3
      refine mjT_go 3 (pc' := 16) (L' := [some (.ref 0)]) (st' := [.ref 0, .ref 2]) (w1 := (KM, I2, J, GM)) rfl ?_
      refine mjT_gfi (v := nI q) rfl (Or.inl rfl) (pc' := 19) rfl rfl (show I2 0 4 = nI q from h2.ps) ?_
      refine mjT_ial (v := nI (tp q)) q 130 rfl (pc' := 20) rfl rfl rfl (by omega) (by omega) (show I2 2 q = nI (tp q) from (h2.lt _ h3)) ?_
      refine mjT_go 2 (pc' := if ¬ nI (tp q) = nI 32 then 38 else 25) (L' := [some (.ref 0)]) (st' := []) (w1 := (KM, I2, J, GM)) rfl ?_
      refine mjT_ifT (fun z => hst ⟨h3, (nI_eq (by omega) (by omega)).mp z⟩) ?_
      exact fin
theorem m_need {wr b : Nat} (hp : I 0 4 = nI pos) (hw : I 0 5 = nI wr) (hw2 : wr < 2) (hb : b < 2) : mj_E 155 [.ref 0, .int (nI b)] (KM, I, J, GM) (fun w' r => r = none ∧ ∃ I', w' = (KM, I', J, GM) ∧ I' 0 5 = nI (if wr = 1 ∨ b = 0 then 1 else 0) ∧ I' 0 4 = nI (if wr = 1 ∨ b = 0 then pos else pos + 1) ∧ (∀ h, h ≠ 0 → I' h = I h) ∧ ∀ k, k ≠ 4 → k ≠ 5 → I' 0 k = I 0 k) := by
  refine mjT_gen fun Q hQ => ?_
  have f12 : (wr = 1 ∨ b = 0) → mj_To 155 12 [some (.ref 0), some (.int (nI b))] [.ref 0] (KM, I, J, GM) Q := fun hc => by
    rw [if_pos hc, if_pos hc] at hQ
    refine mjT_go 2 (pc' := 17) (L' := [some (.ref 0), some (.int (nI b))]) (st' := [.int (nI 1), .ref 0]) (w1 := (KM, I, J, GM)) rfl ?_
    obtain ⟨V1, eV1⟩ : ∃ z, z = mj_row I 0 (va_up (I 0) 5 (nI 1)) := ⟨_, rfl⟩
    refine mjT_pfb (I' := V1) rfl (pc' := 20) rfl rfl (by decide) eV1.symm ?_
    refine mjT_go 2 (pc' := 22) (L' := [some (.ref 0), some (.int (nI b))]) (st' := [.ref 0, .ref 0]) (w1 := (KM, V1, J, GM)) rfl ?_
    refine mjT_gfi (v := nI pos) rfl (Or.inl rfl) (pc' := 25) rfl rfl (show V1 0 4 = nI pos from ((st_ne eV1 (by omega)).trans hp)) ?_
    refine mjT_go 1 (pc' := 26) (L' := [some (.ref 0), some (.int (nI b))]) (st' := [.ref 0, .int (nI pos), .ref 0]) (w1 := (KM, V1, J, GM)) rfl ?_
    refine mjT_gfi (v := nI 1) rfl (Or.inr rfl) (pc' := 29) rfl rfl (show V1 0 5 = nI 1 from (st_at eV1)) ?_
    refine mjT_go 1 (pc' := if ¬ nI 1 = 0 then 36 else 32) (L' := [some (.ref 0), some (.int (nI b))]) (st' := [.int (nI pos), .ref 0]) (w1 := (KM, V1, J, GM)) rfl ?_
    refine mjT_ifT (by decide) ?_
    refine mjT_go 1 (pc' := 37) (L' := [some (.ref 0), some (.int (nI b))]) (st' := [.int (nI 0), .int (nI pos), .ref 0]) (w1 := (KM, V1, J, GM)) rfl ?_
    refine mjT_callE (as := [.int (nI 0)]) (rest := [.int (nI pos), .ref 0]) (r1 := some (.int (nI 0))) rfl rfl rfl rfl rfl ⟨rfl, rfl⟩ (m_one (by omega) _) ?_
    refine mjT_go 1 (pc' := 41) (L' := [some (.ref 0), some (.int (nI b))]) (st' := [.int ((nI pos) + (nI 0)), .ref 0]) (w1 := (KM, V1, J, GM)) rfl ?_
    obtain ⟨V2, eV2⟩ : ∃ z, z = mj_row V1 0 (va_up (V1 0) 4 ((nI pos) + (nI 0))) := ⟨_, rfl⟩
    refine mjT_pfi (I' := V2) rfl (pc' := 44) rfl rfl eV2.symm ?_
    rw [nI_add] at eV2
    refine mjT_ret rfl rfl rfl ?_
    exact hQ _ _ ⟨rfl, _, rfl, (st_ne eV2 (by omega)).trans (st_at eV1), st_at eV2, fun h hh => (st_h eV2 hh).trans (st_h eV1 hh), fun k h4 h5 => (st_ne eV2 h4).trans (st_ne eV1 h5)⟩
  refine mjT_go 2 (pc' := 2) (L' := [some (.ref 0), some (.int (nI b))]) (st' := [.ref 0, .ref 0]) (w1 := (KM, I, J, GM)) rfl ?_
  refine mjT_gfi (v := nI wr) rfl (Or.inr rfl) (pc' := 5) rfl rfl (show I 0 5 = nI wr from hw) ?_
  refine mjT_go 1 (pc' := if ¬ nI wr = 0 then 12 else 8) (L' := [some (.ref 0), some (.int (nI b))]) (st' := [.ref 0]) (w1 := (KM, I, J, GM)) rfl ?_
  refine mjT_if_ne (u := wr) (v := 0) rfl nI_0.symm (by omega) (by omega) (fun h1 => ?_) (fun h1 => ?_)
  · exact f12 (Or.inl (by omega))
  refine mjT_go 2 (pc' := if ¬ nI b = 0 then 16 else 12) (L' := [some (.ref 0), some (.int (nI b))]) (st' := [.ref 0]) (w1 := (KM, I, J, GM)) rfl ?_
  refine mjT_if_ne (u := b) (v := 0) rfl nI_0.symm (by omega) (by omega) (fun h2 => ?_) (fun h2 => ?_)
  rotate_left
  · exact f12 (Or.inr h2)
  rw [if_neg (by omega), if_neg (by omega)] at hQ
  refine mjT_go 1 (pc' := 17) (L' := [some (.ref 0), some (.int (nI b))]) (st' := [.int (nI 0), .ref 0]) (w1 := (KM, I, J, GM)) rfl ?_
  obtain ⟨V1, eV1⟩ : ∃ z, z = mj_row I 0 (va_up (I 0) 5 (nI 0)) := ⟨_, rfl⟩
  refine mjT_pfb (I' := V1) rfl (pc' := 20) rfl rfl (by decide) eV1.symm ?_
  refine mjT_go 2 (pc' := 22) (L' := [some (.ref 0), some (.int (nI b))]) (st' := [.ref 0, .ref 0]) (w1 := (KM, V1, J, GM)) rfl ?_
  refine mjT_gfi (v := nI pos) rfl (Or.inl rfl) (pc' := 25) rfl rfl (show V1 0 4 = nI pos from ((st_ne eV1 (by omega)).trans hp)) ?_
  refine mjT_go 1 (pc' := 26) (L' := [some (.ref 0), some (.int (nI b))]) (st' := [.ref 0, .int (nI pos), .ref 0]) (w1 := (KM, V1, J, GM)) rfl ?_
  refine mjT_gfi (v := nI 0) rfl (Or.inr rfl) (pc' := 29) rfl rfl (show V1 0 5 = nI 0 from (st_at eV1)) ?_
  refine mjT_go 1 (pc' := if ¬ nI 0 = 0 then 36 else 32) (L' := [some (.ref 0), some (.int (nI b))]) (st' := [.int (nI pos), .ref 0]) (w1 := (KM, V1, J, GM)) rfl ?_
  refine mjT_ifF (fun q => q nI_0) ?_
  refine mjT_go 2 (pc' := 37) (L' := [some (.ref 0), some (.int (nI b))]) (st' := [.int (nI 1), .int (nI pos), .ref 0]) (w1 := (KM, V1, J, GM)) rfl ?_
  refine mjT_callE (as := [.int (nI 1)]) (rest := [.int (nI pos), .ref 0]) (r1 := some (.int (nI 1))) rfl rfl rfl rfl rfl ⟨rfl, rfl⟩ (m_one (by omega) _) ?_
  refine mjT_go 1 (pc' := 41) (L' := [some (.ref 0), some (.int (nI b))]) (st' := [.int ((nI pos) + (nI 1)), .ref 0]) (w1 := (KM, V1, J, GM)) rfl ?_
  obtain ⟨V2, eV2⟩ : ∃ z, z = mj_row V1 0 (va_up (V1 0) 4 ((nI pos) + (nI 1))) := ⟨_, rfl⟩
  refine mjT_pfi (I' := V2) rfl (pc' := 44) rfl rfl eV2.symm ?_
  rw [nI_add] at eV2
  refine mjT_ret rfl rfl rfl ?_
  exact hQ _ _ ⟨rfl, _, rfl, (st_ne eV2 (by omega)).trans (st_at eV1), st_at eV2, fun h hh => (st_h eV2 hh).trans (st_h eV1 hh), fun k h4 h5 => (st_ne eV2 h4).trans (st_ne eV1 h5)⟩
theorem m_kindOf {c : Nat} (hc : c < 128) : mj_Ev 156 [.int (tI c)] (K, I, J, G) (K, I, J, G) (some (.int (tI (kdC c)))) := by
  refine mj_ev_of ?_
  unfold kdC
  refine mjT_go 3 (pc' := if ¬ tI c = nI 112 then 10 else 6) (L' := [some (.int (tI c))]) (st' := []) (w1 := (K, I, J, G)) rfl ?_
  refine mjT_if (fun h1 => ?_) (fun h1 => ?_)
  rotate_left
  · rw [Decidable.not_not, tI_eq (by omega) (by omega)] at h1
    rw [if_pos h1]
    refine mjT_go 2 (pc' := 42) (L' := [some (.int (tI c))]) (st' := [.int (nI 0)]) (w1 := (K, I, J, G)) rfl ?_
    refine mjT_ret rfl rfl rfl ?_
    exact ⟨rfl, rfl⟩
  rw [tI_eq (by omega) (by omega)] at h1
  rw [if_neg h1]
  refine mjT_go 3 (pc' := if ¬ tI c = nI 115 then 20 else 16) (L' := [some (.int (tI c))]) (st' := []) (w1 := (K, I, J, G)) rfl ?_
  refine mjT_if (fun h2 => ?_) (fun h2 => ?_)
  rotate_left
  · rw [Decidable.not_not, tI_eq (by omega) (by omega)] at h2
    rw [if_pos h2]
    refine mjT_go 2 (pc' := 42) (L' := [some (.int (tI c))]) (st' := [.int (nI 1)]) (w1 := (K, I, J, G)) rfl ?_
    refine mjT_ret rfl rfl rfl ?_
    exact ⟨rfl, rfl⟩
  rw [tI_eq (by omega) (by omega)] at h2
  rw [if_neg h2]
  refine mjT_go 3 (pc' := if ¬ tI c = nI 108 then 30 else 26) (L' := [some (.int (tI c))]) (st' := []) (w1 := (K, I, J, G)) rfl ?_
  refine mjT_if (fun h3 => ?_) (fun h3 => ?_)
  rotate_left
  · rw [Decidable.not_not, tI_eq (by omega) (by omega)] at h3
    rw [if_pos h3]
    refine mjT_go 2 (pc' := 42) (L' := [some (.int (tI c))]) (st' := [.int (nI 2)]) (w1 := (K, I, J, G)) rfl ?_
    refine mjT_ret rfl rfl rfl ?_
    exact ⟨rfl, rfl⟩
  rw [tI_eq (by omega) (by omega)] at h3
  rw [if_neg h3]
  refine mjT_go 3 (pc' := if ¬ tI c = nI 116 then 40 else 36) (L' := [some (.int (tI c))]) (st' := []) (w1 := (K, I, J, G)) rfl ?_
  refine mjT_if (fun h4 => ?_) (fun h4 => ?_)
  rotate_left
  · rw [Decidable.not_not, tI_eq (by omega) (by omega)] at h4
    rw [if_pos h4]
    refine mjT_go 2 (pc' := 42) (L' := [some (.int (tI c))]) (st' := [.int (nI 3)]) (w1 := (K, I, J, G)) rfl ?_
    refine mjT_ret rfl rfl rfl ?_
    exact ⟨rfl, rfl⟩
  rw [tI_eq (by omega) (by omega)] at h4
  rw [if_neg h4]
  refine mjT_go 1 (pc' := 42) (L' := [some (.int (tI c))]) (st' := [.int (-4)]) (w1 := (K, I, J, G)) rfl ?_
  refine mjT_ret rfl rfl rfl ?_
  exact ⟨rfl, rfl⟩
/-- what a person's reading leaves -/
abbrev FrQ (I I' : Nat → Nat → Int32) (m : Nat) : Prop := (∀ h, h ≠ 0 → h ≠ 3 → I' h = I h) ∧ (∀ k, k ≠ 4 → k ≠ 5 → k ≠ 7 → I' 0 k = I 0 k) ∧ ∀ a, a < 4 * m → I' 3 a = I 3 a
theorem fq_tr {I2 : Nat → Nat → Int32} (h : FrQ I I' m) (h' : FrQ I' I2 m) : FrQ I I2 m := ⟨fun a b c => (h'.1 a b c).trans (h.1 a b c), fun a b c d => (h'.2.1 a b c d).trans (h.2.1 a b c d), fun a b => (h'.2.2 a b).trans (h.2.2 a b)⟩
theorem fq_fn (h : FrN I I') : FrQ I I' m := ⟨fun a b _ => h.1 a b, fun k h4 _ _ => h.2 k h4, fun a _ => by rw [h.1 3 (by omega)]⟩
theorem fq_nd (h1 : ∀ h, h ≠ 0 → I' h = I h) (h2 : ∀ k, k ≠ 4 → k ≠ 5 → I' 0 k = I 0 k) : FrQ I I' m := ⟨fun a b _ => h1 a b, fun k a b _ => h2 k a b, fun a _ => by rw [h1 3 (by omega)]⟩
theorem fq_td {i : Nat} {v : Int32} (e : I' = mj_row I 3 (va_up (I 3) i v)) (hi : 4 * m ≤ i) : FrQ I I' m := ⟨fun h _ h3 => st_h e h3, fun k _ _ _ => by rw [st_h e (by omega)], fun a ha => st_ne e (by omega)⟩
theorem rm_td (h : RdM tp tl I pos) {i : Nat} {v : Int32} (e : I' = mj_row I 3 (va_up (I 3) i v)) : RdM tp tl I' pos := rm_fr h (st_h e (by omega)) (by rw [st_h e (by omega)]) (by rw [st_h e (by omega)])
theorem sitr_0 {c : Nat} : sitr E c = 0 ↔ ∀ j, j < E.n → E.chair j ≠ c := by
  constructor
  · exact fun h => sitL_none h
  · intro h
    cases hs : sitr E c with
    | zero => rfl
    | succ q =>
      obtain ⟨h1, h2⟩ := sitL_some (q := E.n) hs
      exact absurd h2 (h q h1)
theorem m_readPerson (hm : m ≤ 6) (hEn : E.n = m) (h : RdM tp tl I p) (hw : I 0 5 = nI 0) (hmm : I 0 7 = nI m) (hch : ∀ j, j < m → I 3 (4 * j + 3) = nI (E.chair j)) (hc8 : ∀ j, j < m → E.chair j < 8) : mj_E 157 [.ref 0] (KM, I, J, GM) (fun w' r => r = none ∧ ∃ I', w' = (KM, I', J, GM) ∧ FrQ I I' m ∧ I' 0 7 = nI (m + 1) ∧ ((frP tp tl E p = 10 ∧ I' 0 5 = nI 0 ∧ RdM tp tl I' (rwN tp tl p 10) ∧ I' 3 (4 * m) = nI (gdN tp tl E p 0 - 1) ∧ I' 3 (4 * m + 1) = nI (gdN tp tl E p 1 - 1) ∧ I' 3 (4 * m + 2) = nI (hdN tp tl E p) ∧ I' 3 (4 * m + 3) = nI (gdN tp tl E p 9 - 1)) ∨ (frP tp tl E p ≠ 10 ∧ I' 0 5 = nI 1 ∧ RdM tp tl I' (qN tp tl p (frP tp tl E p))))) := by
  refine mjT_gen fun Q hQ => ?_
  have lcb : ∀ i, tkN tp tl p i < 128 := fun i => lc_le h.rg _
  have tlt : ∀ i, tkN tp tl p i ≠ 0 → qN tp tl p i < tl := fun i hi => tk_lt hi
  -- the end of a person
  have g262 : ∀ (I' : Nat → Nat → Int32) (d2 d3 d4 : Option Value), FrQ I I' m → I' 0 7 = nI m → ((frP tp tl E p = 10 ∧ I' 0 5 = nI 0 ∧ RdM tp tl I' (rwN tp tl p 10) ∧ I' 3 (4 * m) = nI (gdN tp tl E p 0 - 1) ∧ I' 3 (4 * m + 1) = nI (gdN tp tl E p 1 - 1) ∧ I' 3 (4 * m + 2) = nI (hdN tp tl E p) ∧ I' 3 (4 * m + 3) = nI (gdN tp tl E p 9 - 1)) ∨ (frP tp tl E p ≠ 10 ∧ I' 0 5 = nI 1 ∧ RdM tp tl I' (qN tp tl p (frP tp tl E p)))) → mj_To 157 262 [some (.ref 0), some (.int (nI (4 * m))), d2, d3, d4] [] (KM, I', J, GM) Q := fun I' d2 d3 d4 hf h7 hor => by
    refine mjT_go 2 (pc' := 264) (L' := [some (.ref 0), some (.int (nI (4 * m))), d2, d3, d4]) (st' := [.ref 0, .ref 0]) (w1 := (KM, I', J, GM)) rfl ?_
    refine mjT_gfi (v := nI m) rfl (Or.inl rfl) (pc' := 267) rfl rfl (show I' 0 7 = nI m from h7) ?_
    refine mjT_go 2 (pc' := 269) (L' := [some (.ref 0), some (.int (nI (4 * m))), d2, d3, d4]) (st' := [.int ((nI m) + (nI 1)), .ref 0]) (w1 := (KM, I', J, GM)) rfl ?_
    obtain ⟨V1, eV1⟩ : ∃ z, z = mj_row I' 0 (va_up (I' 0) 7 ((nI m) + (nI 1))) := ⟨_, rfl⟩
    refine mjT_pfi (I' := V1) rfl (pc' := 272) rfl rfl eV1.symm ?_
    rw [nI_add] at eV1
    refine mjT_ret rfl rfl rfl ?_
    have e0 : ∀ k, k ≠ 7 → V1 0 k = I' 0 k := fun k hk => st_ne eV1 hk
    have e3 : V1 3 = I' 3 := st_h eV1 (by omega)
    have rmv : ∀ q, RdM tp tl I' q → RdM tp tl V1 q := fun q hq => rm_fr hq (st_h eV1 (by omega)) (e0 3 (by omega)) (e0 4 (by omega))
    refine hQ _ _ ⟨rfl, _, rfl, ⟨fun a b c => (st_h eV1 b).trans (hf.1 a b c), fun k a b c => (e0 k c).trans (hf.2.1 k a b c), fun a ha => by rw [e3]; exact hf.2.2 a ha⟩, st_at eV1, ?_⟩
    rcases hor with ⟨x1, x2, x3, x4, x5, x6, x7⟩ | ⟨x1, x2, x3⟩
    · exact Or.inl ⟨x1, (e0 5 (by omega)).trans x2, rmv _ x3, by rw [e3]; exact x4, by rw [e3]; exact x5, by rw [e3]; exact x6, by rw [e3]; exact x7⟩
    · exact Or.inr ⟨x1, (e0 5 (by omega)).trans x2, rmv _ x3⟩
  have bad : ∀ i, i < 10 → gdN tp tl E p i = 0 → (∀ j, j < i → gdN tp tl E p j ≠ 0) → frP tp tl E p = i ∧ frP tp tl E p ≠ 10 := fun i hi h0 hj => by
    have e : frP tp tl E p = i := fst_at h0 hj hi
    exact ⟨e, by omega⟩
  have b160 : ∀ (I' : Nat → Nat → Int32) (d2 d3 d4 : Option Value), frP tp tl E p ≠ 10 → FrQ I I' m → I' 0 7 = nI m → I' 0 5 = nI 1 → RdM tp tl I' (qN tp tl p (frP tp tl E p)) → mj_To 157 160 [some (.ref 0), some (.int (nI (4 * m))), d2, d3, d4] [] (KM, I', J, GM) Q := fun I' d2 d3 d4 hne hf h7 h5 hr => by
    refine mjT_go 1 (pc' := 161) (L' := [some (.ref 0), some (.int (nI (4 * m))), d2, d3, d4]) (st' := [.ref 0]) (w1 := (KM, I', J, GM)) rfl ?_
    refine mjT_gfi (v := nI 1) rfl (Or.inr rfl) (pc' := 164) rfl rfl (show I' 0 5 = nI 1 from h5) ?_
    refine mjT_go 1 (pc' := if ¬ nI 1 = 0 then 185 else 167) (L' := [some (.ref 0), some (.int (nI (4 * m))), d2, d3, d4]) (st' := []) (w1 := (KM, I', J, GM)) rfl ?_
    refine mjT_ifT (by decide) ?_
    refine mjT_go 1 (pc' := 186) (L' := [some (.ref 0), some (.int (nI (4 * m))), d2, d3, d4]) (st' := [.ref 0]) (w1 := (KM, I', J, GM)) rfl ?_
    refine mjT_gfi (v := nI 1) rfl (Or.inr rfl) (pc' := 189) rfl rfl (show I' 0 5 = nI 1 from h5) ?_
    refine mjT_go 1 (pc' := if ¬ nI 1 = 0 then 262 else 192) (L' := [some (.ref 0), some (.int (nI (4 * m))), d2, d3, d4]) (st' := []) (w1 := (KM, I', J, GM)) rfl ?_
    refine mjT_ifT (by decide) ?_
    exact g262 _ _ _ _ hf h7 (Or.inr ⟨hne, h5, hr⟩)
  have b99 : ∀ (I' : Nat → Nat → Int32) (k : Nat) (d3 d4 : Option Value), k ≤ 6 → frP tp tl E p ≠ 10 → FrQ I I' m → I' 0 7 = nI m → I' 0 5 = nI 1 → RdM tp tl I' (qN tp tl p (frP tp tl E p)) → mj_To 157 99 [some (.ref 0), some (.int (nI (4 * m))), some (.int (nI k)), d3, d4] [] (KM, I', J, GM) Q := fun I' k d3 d4 hk hne hf h7 h5 hr => by
    refine mjT_go 3 (pc' := if nI 6 ≤ nI k then 160 else 105) (L' := [some (.ref 0), some (.int (nI (4 * m))), some (.int (nI k)), d3, d4]) (st' := []) (w1 := (KM, I', J, GM)) rfl ?_
    refine mjT_if_le (u := 6) (v := k) rfl rfl (by omega) (by omega) (fun hk6 => ?_) (fun hk6 => ?_)
    · exact b160 _ _ _ _ hne hf h7 h5 hr
    refine mjT_go 1 (pc' := 106) (L' := [some (.ref 0), some (.int (nI (4 * m))), some (.int (nI k)), d3, d4]) (st' := [.ref 0]) (w1 := (KM, I', J, GM)) rfl ?_
    refine mjT_gfi (v := nI 1) rfl (Or.inr rfl) (pc' := 109) rfl rfl (show I' 0 5 = nI 1 from h5) ?_
    refine mjT_go 1 (pc' := if ¬ nI 1 = 0 then 160 else 112) (L' := [some (.ref 0), some (.int (nI (4 * m))), some (.int (nI k)), d3, d4]) (st' := []) (w1 := (KM, I', J, GM)) rfl ?_
    refine mjT_ifT (by decide) ?_
    exact b160 _ _ _ _ hne hf h7 h5 hr
  have b88 : ∀ (I' : Nat → Nat → Int32) (d2 d3 d4 : Option Value), frP tp tl E p ≠ 10 → FrQ I I' m → I' 0 7 = nI m → I' 0 5 = nI 1 → RdM tp tl I' (qN tp tl p (frP tp tl E p)) → mj_To 157 88 [some (.ref 0), some (.int (nI (4 * m))), d2, d3, d4] [] (KM, I', J, GM) Q := fun I' d2 d3 d4 hne hf h7 h5 hr => by
    refine mjT_go 6 (pc' := 96) (L' := [some (.ref 0), some (.int (nI (4 * m))), d2, d3, d4]) (st' := [.int (nI 0), .int ((nI (4 * m)) + (nI 2)), .ref 3]) (w1 := (KM, I', J, GM)) rfl ?_
    obtain ⟨V2, eV2⟩ : ∃ z, z = mj_row I' 3 (va_up (I' 3) ((4 * m) + 2) (nI 0)) := ⟨_, rfl⟩
    refine mjT_ias (I' := V2) ((4 * m) + 2) 28 rfl (pc' := 97) rfl rfl (by simp only [nI_add, pk_mul]) (by omega) (by omega) eV2.symm ?_
    refine mjT_go 2 (pc' := 99) (L' := [some (.ref 0), some (.int (nI (4 * m))), some (.int (nI 0)), d3, d4]) (st' := []) (w1 := (KM, V2, J, GM)) rfl ?_
    exact b99 _ 0 _ _ (by omega) hne (fq_tr hf (fq_td eV2 (by omega))) (by rw [st_h eV2 (by omega)]; exact h7) (by rw [st_h eV2 (by omega)]; exact h5) (rm_td hr eV2)
  have b38 : ∀ (I' : Nat → Nat → Int32) (d2 d3 d4 : Option Value), frP tp tl E p ≠ 10 → FrQ I I' m → I' 0 7 = nI m → I' 0 5 = nI 1 → RdM tp tl I' (qN tp tl p (frP tp tl E p)) → mj_To 157 38 [some (.ref 0), some (.int (nI (4 * m))), d2, d3, d4] [] (KM, I', J, GM) Q := fun I' d2 d3 d4 hne hf h7 h5 hr => by
    have l1 := m_here (J := J) hr
    rw [q_q] at l1
    refine mjT_go 6 (pc' := 46) (L' := [some (.ref 0), some (.int (nI (4 * m))), d2, d3, d4]) (st' := [.ref 0, .int ((nI (4 * m)) + (nI 1)), .ref 3]) (w1 := (KM, I', J, GM)) rfl ?_
    refine mjT_call (as := [.ref 0]) (rest := [.int ((nI (4 * m)) + (nI 1)), .ref 3]) rfl rfl rfl rfl rfl ⟨rfl, rfl⟩ (l1) ?_
    rintro _ _ ⟨rfl, I2, rfl, h2, hf2⟩
    refine mjT_go 2 (pc' := 52) (L' := [some (.ref 0), some (.int (nI (4 * m))), d2, d3, d4]) (st' := [.int ((tI (lcA tp tl (qN tp tl p (frP tp tl E p)))) - (nI 48)), .int ((nI (4 * m)) + (nI 1)), .ref 3]) (w1 := (KM, I2, J, GM)) rfl ?_
    obtain ⟨V3, eV3⟩ : ∃ z, z = mj_row I2 3 (va_up (I2 3) ((4 * m) + 1) ((tI (lcA tp tl (qN tp tl p (frP tp tl E p)))) - (nI 48))) := ⟨_, rfl⟩
    refine mjT_ias (I' := V3) ((4 * m) + 1) 28 rfl (pc' := 53) rfl rfl (by simp only [nI_add, pk_mul]) (by omega) (by omega) eV3.symm ?_
    have h5b : V3 0 5 = nI 1 := by rw [st_h eV3 (by omega), hf2.2 5 (by omega)]; exact h5
    have h2b := rm_td h2 eV3
    refine mjT_go 2 (pc' := 55) (L' := [some (.ref 0), some (.int (nI (4 * m))), d2, d3, d4]) (st' := [.ref 0, .ref 0]) (w1 := (KM, V3, J, GM)) rfl ?_
    refine mjT_gfi (v := nI 1) rfl (Or.inr rfl) (pc' := 58) rfl rfl (show V3 0 5 = nI 1 from h5b) ?_
    refine mjT_go 1 (pc' := if ¬ nI 1 = 0 then 80 else 61) (L' := [some (.ref 0), some (.int (nI (4 * m))), d2, d3, d4]) (st' := [.ref 0]) (w1 := (KM, V3, J, GM)) rfl ?_
    refine mjT_ifT (by decide) ?_
    refine mjT_go 2 (pc' := 85) (L' := [some (.ref 0), some (.int (nI (4 * m))), d2, d3, d4]) (st' := [.int (nI 1), .ref 0]) (w1 := (KM, V3, J, GM)) rfl ?_
    refine mjT_call (as := [.ref 0, .int (nI 1)]) (rest := []) rfl rfl rfl rfl rfl ⟨rfl, rfl⟩ (m_need h2b.ps h5b (by omega) (by omega)) ?_
    rintro _ _ ⟨rfl, I4, rfl, n5, n4, nh, nk⟩
    rw [if_pos (Or.inl rfl)] at n5 n4
    exact b88 _ _ _ _ hne (fq_tr hf (fq_tr (fq_fn hf2) (fq_tr (fq_td eV3 (by omega)) (fq_nd nh nk)))) (by rw [nk 7 (by omega) (by omega), st_h eV3 (by omega), hf2.2 7 (by omega)]; exact h7) n5 (rm_at h2b (nh 2 (by omega)) (nk 3 (by omega) (by omega)) n4 h2b.le.2)
  have e0d : gdN tp tl E p 0 = kdC (tkN tp tl p 0) := rfl
  have k0l := kd_lt (tkN tp tl p 0)
  have l0 := m_here (J := J) h
  rw [show lcA tp tl (skN tp tl p) = tkN tp tl p 0 from rfl] at l0
  refine mjT_go 2 (pc' := 2) (L' := [some (.ref 0), none, none, none, none]) (st' := [.ref 0, .int (nI 4)]) (w1 := (KM, I, J, GM)) rfl ?_
  refine mjT_gfi (v := nI m) rfl (Or.inl rfl) (pc' := 5) rfl rfl (show I 0 7 = nI m from hmm) ?_
  refine mjT_go 1 (pc' := 6) (L' := [some (.ref 0), none, none, none, none]) (st' := [.int ((nI 4) * (nI m))]) (w1 := (KM, I, J, GM)) rfl ?_
  rw [pk_mul]
  refine mjT_go 5 (pc' := 13) (L' := [some (.ref 0), some (.int (nI (4 * m))), none, none, none]) (st' := [.ref 0, .int (nI (4 * m)), .ref 3]) (w1 := (KM, I, J, GM)) rfl ?_
  refine mjT_call (as := [.ref 0]) (rest := [.int (nI (4 * m)), .ref 3]) rfl rfl rfl rfl rfl ⟨rfl, rfl⟩ (l0) ?_
  rintro _ _ ⟨rfl, I2, rfl, h2, hf2⟩
  refine mjT_callE (as := [.int (tI (tkN tp tl p 0))]) (rest := [.int (nI (4 * m)), .ref 3]) (r1 := some (.int (tI (kdC (tkN tp tl p 0))))) rfl rfl rfl rfl rfl ⟨rfl, rfl⟩ (m_kindOf (lcb 0)) ?_
  rw [← e0d]
  rw [← e0d] at k0l
  obtain ⟨V1, eV1⟩ : ∃ z, z = mj_row I2 3 (va_up (I2 3) (4 * m) (tI (gdN tp tl E p 0))) := ⟨_, rfl⟩
  refine mjT_ias (I' := V1) (4 * m) 28 rfl (pc' := 20) rfl rfl rfl (by omega) (by omega) eV1.symm ?_
  have w1 : V1 0 5 = nI 0 := by rw [st_h eV1 (by omega), hf2.2 5 (by omega)]; exact hw
  have m1 : V1 0 7 = nI m := by rw [st_h eV1 (by omega), hf2.2 7 (by omega)]; exact hmm
  have r1 : RdM tp tl V1 (qN tp tl p 0) := rm_td h2 eV1
  have f1 : FrQ I V1 m := fq_tr (fq_fn hf2) (fq_td eV1 (by omega))
  have t0 : V1 3 (4 * m) = tI (gdN tp tl E p 0) := st_at eV1
  have k0 := kd_n0 (c := tkN tp tl p 0)
  rw [← e0d] at k0
  refine mjT_go 4 (pc' := 26) (L' := [some (.ref 0), some (.int (nI (4 * m))), none, none, none]) (st' := [.int (nI (4 * m)), .ref 3, .ref 0]) (w1 := (KM, V1, J, GM)) rfl ?_
  refine mjT_ial (v := tI (gdN tp tl E p 0)) (4 * m) 28 rfl (pc' := 27) rfl rfl rfl (by omega) (by omega) (show V1 3 (4 * m) = tI (gdN tp tl E p 0) from t0) ?_
  refine mjT_go 1 (pc' := if tI (gdN tp tl E p 0) < 0 then 34 else 30) (L' := [some (.ref 0), some (.int (nI (4 * m))), none, none, none]) (st' := [.ref 0]) (w1 := (KM, V1, J, GM)) rfl ?_
  refine mjT_if (fun h3 => ?_) (fun h3 => ?_)
  · rw [tI_neg (by omega)] at h3
    refine mjT_go 1 (pc' := 35) (L' := [some (.ref 0), some (.int (nI (4 * m))), none, none, none]) (st' := [.int (nI 0), .ref 0]) (w1 := (KM, V1, J, GM)) rfl ?_
    refine mjT_call (as := [.ref 0, .int (nI 0)]) (rest := []) rfl rfl rfl rfl rfl ⟨rfl, rfl⟩ (m_need r1.ps w1 (by omega) (by omega)) ?_
    rintro _ _ ⟨rfl, I5, rfl, n5, n4, nh, nk⟩
    rw [if_pos (Or.inr rfl)] at n5 n4
    obtain ⟨b1, b2⟩ := bad 0 (by omega) h3 (fun _ h => absurd h (by omega))
    exact b38 _ _ _ _ b2 (fq_tr f1 (fq_nd nh nk)) (by rw [nk 7 (by omega) (by omega)]; exact m1) n5 (by rw [b1]; exact rm_at r1 (nh 2 (by omega)) (nk 3 (by omega) (by omega)) n4 r1.le.2)
  rw [tI_neg (by omega)] at h3
  have q0 := tlt 0 (k0 h3)
  refine mjT_go 2 (pc' := 35) (L' := [some (.ref 0), some (.int (nI (4 * m))), none, none, none]) (st' := [.int (nI 1), .ref 0]) (w1 := (KM, V1, J, GM)) rfl ?_
  refine mjT_call (as := [.ref 0, .int (nI 1)]) (rest := []) rfl rfl rfl rfl rfl ⟨rfl, rfl⟩ (m_need r1.ps w1 (by omega) (by omega)) ?_
  rintro _ _ ⟨rfl, I5, rfl, n5, n4, nh, nk⟩
  rw [if_neg (by omega)] at n5 n4
  have m5 : I5 0 7 = nI m := by rw [nk 7 (by omega) (by omega)]; exact m1
  have r5 : RdM tp tl I5 (rwN tp tl p 1) := rm_at r1 (nh 2 (by omega)) (nk 3 (by omega) (by omega)) n4 q0
  have f5 : FrQ I I5 m := fq_tr f1 (fq_nd nh nk)
  have t5 : I5 3 (4 * m) = nI (gdN tp tl E p 0 - 1) := by
    rw [nh 3 (by omega), t0]
    obtain ⟨v, hv⟩ : ∃ v, gdN tp tl E p 0 = v + 1 := ⟨gdN tp tl E p 0 - 1, by omega⟩
    rw [hv, tI_s, Nat.add_sub_cancel]
  have g0 : ∀ j, j < 1 → gdN tp tl E p j ≠ 0 := fun j hj => by
    obtain rfl : j = 0 := by omega
    exact h3
  have e1d : gdN tp tl E p 1 = dgC (tkN tp tl p 1) 9 := rfl
  have d1 := dgt_9 _ (lcb 1)
  have dl1 := dg_le (tkN tp tl p 1) 9
  have dn1 := dg_n0 (c := tkN tp tl p 1) (g := 9)
  rw [← e1d] at d1 dl1 dn1
  have l1 := m_here (J := J) r5
  rw [rw_q, show lcA tp tl (qN tp tl p 1) = tkN tp tl p 1 from rfl] at l1
  refine mjT_go 6 (pc' := 46) (L' := [some (.ref 0), some (.int (nI (4 * m))), none, none, none]) (st' := [.ref 0, .int ((nI (4 * m)) + (nI 1)), .ref 3]) (w1 := (KM, I5, J, GM)) rfl ?_
  refine mjT_call (as := [.ref 0]) (rest := [.int ((nI (4 * m)) + (nI 1)), .ref 3]) rfl rfl rfl rfl rfl ⟨rfl, rfl⟩ (l1) ?_
  rintro _ _ ⟨rfl, I6, rfl, h6, hf6⟩
  refine mjT_go 2 (pc' := 52) (L' := [some (.ref 0), some (.int (nI (4 * m))), none, none, none]) (st' := [.int ((tI (tkN tp tl p 1)) - (nI 48)), .int ((nI (4 * m)) + (nI 1)), .ref 3]) (w1 := (KM, I6, J, GM)) rfl ?_
  obtain ⟨V2, eV2⟩ : ∃ z, z = mj_row I6 3 (va_up (I6 3) ((4 * m) + 1) ((tI (tkN tp tl p 1)) - (nI 48))) := ⟨_, rfl⟩
  refine mjT_ias (I' := V2) ((4 * m) + 1) 28 rfl (pc' := 53) rfl rfl (by simp only [nI_add, pk_mul]) (by omega) (by omega) eV2.symm ?_
  have w6 : V2 0 5 = nI 0 := by rw [st_h eV2 (by omega), hf6.2 5 (by omega)]; exact n5
  have m6 : V2 0 7 = nI m := by rw [st_h eV2 (by omega), hf6.2 7 (by omega)]; exact m5
  have r6 : RdM tp tl V2 (qN tp tl p 1) := rm_td h6 eV2
  have f6 : FrQ I V2 m := fq_tr f5 (fq_tr (fq_fn hf6) (fq_td eV2 (by omega)))
  have t60 : V2 3 (4 * m) = nI (gdN tp tl E p 0 - 1) := by rw [st_ne eV2 (by omega), hf6.1 3 (by omega)]; exact t5
  have t61 : V2 3 (4 * m + 1) = tI (tkN tp tl p 1) - nI 48 := st_at eV2
  refine mjT_go 2 (pc' := 55) (L' := [some (.ref 0), some (.int (nI (4 * m))), none, none, none]) (st' := [.ref 0, .ref 0]) (w1 := (KM, V2, J, GM)) rfl ?_
  refine mjT_gfi (v := nI 0) rfl (Or.inr rfl) (pc' := 58) rfl rfl (show V2 0 5 = nI 0 from w6) ?_
  refine mjT_go 1 (pc' := if ¬ nI 0 = 0 then 80 else 61) (L' := [some (.ref 0), some (.int (nI (4 * m))), none, none, none]) (st' := [.ref 0]) (w1 := (KM, V2, J, GM)) rfl ?_
  refine mjT_ifF (fun q => q nI_0) ?_
  refine mjT_go 5 (pc' := 68) (L' := [some (.ref 0), some (.int (nI (4 * m))), none, none, none]) (st' := [.int ((nI (4 * m)) + (nI 1)), .ref 3, .ref 0]) (w1 := (KM, V2, J, GM)) rfl ?_
  refine mjT_ial (v := tI (tkN tp tl p 1) - nI 48) ((4 * m) + 1) 28 rfl (pc' := 69) rfl rfl (by simp only [nI_add, pk_mul]) (by omega) (by omega) (mo_at (show V2 3 (4 * m + 1) = tI (tkN tp tl p 1) - nI 48 from t61) (by omega) (by omega)) ?_
  refine mjT_go 3 (pc' := 74) (L' := [some (.ref 0), some (.int (nI (4 * m))), none, none, none]) (st' := [.long (lN 9), .long (lN 0), .long ((tI (tkN tp tl p 1) - nI 48).toInt64), .ref 0]) (w1 := (KM, V2, J, GM)) rfl ?_
  refine mjT_callE (as := [.long ((tI (tkN tp tl p 1) - nI 48).toInt64), .long (lN 0), .long (lN 9)]) (rest := [.ref 0]) (r1 := some (.int (nI (iR (tI (tkN tp tl p 1) - nI 48) 0 9)))) rfl rfl rfl rfl rfl ⟨rfl, rfl⟩ (m_inR (by decide) (by decide)) ?_
  rw [d1.1]
  by_cases z1 : gdN tp tl E p 1 = 0
  · rw [if_pos z1]
    refine mjT_go 1 (pc' := if nI 0 = 0 then 84 else 80) (L' := [some (.ref 0), some (.int (nI (4 * m))), none, none, none]) (st' := [.ref 0]) (w1 := (KM, V2, J, GM)) rfl ?_
    refine mjT_ifT nI_0 ?_
    refine mjT_go 1 (pc' := 85) (L' := [some (.ref 0), some (.int (nI (4 * m))), none, none, none]) (st' := [.int (nI 0), .ref 0]) (w1 := (KM, V2, J, GM)) rfl ?_
    refine mjT_call (as := [.ref 0, .int (nI 0)]) (rest := []) rfl rfl rfl rfl rfl ⟨rfl, rfl⟩ (m_need r6.ps w6 (by omega) (by omega)) ?_
    rintro _ _ ⟨rfl, I7, rfl, n75, n74, nh7, nk7⟩
    rw [if_pos (Or.inr rfl)] at n75 n74
    obtain ⟨b1, b2⟩ := bad 1 (by omega) z1 g0
    exact b88 _ _ _ _ b2 (fq_tr f6 (fq_nd nh7 nk7)) (by rw [nk7 7 (by omega) (by omega)]; exact m6) n75 (by rw [b1]; exact rm_at r6 (nh7 2 (by omega)) (nk7 3 (by omega) (by omega)) n74 r6.le.2)
  rw [if_neg z1]
  have q1 := tlt 1 (dn1 z1)
  have g1 : ∀ j, j < 2 → gdN tp tl E p j ≠ 0 := fun j hj => by
    by_cases e : j = 1
    · rw [e]; exact z1
    · exact g0 j (by omega)
  refine mjT_go 1 (pc' := if nI 1 = 0 then 84 else 80) (L' := [some (.ref 0), some (.int (nI (4 * m))), none, none, none]) (st' := [.ref 0]) (w1 := (KM, V2, J, GM)) rfl ?_
  refine mjT_ifF (by decide) ?_
  refine mjT_go 2 (pc' := 85) (L' := [some (.ref 0), some (.int (nI (4 * m))), none, none, none]) (st' := [.int (nI 1), .ref 0]) (w1 := (KM, V2, J, GM)) rfl ?_
  refine mjT_call (as := [.ref 0, .int (nI 1)]) (rest := []) rfl rfl rfl rfl rfl ⟨rfl, rfl⟩ (m_need r6.ps w6 (by omega) (by omega)) ?_
  rintro _ _ ⟨rfl, I7, rfl, n75, n74, nh7, nk7⟩
  rw [if_neg (by omega)] at n75 n74
  have m7 : I7 0 7 = nI m := by rw [nk7 7 (by omega) (by omega)]; exact m6
  have r7 : RdM tp tl I7 (rwN tp tl p 2) := rm_at r6 (nh7 2 (by omega)) (nk7 3 (by omega) (by omega)) n74 q1
  have f7 : FrQ I I7 m := fq_tr f6 (fq_nd nh7 nk7)
  have t70 : I7 3 (4 * m) = nI (gdN tp tl E p 0 - 1) := by rw [nh7 3 (by omega)]; exact t60
  have t71 : I7 3 (4 * m + 1) = nI (gdN tp tl E p 1 - 1) := by rw [nh7 3 (by omega), t61, d1.2 z1]
  refine mjT_go 6 (pc' := 96) (L' := [some (.ref 0), some (.int (nI (4 * m))), none, none, none]) (st' := [.int (nI 0), .int ((nI (4 * m)) + (nI 2)), .ref 3]) (w1 := (KM, I7, J, GM)) rfl ?_
  obtain ⟨V3, eV3⟩ : ∃ z, z = mj_row I7 3 (va_up (I7 3) ((4 * m) + 2) (nI 0)) := ⟨_, rfl⟩
  refine mjT_ias (I' := V3) ((4 * m) + 2) 28 rfl (pc' := 97) rfl rfl (by simp only [nI_add, pk_mul]) (by omega) (by omega) eV3.symm ?_
  refine mjT_go 2 (pc' := 99) (L' := [some (.ref 0), some (.int (nI (4 * m))), some (.int (nI 0)), none, none]) (st' := []) (w1 := (KM, V3, J, GM)) rfl ?_
  have m8 : V3 0 7 = nI m := by rw [st_h eV3 (by omega)]; exact m7
  have w8 : V3 0 5 = nI 0 := by rw [st_h eV3 (by omega)]; exact n75
  have r8 : RdM tp tl V3 (rwN tp tl p 2) := rm_td r7 eV3
  have f8 : FrQ I V3 m := fq_tr f7 (fq_td eV3 (by omega))
  have t80 : V3 3 (4 * m) = nI (gdN tp tl E p 0 - 1) := (st_ne eV3 (by omega)).trans t70
  have t81 : V3 3 (4 * m + 1) = nI (gdN tp tl E p 1 - 1) := (st_ne eV3 (by omega)).trans t71
  refine mj_loop (fun k L w => ∃ (d3 : Option Value) (I' : Nat → Nat → Int32), L = [some (.ref 0), some (.int (nI (4 * m))), some (.int (nI k)), d3, none] ∧ w = (KM, I', J, GM) ∧ FrQ I I' m ∧ I' 0 7 = nI m ∧ I' 0 5 = nI 0 ∧ RdM tp tl I' (rwN tp tl p (2 + k)) ∧ I' 3 (4 * m) = nI (gdN tp tl E p 0 - 1) ∧ I' 3 (4 * m + 1) = nI (gdN tp tl E p 1 - 1) ∧ I' 3 (4 * m + 2) = nI (fg (fun i => gdN tp tl E p (2 + i) - 1) k) ∧ ∀ j, j < 2 + k → gdN tp tl E p j ≠ 0) 6 (k0 := 0) (Nat.zero_le _) ?_ ?_ ?_
  · exact ⟨_, _, rfl, rfl, f8, m8, w8, r8, t80, t81, st_at eV3, g1⟩
  · rintro k _ _ hk ⟨d3, I9, rfl, rfl, f9, m9, w9, r9, t90, t91, t92, g9⟩ hc
    have ekd : gdN tp tl E p (2 + k) = dgC (tkN tp tl p (2 + k)) 7 := gd_i hk
    have dk := dgt_7 _ (lcb (2 + k))
    have dlk := dg_le (tkN tp tl p (2 + k)) 7
    have dnk := dg_n0 (c := tkN tp tl p (2 + k)) (g := 7)
    rw [← ekd] at dk dlk dnk
    have lk := m_here (J := J) r9
    rw [rw_q, show lcA tp tl (qN tp tl p (2 + k)) = tkN tp tl p (2 + k) from rfl] at lk
    refine mjT_go 3 (pc' := if nI 6 ≤ nI k then 160 else 105) (L' := [some (.ref 0), some (.int (nI (4 * m))), some (.int (nI k)), d3, none]) (st' := []) (w1 := (KM, I9, J, GM)) rfl ?_
    refine mjT_ifF (nI_ge (by omega) (by omega)) ?_
    refine mjT_go 1 (pc' := 106) (L' := [some (.ref 0), some (.int (nI (4 * m))), some (.int (nI k)), d3, none]) (st' := [.ref 0]) (w1 := (KM, I9, J, GM)) rfl ?_
    refine mjT_gfi (v := nI 0) rfl (Or.inr rfl) (pc' := 109) rfl rfl (show I9 0 5 = nI 0 from w9) ?_
    refine mjT_go 1 (pc' := if ¬ nI 0 = 0 then 160 else 112) (L' := [some (.ref 0), some (.int (nI (4 * m))), some (.int (nI k)), d3, none]) (st' := []) (w1 := (KM, I9, J, GM)) rfl ?_
    refine mjT_ifF (fun q => q nI_0) ?_
    refine mjT_go 1 (pc' := 113) (L' := [some (.ref 0), some (.int (nI (4 * m))), some (.int (nI k)), d3, none]) (st' := [.ref 0]) (w1 := (KM, I9, J, GM)) rfl ?_
    refine mjT_call (as := [.ref 0]) (rest := []) rfl rfl rfl rfl rfl ⟨rfl, rfl⟩ (lk) ?_
    rintro _ _ ⟨rfl, I10, rfl, h10, hf10⟩
    have t10 : I10 3 (4 * m + 2) = nI (fg (fun i => gdN tp tl E p (2 + i) - 1) k) := by rw [hf10.1 3 (by omega)]; exact t92
    refine mjT_go 14 (pc' := 136) (L' := [some (.ref 0), some (.int (nI (4 * m))), some (.int (nI k)), some (.int ((tI (tkN tp tl p (2 + k))) - (nI 48))), none]) (st' := [.int ((nI (4 * m)) + (nI 2)), .ref 3, .int (nI 10), .int ((nI (4 * m)) + (nI 2)), .ref 3]) (w1 := (KM, I10, J, GM)) rfl ?_
    refine mjT_ial (v := nI (fg (fun i => gdN tp tl E p (2 + i) - 1) k)) ((4 * m) + 2) 28 rfl (pc' := 137) rfl rfl (by simp only [nI_add, pk_mul]) (by omega) (by omega) (mo_at (show I10 3 (4 * m + 2) = nI (fg (fun i => gdN tp tl E p (2 + i) - 1) k) from t10) (by omega) (by omega)) ?_
    refine mjT_go 3 (pc' := 140) (L' := [some (.ref 0), some (.int (nI (4 * m))), some (.int (nI k)), some (.int ((tI (tkN tp tl p (2 + k))) - (nI 48))), none]) (st' := [.int (((nI 10) * (nI (fg (fun i => gdN tp tl E p (2 + i) - 1) k))) + ((tI (tkN tp tl p (2 + k))) - (nI 48))), .int ((nI (4 * m)) + (nI 2)), .ref 3]) (w1 := (KM, I10, J, GM)) rfl ?_
    obtain ⟨V4, eV4⟩ : ∃ z, z = mj_row I10 3 (va_up (I10 3) ((4 * m) + 2) (((nI 10) * (nI (fg (fun i => gdN tp tl E p (2 + i) - 1) k))) + ((tI (tkN tp tl p (2 + k))) - (nI 48)))) := ⟨_, rfl⟩
    refine mjT_ias (I' := V4) ((4 * m) + 2) 28 rfl (pc' := 141) rfl rfl (by simp only [nI_add, pk_mul]) (by omega) (by omega) eV4.symm ?_
    have w11 : V4 0 5 = nI 0 := by rw [st_h eV4 (by omega), hf10.2 5 (by omega)]; exact w9
    have m11 : V4 0 7 = nI m := by rw [st_h eV4 (by omega), hf10.2 7 (by omega)]; exact m9
    have r11 : RdM tp tl V4 (qN tp tl p (2 + k)) := rm_td h10 eV4
    have f11 : FrQ I V4 m := fq_tr f9 (fq_tr (fq_fn hf10) (fq_td eV4 (by omega)))
    refine mjT_go 5 (pc' := 148) (L' := [some (.ref 0), some (.int (nI (4 * m))), some (.int (nI k)), some (.int ((tI (tkN tp tl p (2 + k))) - (nI 48))), none]) (st' := [.long (lN 7), .long (lN 0), .long (((tI (tkN tp tl p (2 + k))) - (nI 48)).toInt64), .ref 0]) (w1 := (KM, V4, J, GM)) rfl ?_
    refine mjT_callE (as := [.long (((tI (tkN tp tl p (2 + k))) - (nI 48)).toInt64), .long (lN 0), .long (lN 7)]) (rest := [.ref 0]) (r1 := some (.int (nI (iR (tI (tkN tp tl p (2 + k)) - nI 48) 0 7)))) rfl rfl rfl rfl rfl ⟨rfl, rfl⟩ (m_inR (by decide) (by decide)) ?_
    rw [dk.1]
    by_cases zk : gdN tp tl E p (2 + k) = 0
    · rw [if_pos zk]
      refine mjT_call (as := [.ref 0, .int (nI 0)]) (rest := []) rfl rfl rfl rfl rfl ⟨rfl, rfl⟩ (m_need r11.ps w11 (by omega) (by omega)) ?_
      rintro _ _ ⟨rfl, I12, rfl, n125, n124, nh12, nk12⟩
      rw [if_pos (Or.inr rfl)] at n125 n124
      obtain ⟨b1, b2⟩ := bad (2 + k) (by omega) zk g9
      refine mjT_go 2 (pc' := 99) (L' := [some (.ref 0), some (.int (nI (4 * m))), some (.int ((nI k) + (nI 1))), some (.int (tI (tkN tp tl p (2 + k)) - nI 48)), none]) (st' := []) (w1 := (KM, I12, J, GM)) rfl ?_
      rw [nI_add]
      exact b99 _ (k + 1) _ _ (by omega) b2 (fq_tr f11 (fq_nd nh12 nk12)) (by rw [nk12 7 (by omega) (by omega)]; exact m11) n125 (by rw [b1]; exact rm_at r11 (nh12 2 (by omega)) (nk12 3 (by omega) (by omega)) n124 r11.le.2)
    rw [if_neg zk]
    have qk := tlt (2 + k) (dnk zk)
    have t11 : V4 3 (4 * m + 2) = nI (fg (fun i => gdN tp tl E p (2 + i) - 1) (k + 1)) := by
      rw [st_at eV4, dk.2 zk, pk_mul, nI_add]; rfl
    refine mjT_call (as := [.ref 0, .int (nI 1)]) (rest := []) rfl rfl rfl rfl rfl ⟨rfl, rfl⟩ (m_need r11.ps w11 (by omega) (by omega)) ?_
    rintro _ _ ⟨rfl, I12, rfl, n125, n124, nh12, nk12⟩
    rw [if_neg (by omega)] at n125 n124
    refine mjT_go 2 (pc' := 99) (L' := [some (.ref 0), some (.int (nI (4 * m))), some (.int ((nI k) + (nI 1))), some (.int (tI (tkN tp tl p (2 + k)) - nI 48)), none]) (st' := []) (w1 := (KM, I12, J, GM)) rfl ?_
    rw [nI_add]
    refine hc _ _ ⟨_, _, rfl, rfl, fq_tr f11 (fq_nd nh12 nk12), by rw [nk12 7 (by omega) (by omega)]; exact m11, n125, rm_at r11 (nh12 2 (by omega)) (nk12 3 (by omega) (by omega)) n124 qk, by rw [nh12 3 (by omega), st_ne eV4 (by omega), hf10.1 3 (by omega)]; exact t90, by rw [nh12 3 (by omega), st_ne eV4 (by omega), hf10.1 3 (by omega)]; exact t91, by rw [nh12 3 (by omega)]; exact t11, fun j hj => ?_⟩
    by_cases e : j = 2 + k
    · rw [e]; exact zk
    · exact g9 j (by omega)
  · rintro _ _ ⟨d3, I9, rfl, rfl, f9, m9, w9, r9, t90, t91, t92, g9⟩
    have e8d : gdN tp tl E p 8 = if tkN tp tl p 8 = 65 then 1 else 0 := rfl
    have l8 := m_here (J := J) r9
    rw [rw_q, show lcA tp tl (qN tp tl p (2 + 6)) = tkN tp tl p 8 from rfl] at l8
    have lc8 := lcb 8
    refine mjT_go 3 (pc' := if nI 6 ≤ nI 6 then 160 else 105) (L' := [some (.ref 0), some (.int (nI (4 * m))), some (.int (nI 6)), d3, none]) (st' := []) (w1 := (KM, I9, J, GM)) rfl ?_
    refine mjT_ifT (Int32.le_refl _) ?_
    refine mjT_go 1 (pc' := 161) (L' := [some (.ref 0), some (.int (nI (4 * m))), some (.int (nI 6)), d3, none]) (st' := [.ref 0]) (w1 := (KM, I9, J, GM)) rfl ?_
    refine mjT_gfi (v := nI 0) rfl (Or.inr rfl) (pc' := 164) rfl rfl (show I9 0 5 = nI 0 from w9) ?_
    refine mjT_go 1 (pc' := if ¬ nI 0 = 0 then 185 else 167) (L' := [some (.ref 0), some (.int (nI (4 * m))), some (.int (nI 6)), d3, none]) (st' := []) (w1 := (KM, I9, J, GM)) rfl ?_
    refine mjT_ifF (fun q => q nI_0) ?_
    refine mjT_go 2 (pc' := 169) (L' := [some (.ref 0), some (.int (nI (4 * m))), some (.int (nI 6)), d3, none]) (st' := [.ref 0, .ref 0]) (w1 := (KM, I9, J, GM)) rfl ?_
    refine mjT_call (as := [.ref 0]) (rest := [.ref 0]) rfl rfl rfl rfl rfl ⟨rfl, rfl⟩ (l8) ?_
    rintro _ _ ⟨rfl, I10, rfl, h10, hf10⟩
    have w10 : I10 0 5 = nI 0 := by rw [hf10.2 5 (by omega)]; exact w9
    have m10 : I10 0 7 = nI m := by rw [hf10.2 7 (by omega)]; exact m9
    have f10 : FrQ I I10 m := fq_tr f9 (fq_fn hf10)
    refine mjT_go 2 (pc' := if ¬ tI (tkN tp tl p 8) = nI 64 then 181 else 177) (L' := [some (.ref 0), some (.int (nI (4 * m))), some (.int (nI 6)), d3, none]) (st' := [.ref 0]) (w1 := (KM, I10, J, GM)) rfl ?_
    refine mjT_if (fun h8 => ?_) (fun h8 => ?_)
    · rw [tI_eq (by omega) (by omega)] at h8
      have z8 : gdN tp tl E p 8 = 0 := by rw [e8d, if_neg h8]
      refine mjT_go 1 (pc' := 182) (L' := [some (.ref 0), some (.int (nI (4 * m))), some (.int (nI 6)), d3, none]) (st' := [.int (nI 0), .ref 0]) (w1 := (KM, I10, J, GM)) rfl ?_
      refine mjT_call (as := [.ref 0, .int (nI 0)]) (rest := []) rfl rfl rfl rfl rfl ⟨rfl, rfl⟩ (m_need h10.ps w10 (by omega) (by omega)) ?_
      rintro _ _ ⟨rfl, I12, rfl, n125, n124, nh12, nk12⟩
      rw [if_pos (Or.inr rfl)] at n125 n124
      obtain ⟨b1, b2⟩ := bad 8 (by omega) z8 g9
      refine mjT_go 1 (pc' := 186) (L' := [some (.ref 0), some (.int (nI (4 * m))), some (.int (nI 6)), d3, none]) (st' := [.ref 0]) (w1 := (KM, I12, J, GM)) rfl ?_
      refine mjT_gfi (v := nI 1) rfl (Or.inr rfl) (pc' := 189) rfl rfl (show I12 0 5 = nI 1 from n125) ?_
      refine mjT_go 1 (pc' := if ¬ nI 1 = 0 then 262 else 192) (L' := [some (.ref 0), some (.int (nI (4 * m))), some (.int (nI 6)), d3, none]) (st' := []) (w1 := (KM, I12, J, GM)) rfl ?_
      refine mjT_ifT (by decide) ?_
      exact g262 _ _ _ _ (fq_tr f10 (fq_nd nh12 nk12)) (by rw [nk12 7 (by omega) (by omega)]; exact m10) (Or.inr ⟨b2, n125, by rw [b1]; exact rm_at h10 (nh12 2 (by omega)) (nk12 3 (by omega) (by omega)) n124 h10.le.2⟩)
    rw [Decidable.not_not, tI_eq (by omega) (by omega)] at h8
    have z8 : gdN tp tl E p 8 ≠ 0 := by rw [e8d, if_pos h8]; omega
    have q8 := tlt 8 (by omega)
    have g8 : ∀ j, j < 9 → gdN tp tl E p j ≠ 0 := fun j hj => by
      by_cases e : j = 8
      · rw [e]; exact z8
      · exact g9 j (by omega)
    refine mjT_go 2 (pc' := 182) (L' := [some (.ref 0), some (.int (nI (4 * m))), some (.int (nI 6)), d3, none]) (st' := [.int (nI 1), .ref 0]) (w1 := (KM, I10, J, GM)) rfl ?_
    refine mjT_call (as := [.ref 0, .int (nI 1)]) (rest := []) rfl rfl rfl rfl rfl ⟨rfl, rfl⟩ (m_need h10.ps w10 (by omega) (by omega)) ?_
    rintro _ _ ⟨rfl, I12, rfl, n125, n124, nh12, nk12⟩
    rw [if_neg (by omega)] at n125 n124
    have m12 : I12 0 7 = nI m := by rw [nk12 7 (by omega) (by omega)]; exact m10
    have r12 : RdM tp tl I12 (rwN tp tl p 9) := rm_at h10 (nh12 2 (by omega)) (nk12 3 (by omega) (by omega)) n124 q8
    have f12 : FrQ I I12 m := fq_tr f10 (fq_nd nh12 nk12)
    have t12 : ∀ a, I12 3 a = I9 3 a := fun a => by rw [nh12 3 (by omega), hf10.1 3 (by omega)]
    have l9 := m_here (J := J) r12
    rw [rw_q, show lcA tp tl (qN tp tl p 9) = tkN tp tl p 9 from rfl] at l9
    refine mjT_go 1 (pc' := 186) (L' := [some (.ref 0), some (.int (nI (4 * m))), some (.int (nI 6)), d3, none]) (st' := [.ref 0]) (w1 := (KM, I12, J, GM)) rfl ?_
    refine mjT_gfi (v := nI 0) rfl (Or.inr rfl) (pc' := 189) rfl rfl (show I12 0 5 = nI 0 from n125) ?_
    refine mjT_go 1 (pc' := if ¬ nI 0 = 0 then 262 else 192) (L' := [some (.ref 0), some (.int (nI (4 * m))), some (.int (nI 6)), d3, none]) (st' := []) (w1 := (KM, I12, J, GM)) rfl ?_
    refine mjT_ifF (fun q => q nI_0) ?_
    refine mjT_go 1 (pc' := 193) (L' := [some (.ref 0), some (.int (nI (4 * m))), some (.int (nI 6)), d3, none]) (st' := [.ref 0]) (w1 := (KM, I12, J, GM)) rfl ?_
    refine mjT_call (as := [.ref 0]) (rest := []) rfl rfl rfl rfl rfl ⟨rfl, rfl⟩ (l9) ?_
    rintro _ _ ⟨rfl, I13, rfl, h13, hf13⟩
    have w13 : I13 0 5 = nI 0 := by rw [hf13.2 5 (by omega)]; exact n125
    have m13 : I13 0 7 = nI m := by rw [hf13.2 7 (by omega)]; exact m12
    have f13 : FrQ I I13 m := fq_tr f12 (fq_fn hf13)
    have ch13 : ∀ j, j < m → I13 3 (4 * j + 3) = nI (E.chair j) := fun j hj => by rw [f13.2.2 _ (by omega)]; exact hch j hj
    have e9d : gdN tp tl E p 9 = if sitr E (dgC (tkN tp tl p 9) 7 - 1) = 0 then dgC (tkN tp tl p 9) 7 else 0 := rfl
    have d9 := dgt_7 _ (lcb 9)
    have dl9 := dg_le (tkN tp tl p 9) 7
    have dn9 := dg_n0 (c := tkN tp tl p 9) (g := 7)
    obtain ⟨v, hv⟩ : ∃ v, tI (tkN tp tl p 9) - nI 48 = v := ⟨_, rfl⟩
    rw [hv] at d9
    have ir := ir01 v 0 7
    refine mjT_go 2 (pc' := 199) (L' := [some (.ref 0), some (.int (nI (4 * m))), some (.int (nI 6)), d3, none]) (st' := [.int ((tI (tkN tp tl p 9)) - (nI 48))]) (w1 := (KM, I13, J, GM)) rfl ?_
    rw [hv]
    refine mjT_go 2 (pc' := 201) (L' := [some (.ref 0), some (.int (nI (4 * m))), some (.int v), d3, none]) (st' := [.int v]) (w1 := (KM, I13, J, GM)) rfl ?_
    refine mjT_callE (as := [.int v]) (rest := []) (r1 := some (.int (nI (iR v 0 7)))) rfl rfl rfl rfl rfl ⟨rfl, rfl⟩ m_isChair ?_
    refine mjT_go 3 (pc' := 208) (L' := [some (.ref 0), some (.int (nI (4 * m))), some (.int v), some (.int (nI (iR v 0 7))), some (.int (nI 0))]) (st' := []) (w1 := (KM, I13, J, GM)) rfl ?_
    refine mj_loop (fun k L w => ∃ (b : Nat), L = [some (.ref 0), some (.int (nI (4 * m))), some (.int v), some (.int (nI b)), some (.int (nI k))] ∧ w = (KM, I13, J, GM) ∧ b < 2 ∧ (b = 1 ↔ iR v 0 7 = 1 ∧ ∀ j, j < k → nI (E.chair j) ≠ v)) m (k0 := 0) (Nat.zero_le _) ?_ ?_ ?_
    · exact ⟨iR v 0 7, rfl, rfl, by omega, fun q => ⟨q, fun _ h => absurd h (by omega)⟩, fun q => q.1⟩
    · rintro k _ _ hk ⟨b, rfl, rfl, hb2, hb⟩ hc
      have cut : ∀ c', c' < 2 → (c' = 1 ↔ b = 1 ∧ nI (E.chair k) ≠ v) → mj_To 157 241 [some (.ref 0), some (.int (nI (4 * m))), some (.int v), some (.int (nI b)), some (.int (nI k))] [.int (nI c')] (KM, I13, J, GM) Q := fun c' h1 h2 => by
        refine mjT_go 3 (pc' := 208) (L' := [some (.ref 0), some (.int (nI (4 * m))), some (.int v), some (.int (nI c')), some (.int ((nI k) + (nI 1)))]) (st' := []) (w1 := (KM, I13, J, GM)) rfl ?_
        rw [nI_add]
        refine hc _ _ ⟨c', rfl, rfl, h1, h2.trans ?_⟩
        rw [hb]
        constructor
        · rintro ⟨⟨q1, q2⟩, q3⟩
          refine ⟨q1, fun j hj => ?_⟩
          by_cases e : j = k
          · rw [e]; exact q3
          · exact q2 j (by omega)
        · rintro ⟨q1, q2⟩
          exact ⟨⟨q1, fun j hj => q2 j (by omega)⟩, q2 k (by omega)⟩
      have hck := hc8 k hk
      refine mjT_go 2 (pc' := 211) (L' := [some (.ref 0), some (.int (nI (4 * m))), some (.int v), some (.int (nI b)), some (.int (nI k))]) (st' := [.ref 0, .int (nI k)]) (w1 := (KM, I13, J, GM)) rfl ?_
      refine mjT_gfi (v := nI m) rfl (Or.inl rfl) (pc' := 214) rfl rfl (show I13 0 7 = nI m from m13) ?_
      refine mjT_go 1 (pc' := if nI m ≤ nI k then 248 else 217) (L' := [some (.ref 0), some (.int (nI (4 * m))), some (.int v), some (.int (nI b)), some (.int (nI k))]) (st' := []) (w1 := (KM, I13, J, GM)) rfl ?_
      refine mjT_ifF (nI_ge (by omega) (by omega)) ?_
      refine mjT_go 2 (pc' := if nI b = 0 then 240 else 221) (L' := [some (.ref 0), some (.int (nI (4 * m))), some (.int v), some (.int (nI b)), some (.int (nI k))]) (st' := []) (w1 := (KM, I13, J, GM)) rfl ?_
      refine mjT_if_eq (u := b) (v := 0) rfl nI_0.symm (by omega) (by omega) (fun hb0 => ?_) (fun hb0 => ?_)
      · refine mjT_go 1 (pc' := 241) (L' := [some (.ref 0), some (.int (nI (4 * m))), some (.int v), some (.int (nI b)), some (.int (nI k))]) (st' := [.int (nI 0)]) (w1 := (KM, I13, J, GM)) rfl ?_
        exact cut 0 (by omega) ⟨fun q => absurd q (by omega), fun q => absurd q.1 (by omega)⟩
      refine mjT_go 7 (pc' := 231) (L' := [some (.ref 0), some (.int (nI (4 * m))), some (.int v), some (.int (nI b)), some (.int (nI k))]) (st' := [.int (((nI 4) * (nI k)) + (nI 3)), .ref 3]) (w1 := (KM, I13, J, GM)) rfl ?_
      refine mjT_ial (v := nI (E.chair k)) ((4 * k) + 3) 28 rfl (pc' := 232) rfl rfl (by simp only [nI_add, pk_mul]) (by omega) (by omega) (mo_at (show I13 3 (4 * k + 3) = nI (E.chair k) from (ch13 k hk)) (by omega) (by omega)) ?_
      refine mjT_go 2 (pc' := if nI (E.chair k) = v then 240 else 236) (L' := [some (.ref 0), some (.int (nI (4 * m))), some (.int v), some (.int (nI b)), some (.int (nI k))]) (st' := []) (w1 := (KM, I13, J, GM)) rfl ?_
      refine mjT_if (fun hq => ?_) (fun hq => ?_)
      · refine mjT_go 1 (pc' := 241) (L' := [some (.ref 0), some (.int (nI (4 * m))), some (.int v), some (.int (nI b)), some (.int (nI k))]) (st' := [.int (nI 0)]) (w1 := (KM, I13, J, GM)) rfl ?_
        exact cut 0 (by omega) ⟨fun q => absurd q (by omega), fun q => absurd hq q.2⟩
      · refine mjT_go 2 (pc' := 241) (L' := [some (.ref 0), some (.int (nI (4 * m))), some (.int v), some (.int (nI b)), some (.int (nI k))]) (st' := [.int (nI 1)]) (w1 := (KM, I13, J, GM)) rfl ?_
        exact cut 1 (by omega) ⟨fun _ => ⟨by omega, hq⟩, fun _ => rfl⟩
    · rintro _ _ ⟨b, rfl, rfl, hb2, hb⟩
      refine mjT_go 2 (pc' := 211) (L' := [some (.ref 0), some (.int (nI (4 * m))), some (.int v), some (.int (nI b)), some (.int (nI m))]) (st' := [.ref 0, .int (nI m)]) (w1 := (KM, I13, J, GM)) rfl ?_
      refine mjT_gfi (v := nI m) rfl (Or.inl rfl) (pc' := 214) rfl rfl (show I13 0 7 = nI m from m13) ?_
      refine mjT_go 1 (pc' := if nI m ≤ nI m then 248 else 217) (L' := [some (.ref 0), some (.int (nI (4 * m))), some (.int v), some (.int (nI b)), some (.int (nI m))]) (st' := []) (w1 := (KM, I13, J, GM)) rfl ?_
      refine mjT_ifT (Int32.le_refl _) ?_
      refine mjT_go 6 (pc' := 256) (L' := [some (.ref 0), some (.int (nI (4 * m))), some (.int v), some (.int (nI b)), some (.int (nI m))]) (st' := [.int v, .int ((nI (4 * m)) + (nI 3)), .ref 3]) (w1 := (KM, I13, J, GM)) rfl ?_
      obtain ⟨V5, eV5⟩ : ∃ z, z = mj_row I13 3 (va_up (I13 3) ((4 * m) + 3) v) := ⟨_, rfl⟩
      refine mjT_ias (I' := V5) ((4 * m) + 3) 28 rfl (pc' := 257) rfl rfl (by simp only [nI_add, pk_mul]) (by omega) (by omega) eV5.symm ?_
      have w14 : V5 0 5 = nI 0 := by rw [st_h eV5 (by omega)]; exact w13
      have m14 : V5 0 7 = nI m := by rw [st_h eV5 (by omega)]; exact m13
      have r14 : RdM tp tl V5 (qN tp tl p 9) := rm_td h13 eV5
      have f14 : FrQ I V5 m := fq_tr f13 (fq_td eV5 (by omega))
      have key : b = 1 ↔ gdN tp tl E p 9 ≠ 0 := by
        rw [hb, d9.1, e9d]
        by_cases z : dgC (tkN tp tl p 9) 7 = 0
        · rw [z, if_pos rfl, ite_self]
          exact ⟨fun q => absurd q.1 (by omega), fun q => absurd rfl q⟩
        · rw [if_neg z, d9.2 z]
          by_cases hs : sitr E (dgC (tkN tp tl p 9) 7 - 1) = 0
          · rw [if_pos hs]
            refine ⟨fun _ => z, fun _ => ⟨rfl, fun j hj q => ?_⟩⟩
            have := hc8 j hj
            exact (sitr_0.mp hs) j (by omega) ((nI_eq (by omega) (by omega)).mp q)
          · rw [if_neg hs]
            refine ⟨fun q => absurd (sitr_0.mpr (fun j hj e => q.2 j (by omega) (by rw [e]))) hs, fun q => absurd rfl q⟩
      refine mjT_go 2 (pc' := 259) (L' := [some (.ref 0), some (.int (nI (4 * m))), some (.int v), some (.int (nI b)), some (.int (nI m))]) (st' := [.int (nI b), .ref 0]) (w1 := (KM, V5, J, GM)) rfl ?_
      refine mjT_call (as := [.ref 0, .int (nI b)]) (rest := []) rfl rfl rfl rfl rfl ⟨rfl, rfl⟩ (m_need r14.ps w14 (by omega) hb2) ?_
      rintro _ _ ⟨rfl, I15, rfl, n5', n4', nh', nk'⟩
      have m15 : I15 0 7 = nI m := by rw [nk' 7 (by omega) (by omega)]; exact m14
      have f15 : FrQ I I15 m := fq_tr f14 (fq_nd nh' nk')
      by_cases z9 : gdN tp tl E p 9 = 0
      · rw [if_pos (by omega)] at n5' n4'
        obtain ⟨b1, b2⟩ := bad 9 (by omega) z9 g8
        exact g262 _ _ _ _ f15 m15 (Or.inr ⟨b2, n5', by rw [b1]; exact rm_at r14 (nh' 2 (by omega)) (nk' 3 (by omega) (by omega)) n4' r14.le.2⟩)
      · have hb1 := key.mpr z9
        rw [if_neg (by omega)] at n5' n4'
        have z9' := z9
        rw [e9d] at z9'
        have hs : sitr E (dgC (tkN tp tl p 9) 7 - 1) = 0 := by
          by_cases q : sitr E (dgC (tkN tp tl p 9) 7 - 1) = 0
          · exact q
          · rw [if_neg q] at z9'; exact absurd rfl z9'
        rw [if_pos hs] at e9d z9'
        have q9 := tlt 9 (dn9 z9')
        have gall : ∀ j, j < 10 → gdN tp tl E p j ≠ 0 := fun j hj => by
          by_cases e : j = 9
          · rw [e]; exact z9
          · exact g8 j (by omega)
        have e15 : ∀ a, a ≠ 4 * m + 3 → I15 3 a = I9 3 a := fun a ha => by rw [nh' 3 (by omega), st_ne eV5 ha, hf13.1 3 (by omega)]; exact t12 a
        exact g262 _ _ _ _ f15 m15 (Or.inl ⟨fst_no gall, n5', rm_at r14 (nh' 2 (by omega)) (nk' 3 (by omega) (by omega)) n4' q9, (e15 _ (by omega)).trans t90, (e15 _ (by omega)).trans t91, (e15 _ (by omega)).trans t92, by rw [nh' 3 (by omega), st_at eV5, d9.2 z9', e9d]⟩)
end MR
