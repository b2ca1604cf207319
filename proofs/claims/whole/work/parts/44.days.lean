/-! the days -/
/-- behind one day noted: the eight latest are kept -/
def remN (kn : Nat) : Nat := if kn = 8 then 8 else kn + 1
def remP (kn : Nat) (pa : Nat → Off) (O : Off) : Nat → Off := fun j => if kn = 8 then (if j < 7 then pa (j + 1) else O) else (if j < kn then pa j else O)
def remS (S : Sta) : Sta := mkS S.o (remN S.kn) (remP S.kn S.pa S.o) S.im S.io S.ikn S.ipa S.tl S.tp S.sz S.ln S.it
theorem vh_of {O : Off} (hV : VO O) (hd : O.day ≤ 9999) : VH O.n O := ⟨rfl, hd, hV.wr, hV.till⟩
theorem vs_rem {S : Sta} (hV : VS S) : VS (remS S) := by
  have hk := hV.kn
  refine ⟨hV.o, hV.day, ?_, fun j hj => ?_, hV.im, hV.io, hV.tl, hV.tp, hV.sz, hV.ln⟩
  · show remN S.kn ≤ 8
    unfold remN; split <;> omega
  · have hj' : j < remN S.kn := hj
    show VH S.o.n (remP S.kn S.pa S.o j)
    unfold remN at hj'
    unfold remP
    by_cases h8 : S.kn = 8
    · rw [if_pos h8] at hj' ⊢
      by_cases h7 : j < 7
      · rw [if_pos h7]; exact hV.pa _ (by omega)
      · rw [if_neg h7]; exact vh_of hV.o hV.day
    · rw [if_neg h8] at hj' ⊢
      by_cases h7 : j < S.kn
      · rw [if_pos h7]; exact hV.pa _ h7
      · rw [if_neg h7]; exact vh_of hV.o hV.day
section DA
variable {I : Nat → Nat → Int32} {J : Nat → Nat → Int64} {S : Sta} {O : Off}
theorem c_padd (hV : VS S) (hC : CW I J S) : mj_E 38 [.ref 12, .ref 2] (KC, I, J, GC) (fun w' r => r = none ∧ ∃ I', w' = (KC, I', J, GC) ∧ CW I' J (remS S) ∧ ∀ a, (a < 12 ∨ 37 < a) → I' a = I a) := by
  have hn := hV.o.n
  have hk8 := hV.kn
  obtain ⟨nx, hnx, h1, h2, h3⟩ := hC.past
  refine mjT_go 1 (pc' := 1) (L' := [some (.ref 12), some (.ref 2)]) (st' := [.ref 12]) (w1 := (KC, I, J, GC)) rfl ?_
  refine mjT_gfr (h' := 13) rfl (pc' := 4) rfl pg_12.k0 pg_12.r ?_
  refine mjT_go 1 (pc' := 5) (L' := [some (.ref 12), some (.ref 2)]) (st' := [.ref 12, .ref 13]) (w1 := (KC, I, J, GC)) rfl ?_
  refine mjT_gfi (v := nI nx) rfl (Or.inl rfl) (pc' := 8) rfl pg_12.k0 (show I 12 1 = nI nx from h1) ?_
  refine mjT_go 1 (pc' := 10) (L' := [some (.ref 12), some (.ref 2)]) (st' := [.int (nI 7), .int (nI nx), .ref 13]) (w1 := (KC, I, J, GC)) rfl ?_
  refine mjT_go 1 (pc' := 11) (L' := [some (.ref 12), some (.ref 2)]) (st' := [.int ((nI nx) &&& (nI 7)), .ref 13]) (w1 := (KC, I, J, GC)) rfl ?_
  rw [and7 (by omega), show nx % 8 = nx by omega]
  refine mjT_aal (h' := (14 + 3 * nx)) nx 8 rfl (pc' := 12) rfl (by decide) pg_12.k1 rfl (by omega) (by omega) (pg_12.ring nx hnx) ?_
  refine mjT_go 1 (pc' := 13) (L' := [some (.ref 12), some (.ref 2)]) (st' := [.ref 2, .ref (14 + 3 * nx)]) (w1 := (KC, I, J, GC)) rfl ?_
  refine mjT_call (as := [.ref (14 + 3 * nx), .ref 2]) (rest := []) rfl rfl rfl (mj_callI rfl rfl (pg_12.ha nx hnx).k0) rfl ⟨rfl, rfl⟩ (c_hbecome hn (pg_12.ha nx hnx) (ha_of og_1) (by omega) (ho_of hC.o)) ?_
  rintro _ _ ⟨rfl, I2, rfl, hH2, hf2⟩
  refine mjT_go 2 (pc' := 18) (L' := [some (.ref 12), some (.ref 2)]) (st' := [.ref 12, .ref 12]) (w1 := (KC, I2, J, GC)) rfl ?_
  refine mjT_gfi (v := nI nx) rfl (Or.inl rfl) (pc' := 21) rfl pg_12.k0 (show I2 12 1 = nI nx from (by rw [hf2 _ (by omega)]; exact h1)) ?_
  refine mjT_go 2 (pc' := 23) (L' := [some (.ref 12), some (.ref 2)]) (st' := [.int ((nI nx) + (nI 1)), .ref 12]) (w1 := (KC, I2, J, GC)) rfl ?_
  refine mjT_go 1 (pc' := 25) (L' := [some (.ref 12), some (.ref 2)]) (st' := [.int (nI 7), .int ((nI nx) + (nI 1)), .ref 12]) (w1 := (KC, I2, J, GC)) rfl ?_
  refine mjT_go 1 (pc' := 26) (L' := [some (.ref 12), some (.ref 2)]) (st' := [.int (((nI nx) + (nI 1)) &&& (nI 7)), .ref 12]) (w1 := (KC, I2, J, GC)) rfl ?_
  rw [nI_add, and7 (by omega)]
  obtain ⟨V1, eV1⟩ : ∃ z, z = mj_row I2 12 (va_up (I2 12) 1 (nI ((nx + 1) % 8))) := ⟨_, rfl⟩
  refine mjT_pfi (I' := V1) rfl (pc' := 29) rfl pg_12.k0 eV1.symm ?_
  refine mjT_go 2 (pc' := 31) (L' := [some (.ref 12), some (.ref 2)]) (st' := [.ref 12, .ref 12]) (w1 := (KC, V1, J, GC)) rfl ?_
  refine mjT_gfi (v := nI S.kn) rfl (Or.inl rfl) (pc' := 34) rfl pg_12.k0 (show V1 12 2 = nI S.kn from (by rw [st_ne eV1 (by omega), hf2 _ (by omega)]; exact h2)) ?_
  refine mjT_go 3 (pc' := 38) (L' := [some (.ref 12), some (.ref 2)]) (st' := [.int (nI 8), .int ((nI S.kn) + (nI 1)), .ref 12]) (w1 := (KC, V1, J, GC)) rfl ?_
  refine mjT_go 1 (pc' := 41) (L' := [some (.ref 12), some (.ref 2)]) (st' := [.int (if nI 8 < (nI S.kn) + (nI 1) then nI 8 else (nI S.kn) + (nI 1)), .ref 12]) (w1 := (KC, V1, J, GC)) rfl ?_
  rw [show (if nI 8 < nI S.kn + nI 1 then nI 8 else nI S.kn + nI 1) = nI (remN S.kn) by
    rw [nI_add]
    unfold remN
    by_cases h8 : S.kn = 8
    · rw [if_pos h8, if_pos (nI_lt (by omega) (by omega))]
    · rw [if_neg h8, if_neg (nI_nlt (by omega) (by omega))]]
  obtain ⟨V2, eV2⟩ : ∃ z, z = mj_row V1 12 (va_up (V1 12) 2 (nI (remN S.kn))) := ⟨_, rfl⟩
  refine mjT_pfi (I' := V2) rfl (pc' := 44) rfl pg_12.k0 eV2.symm ?_
  refine mjT_ret rfl rfl rfl ?_
  have f : ∀ a, a ≠ 12 → V2 a = I2 a := fun a ha => by rw [st_h eV2 ha, st_h eV1 ha]
  have ff : ∀ a, (a < 12 ∨ 37 < a) → V2 a = I a := fun a ha => by rw [f _ (by omega), hf2 _ (by omega)]
  refine ⟨rfl, _, rfl, ⟨ro_cong hC.o (fun k hk => ff _ (by omega)), ⟨(nx + 1) % 8, Nat.mod_lt _ (by omega), ?_, st_at eV2, fun j hj => ?_⟩, ?_, fun hi => ⟨ro_cong (hC.io hi).1 (fun k hk => ff _ (by omega)), pc_cong (hC.io hi).2 (ff _ (by omega)) (fun k hk => ff _ (by omega))⟩, ?_, ?_, ?_, ?_, hC.it⟩, ff⟩
  · rw [st_ne eV2 (by omega)]; exact st_at eV1
  · have hj' : j < remN S.kn := hj
    show HO V2 (14 + 3 * (((nx + 1) % 8 + 8 - remN S.kn + j) % 8)) (remP S.kn S.pa S.o j) TT
    have new : HO V2 (14 + 3 * nx) S.o TT := ho_cong hH2 (f _ (by omega)) (f _ (by omega)) (f _ (by omega))
    have old : ∀ i, i < S.kn → (nx + 8 - S.kn + i) % 8 ≠ nx → HO V2 (14 + 3 * ((nx + 8 - S.kn + i) % 8)) (S.pa i) TT := fun i hi hne => by
      have hm : (nx + 8 - S.kn + i) % 8 < 8 := Nat.mod_lt _ (by omega)
      exact ho_cong (h3 i hi) (by rw [f _ (by omega), hf2 _ (by omega)]) (by rw [f _ (by omega), hf2 _ (by omega)]) (by rw [f _ (by omega), hf2 _ (by omega)])
    unfold remN at hj' ⊢
    unfold remP
    by_cases h8 : S.kn = 8
    · rw [if_pos h8] at hj' ⊢
      rw [if_pos h8]
      by_cases h7 : j < 7
      · rw [if_pos h7]
        have := old (j + 1) (by omega) (by omega)
        rw [show ((nx + 1) % 8 + 8 - 8 + j) % 8 = (nx + 8 - S.kn + (j + 1)) % 8 by omega]
        exact this
      · rw [if_neg h7, show ((nx + 1) % 8 + 8 - 8 + j) % 8 = nx by omega]; exact new
    · rw [if_neg h8] at hj' ⊢
      rw [if_neg h8]
      by_cases h7 : j < S.kn
      · rw [if_pos h7]
        have := old j h7 (by omega)
        rw [show ((nx + 1) % 8 + 8 - (S.kn + 1) + j) % 8 = (nx + 8 - S.kn + j) % 8 by omega]
        exact this
      · rw [if_neg h7, show ((nx + 1) % 8 + 8 - (S.kn + 1) + j) % 8 = nx by omega]; exact new
  · rw [ff _ (by omega)]; exact hC.im
  · rw [ff _ (by omega)]; exact hC.tl
  · rw [ff _ (by omega)]; exact hC.tp
  · rw [ff _ (by omega)]; exact hC.sz
  · rw [ff _ (by omega)]; exact hC.ln
end DA
