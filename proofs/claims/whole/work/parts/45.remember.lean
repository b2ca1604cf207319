section RE
variable {I : Nat → Nat → Int32} {J : Nat → Nat → Int64} {S : Sta} {O : Off}
theorem m_remember (hV : VS S) (hM : MW I J S) : mj_E 169 [.ref 0] (KM, I, J, GM) (fun w' r => r = none ∧ ∃ I', w' = (KM, I', J, GM) ∧ MW I' J (remS S)) := by
  have hn := hV.o.n
  have hk8 := hV.kn
  obtain ⟨h1, h2⟩ := hM.past
  refine mjT_gen fun Q hQ => ?_
  have tail : ∀ (I1 : Nat → Nat → Int32) (k1 : Nat) (pa1 : Nat → Off) (d e : Option Value), k1 + 1 = remN S.kn → (∀ j, j < k1 → pa1 j = remP S.kn S.pa S.o j) → remP S.kn S.pa S.o k1 = S.o → (∀ j, j < k1 → Off.n (pa1 j) = S.o.n) → I1 1 153 = nI k1 → (∀ j, j < k1 → MP I1 (160 + 85 * j) (pa1 j)) → (∀ a, (a < 153 ∨ 840 ≤ a) → I1 1 a = I 1 a) → (∀ h, h ≠ 1 → I1 h = I h) → mj_To 169 57 [some (.ref 0), d, e] [] (KM, I1, J, GM) Q := by
    intro I1 k1 pa1 d e hkr hp1 hp2 hpn hk1 hmp hfr hfh
    have hk7 : k1 ≤ 7 := by unfold remN at hkr; split at hkr <;> omega
    refine mjT_go 5 (pc' := 69) (L' := [some (.ref 0), d, e]) (st' := [.int (nI 153), .ref 1, .int (nI 85), .int (nI 160)]) (w1 := (KM, I1, J, GM)) rfl ?_
    refine mjT_ial (v := nI k1) 153 1840 rfl (pc' := 70) rfl rfl rfl (by omega) (by omega) (show I1 1 153 = nI k1 from hk1) ?_
    refine mjT_go 5 (pc' := 75) (L' := [some (.ref 0), some (.int ((nI 160) + ((nI 85) * (nI k1)))), some (.int (nI 0))]) (st' := []) (w1 := (KM, I1, J, GM)) rfl ?_
    rw [pk_mul, nI_add]
    refine mj_loop (fun k L w => ∃ I', L = [some (.ref 0), some (.int (nI (160 + 85 * k1))), some (.int (nI k))] ∧ w = (KM, I', J, GM) ∧ (∀ j, j < k → I' 1 (160 + 85 * k1 + j) = I 1 (21 * (j / 12) + 9 + j % 12)) ∧ (∀ a, (a < 160 + 85 * k1 ∨ 160 + 85 * k1 + 84 ≤ a) → I' 1 a = I1 1 a) ∧ ∀ h, h ≠ 1 → I' h = I h) 84 (k0 := 0) (Nat.zero_le _) ?_ ?_ ?_
    · exact ⟨_, rfl, rfl, fun _ h => absurd h (by omega), fun _ _ => rfl, hfh⟩
    · rintro k _ _ hkk ⟨I2, rfl, rfl, g1, g2, hf⟩ hc
      refine mjT_go 3 (pc' := if nI 84 ≤ nI k then 115 else 81) (L' := [some (.ref 0), some (.int (nI (160 + 85 * k1))), some (.int (nI k))]) (st' := []) (w1 := (KM, I2, J, GM)) rfl ?_
      refine mjT_ifF (nI_ge (by omega) (by omega)) ?_
      refine mjT_go 10 (pc' := 97) (L' := [some (.ref 0), some (.int (nI (160 + 85 * k1))), some (.int (nI k))]) (st' := [.int (nI 12), .int (nI k), .int (nI 21), .ref 1, .int ((nI (160 + 85 * k1)) + (nI k)), .ref 1]) (w1 := (KM, I2, J, GM)) rfl ?_
      refine mjT_divN (u := k) (v := 12) rfl (pc' := 98) rfl rfl rfl (by omega) (by omega) (by omega) ?_
      refine mjT_go 5 (pc' := 105) (L' := [some (.ref 0), some (.int (nI (160 + 85 * k1))), some (.int (nI k))]) (st' := [.int (nI 12), .int (nI k), .int (((nI 21) * (nI (k / 12))) + (nI 9)), .ref 1, .int ((nI (160 + 85 * k1)) + (nI k)), .ref 1]) (w1 := (KM, I2, J, GM)) rfl ?_
      refine mjT_remN (u := k) (v := 12) rfl (pc' := 106) rfl rfl rfl (by omega) (by omega) (by omega) ?_
      refine mjT_go 1 (pc' := 107) (L' := [some (.ref 0), some (.int (nI (160 + 85 * k1))), some (.int (nI k))]) (st' := [.int ((((nI 21) * (nI (k / 12))) + (nI 9)) + (nI (k % 12))), .ref 1, .int ((nI (160 + 85 * k1)) + (nI k)), .ref 1]) (w1 := (KM, I2, J, GM)) rfl ?_
      refine mjT_ial (v := I2 1 (((21 * (k / 12)) + 9) + (k % 12))) (((21 * (k / 12)) + 9) + (k % 12)) 1840 rfl (pc' := 108) rfl rfl (by simp only [nI_add, pk_mul]) (by omega) (by omega) rfl ?_
      obtain ⟨V1, eV1⟩ : ∃ z, z = mj_row I2 1 (va_up (I2 1) ((160 + 85 * k1) + k) (I2 1 (((21 * (k / 12)) + 9) + (k % 12)))) := ⟨_, rfl⟩
      refine mjT_ias (I' := V1) ((160 + 85 * k1) + k) 1840 rfl (pc' := 109) rfl rfl (by simp only [nI_add, pk_mul]) (by omega) (by omega) eV1.symm ?_
      refine mjT_go 2 (pc' := 75) (L' := [some (.ref 0), some (.int (nI (160 + 85 * k1))), some (.int ((nI k) + (nI 1)))]) (st' := []) (w1 := (KM, V1, J, GM)) rfl ?_
      rw [nI_add]
      refine hc _ _ ⟨_, rfl, rfl, fun j hj => ?_, fun a ha => (st_ne eV1 (by omega)).trans (g2 a ha), fun h hh => (st_h eV1 hh).trans (hf h hh)⟩
      by_cases e : j = k
      · subst e
        exact (st_at eV1).trans ((g2 _ (by omega)).trans (hfr _ (by omega)))
      · exact (st_ne eV1 (by omega)).trans (g1 j (by omega))
    · rintro _ _ ⟨I2, rfl, rfl, g1, g2, hf⟩
      refine mjT_go 3 (pc' := if nI 84 ≤ nI 84 then 115 else 81) (L' := [some (.ref 0), some (.int (nI (160 + 85 * k1))), some (.int (nI 84))]) (st' := []) (w1 := (KM, I2, J, GM)) rfl ?_
      refine mjT_ifT (Int32.le_refl _) ?_
      refine mjT_go 8 (pc' := 130) (L' := [some (.ref 0), some (.int (nI (160 + 85 * k1))), some (.int (nI 84))]) (st' := [.int (nI 148), .ref 1, .int ((nI (160 + 85 * k1)) + (nI 84)), .ref 1]) (w1 := (KM, I2, J, GM)) rfl ?_
      refine mjT_ial (v := nI S.o.day) 148 1840 rfl (pc' := 131) rfl rfl rfl (by omega) (by omega) (show I2 1 148 = nI S.o.day from ((g2 _ (by omega)).trans ((hfr _ (by omega)).trans (mo_at hM.o.day rfl (by omega))))) ?_
      obtain ⟨V2, eV2⟩ : ∃ z, z = mj_row I2 1 (va_up (I2 1) ((160 + 85 * k1) + 84) (nI S.o.day)) := ⟨_, rfl⟩
      refine mjT_ias (I' := V2) ((160 + 85 * k1) + 84) 1840 rfl (pc' := 132) rfl rfl (by simp only [nI_add, pk_mul]) (by omega) (by omega) eV2.symm ?_
      refine mjT_go 4 (pc' := 140) (L' := [some (.ref 0), some (.int (nI (160 + 85 * k1))), some (.int (nI 84))]) (st' := [.int (nI 153), .ref 1, .int (nI 153), .ref 1]) (w1 := (KM, V2, J, GM)) rfl ?_
      refine mjT_ial (v := nI k1) 153 1840 rfl (pc' := 141) rfl rfl rfl (by omega) (by omega) (show V2 1 153 = nI k1 from ((st_ne eV2 (by omega)).trans ((g2 _ (by omega)).trans hk1))) ?_
      refine mjT_go 2 (pc' := 143) (L' := [some (.ref 0), some (.int (nI (160 + 85 * k1))), some (.int (nI 84))]) (st' := [.int ((nI k1) + (nI 1)), .int (nI 153), .ref 1]) (w1 := (KM, V2, J, GM)) rfl ?_
      obtain ⟨V3, eV3⟩ : ∃ z, z = mj_row V2 1 (va_up (V2 1) 153 ((nI k1) + (nI 1))) := ⟨_, rfl⟩
      refine mjT_ias (I' := V3) 153 1840 rfl (pc' := 144) rfl rfl rfl (by omega) (by omega) eV3.symm ?_
      refine mjT_ret rfl rfl rfl ?_
      have fr : ∀ a, a ≠ 153 → (a < 153 ∨ 840 ≤ a) → V3 1 a = I 1 a := fun a ha hb => (st_ne eV3 ha).trans ((st_ne eV2 (by omega)).trans ((g2 _ (by omega)).trans (hfr _ hb)))
      have f3 : ∀ h, h ≠ 1 → V3 h = I h := fun h hh => (st_h eV3 hh).trans ((st_h eV2 hh).trans (hf h hh))
      refine hQ _ _ ⟨rfl, _, rfl, mo_cong hM.o hn (fun k _ hk => fr _ (by omega) (by omega)), ⟨(st_at eV3).trans (by rw [nI_add, hkr]; rfl), fun j hj => ?_⟩, by rw [f3 0 (by omega)]; exact hM.im, fun hi => ?_, ?_, ?_, ?_, ?_, hM.it⟩
      · have hj' : j < remN S.kn := hj
        show MP V3 (0 + 160 + 85 * j) (remP S.kn S.pa S.o j)
        rw [Nat.zero_add]
        by_cases ej : j = k1
        · subst ej
          rw [hp2]
          refine ⟨(st_ne eV3 (by omega)).trans (st_at eV2), fun p hp k hk => ?_, fun p hp k hk => ?_⟩
          · exact (st_ne eV3 (by omega)).trans ((st_ne eV2 (by omega)).trans ((mo_at (g1 (12 * p + k) (by omega)) rfl (by omega)).trans (mo_at (hM.o.wr p hp k hk) rfl (by omega))))
          · exact (st_ne eV3 (by omega)).trans ((st_ne eV2 (by omega)).trans ((mo_at (g1 (12 * p + 6 + k) (by omega)) rfl (by omega)).trans (mo_at (hM.o.till p hp k hk) rfl (by omega))))
        · have hjk : j < k1 := by omega
          have hq := hmp j hjk
          have hqn := hpn j hjk
          rw [← hp1 j hjk]
          have gg : ∀ a, 160 + 85 * j ≤ a → a < 160 + 85 * j + 85 → V3 1 a = I1 1 a := fun a ha hb => (st_ne eV3 (by omega)).trans ((st_ne eV2 (by omega)).trans (g2 _ (by omega)))
          exact ⟨(gg _ (by omega) (by omega)).trans hq.day, fun p hp k hk => (gg _ (by omega) (by omega)).trans (hq.wr p hp k hk), fun p hp k hk => (gg _ (by omega) (by omega)).trans (hq.till p hp k hk)⟩
      · obtain ⟨v1, v2, v3, v4⟩ := hV.io hi
        exact ⟨mo_cong (hM.io hi).1 v1.n (fun k hk _ => fr _ (by omega) (by omega)), pm_cong (hM.io hi).2 v3 v1.n v4 (fun k hk _ => fr _ (by omega) (by omega))⟩
      · rw [f3 _ (by omega)]; exact hM.tl
      · rw [f3 _ (by omega)]; exact hM.tp
      · rw [f3 _ (by omega)]; exact hM.ln
      · rw [f3 _ (by omega)]; exact hM.sz
  refine mjT_go 3 (pc' := 7) (L' := [some (.ref 0), none, none]) (st' := [.int (nI 153), .ref 1]) (w1 := (KM, I, J, GM)) rfl ?_
  refine mjT_ial (v := nI S.kn) 153 1840 rfl (pc' := 8) rfl rfl rfl (by omega) (by omega) (show I 1 153 = nI S.kn from (mo_at h1 rfl (by omega))) ?_
  refine mjT_go 2 (pc' := if ¬ nI S.kn = nI 8 then 57 else 13) (L' := [some (.ref 0), none, none]) (st' := []) (w1 := (KM, I, J, GM)) rfl ?_
  refine mjT_if_ne (u := S.kn) (v := 8) rfl rfl (by omega) (by omega) (fun h8 => ?_) (fun h8 => ?_)
  · refine tail I S.kn S.pa none none (by unfold remN; rw [if_neg h8]) (fun j hj => ?_) ?_ (fun j hj => (hV.pa j hj).n) (mo_at h1 rfl (by omega)) (fun j hj => by have := h2 j hj; rwa [Nat.zero_add] at this) (fun _ _ => rfl) (fun _ _ => rfl)
    · unfold remP; rw [if_neg h8, if_pos hj]
    · unfold remP; rw [if_neg h8, if_neg (by omega)]
  · refine mjT_go 2 (pc' := 17) (L' := [some (.ref 0), some (.int (nI 245)), none]) (st' := []) (w1 := (KM, I, J, GM)) rfl ?_
    refine mj_loop (fun k L w => ∃ I', L = [some (.ref 0), some (.int (nI (245 + k))), none] ∧ w = (KM, I', J, GM) ∧ (∀ j, j < k → I' 1 (160 + j) = I 1 (245 + j)) ∧ (∀ a, (a < 160 ∨ 160 + k ≤ a) → I' 1 a = I 1 a) ∧ ∀ h, h ≠ 1 → I' h = I h) 595 (k0 := 0) (Nat.zero_le _) ?_ ?_ ?_
    · exact ⟨_, rfl, rfl, fun _ h => absurd h (by omega), fun _ _ => rfl, fun _ _ => rfl⟩
    · rintro k _ _ hkk ⟨I2, rfl, rfl, g1, g2, hf⟩ hc
      refine mjT_go 3 (pc' := if nI 840 ≤ nI (245 + k) then 45 else 24) (L' := [some (.ref 0), some (.int (nI (245 + k))), none]) (st' := []) (w1 := (KM, I2, J, GM)) rfl ?_
      refine mjT_ifF (nI_ge (by omega) (by omega)) ?_
      refine mjT_go 4 (pc' := 31) (L' := [some (.ref 0), some (.int (nI (245 + k))), none]) (st' := [.int (nI 85), .int (nI (245 + k)), .ref 1]) (w1 := (KM, I2, J, GM)) rfl ?_
      refine mjT_go 1 (pc' := 32) (L' := [some (.ref 0), some (.int (nI (245 + k))), none]) (st' := [.int ((nI (245 + k)) - (nI 85)), .ref 1]) (w1 := (KM, I2, J, GM)) rfl ?_
      rw [show nI (245 + k) - nI 85 = nI (160 + k) by rw [show 245 + k = (160 + k) + 85 by omega, ← nI_add, Int32.add_sub_cancel]]
      refine mjT_go 3 (pc' := 37) (L' := [some (.ref 0), some (.int (nI (245 + k))), none]) (st' := [.int (nI (245 + k)), .ref 1, .int (nI (160 + k)), .ref 1]) (w1 := (KM, I2, J, GM)) rfl ?_
      refine mjT_ial (v := I2 1 (245 + k)) (245 + k) 1840 rfl (pc' := 38) rfl rfl rfl (by omega) (by omega) rfl ?_
      obtain ⟨V1, eV1⟩ : ∃ z, z = mj_row I2 1 (va_up (I2 1) (160 + k) (I2 1 (245 + k))) := ⟨_, rfl⟩
      refine mjT_ias (I' := V1) (160 + k) 1840 rfl (pc' := 39) rfl rfl rfl (by omega) (by omega) eV1.symm ?_
      refine mjT_go 2 (pc' := 17) (L' := [some (.ref 0), some (.int ((nI (245 + k)) + (nI 1))), none]) (st' := []) (w1 := (KM, V1, J, GM)) rfl ?_
      rw [nI_add]
      refine hc _ _ ⟨_, rfl, rfl, fun j hj => ?_, fun a ha => (st_ne eV1 (by omega)).trans (g2 a (by omega)), fun h hh => (st_h eV1 hh).trans (hf h hh)⟩
      by_cases e : j = k
      · subst e
        exact (st_at eV1).trans (g2 _ (by omega))
      · exact (st_ne eV1 (by omega)).trans (g1 j (by omega))
    · rintro _ _ ⟨I2, rfl, rfl, g1, g2, hf⟩
      refine mjT_go 3 (pc' := if nI 840 ≤ nI (245 + 595) then 45 else 24) (L' := [some (.ref 0), some (.int (nI (245 + 595))), none]) (st' := []) (w1 := (KM, I2, J, GM)) rfl ?_
      refine mjT_ifT (Int32.le_refl _) ?_
      refine mjT_go 4 (pc' := 53) (L' := [some (.ref 0), some (.int (nI (245 + 595))), none]) (st' := [.int (nI 153), .ref 1, .int (nI 153), .ref 1]) (w1 := (KM, I2, J, GM)) rfl ?_
      refine mjT_ial (v := nI S.kn) 153 1840 rfl (pc' := 54) rfl rfl rfl (by omega) (by omega) (show I2 1 153 = nI S.kn from ((g2 _ (by omega)).trans (mo_at h1 rfl (by omega)))) ?_
      refine mjT_go 1 (pc' := 55) (L' := [some (.ref 0), some (.int (nI (245 + 595))), none]) (st' := [.int (nI 1), .int (nI S.kn), .int (nI 153), .ref 1]) (w1 := (KM, I2, J, GM)) rfl ?_
      refine mjT_go 1 (pc' := 56) (L' := [some (.ref 0), some (.int (nI (245 + 595))), none]) (st' := [.int ((nI S.kn) - (nI 1)), .int (nI 153), .ref 1]) (w1 := (KM, I2, J, GM)) rfl ?_
      rw [nI_subP (by omega)]
      obtain ⟨V2, eV2⟩ : ∃ z, z = mj_row I2 1 (va_up (I2 1) 153 (nI (S.kn - 1))) := ⟨_, rfl⟩
      refine mjT_ias (I' := V2) 153 1840 rfl (pc' := 57) rfl rfl rfl (by omega) (by omega) eV2.symm ?_
      refine tail V2 (S.kn - 1) (fun j => S.pa (j + 1)) _ _ (by unfold remN; rw [if_pos h8]; omega) (fun j hj => ?_) ?_ (fun j hj => (hV.pa (j + 1) (by omega)).n) (st_at eV2) (fun j hj => ?_) (fun a ha => (st_ne eV2 (by omega)).trans (g2 _ (by omega))) (fun h hh => (st_h eV2 hh).trans (hf h hh))
      · unfold remP; rw [if_pos h8, if_pos (by omega)]
      · unfold remP; rw [if_pos h8, if_neg (by omega)]
      · have hq := h2 (j + 1) (by omega)
        have hqn := (hV.pa (j + 1) (by omega)).n
        exact ⟨(st_ne eV2 (by omega)).trans ((mo_at (g1 (85 * j + 84) (by omega)) rfl (by omega)).trans (mo_at hq.day rfl (by omega))),
          fun p hp k hk => (st_ne eV2 (by omega)).trans ((mo_at (g1 (85 * j + 12 * p + k) (by omega)) rfl (by omega)).trans (mo_at (hq.wr p hp k hk) rfl (by omega))),
          fun p hp k hk => (st_ne eV2 (by omega)).trans ((mo_at (g1 (85 * j + 12 * p + 6 + k) (by omega)) rfl (by omega)).trans (mo_at (hq.till p hp k hk) rfl (by omega)))⟩
end RE
