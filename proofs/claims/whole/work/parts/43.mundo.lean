section MU
variable {I : Nat → Nat → Int32} {J : Nat → Nat → Int64} {S : Sta} {O : Off}
theorem mm_undo (hV : VS S) (hM : MW I J S) : mj_E 173 [.ref 0] (KM, I, J, GM) (fun w' r => r = some (.int (aUndo S)) ∧ ∃ I' J', w' = (KM, I', J', GM) ∧ MW I' J' (sUndo S)) := by
  have hn := hV.o.n
  have hk8 := hV.kn
  obtain ⟨h1, h2⟩ := hM.past
  unfold aUndo sUndo
  refine mjT_go 3 (pc' := 7) (L' := [some (.ref 0), none, none]) (st' := [.int (nI 153), .ref 1]) (w1 := (KM, I, J, GM)) rfl ?_
  refine mjT_ial (v := nI S.kn) 153 1840 rfl (pc' := 8) rfl rfl rfl (by omega) (by omega) (show I 1 153 = nI S.kn from (mo_at h1 rfl (by omega))) ?_
  refine mjT_go 1 (pc' := if ¬ nI S.kn = 0 then 14 else 11) (L' := [some (.ref 0), none, none]) (st' := []) (w1 := (KM, I, J, GM)) rfl ?_
  by_cases hk : S.kn = 0
  · rw [if_pos hk, if_pos hk]
    refine mjT_ifF (fun q => q (by rw [hk]; exact nI_0)) ?_
    refine mjT_go 1 (pc' := 13) (L' := [some (.ref 0), none, none]) (st' := [.int (-4)]) (w1 := (KM, I, J, GM)) rfl ?_
    refine mjT_ret rfl rfl rfl ?_
    exact ⟨rfl, _, _, rfl, hM⟩
  · rw [if_neg hk, if_neg hk]
    refine mjT_ifT (nI_ne0 (by omega) (by omega)) ?_
    refine mjT_go 4 (pc' := 22) (L' := [some (.ref 0), none, none]) (st' := [.int (nI 153), .ref 1, .int (nI 153), .ref 1]) (w1 := (KM, I, J, GM)) rfl ?_
    refine mjT_ial (v := nI S.kn) 153 1840 rfl (pc' := 23) rfl rfl rfl (by omega) (by omega) (show I 1 153 = nI S.kn from (mo_at h1 rfl (by omega))) ?_
    refine mjT_go 1 (pc' := 24) (L' := [some (.ref 0), none, none]) (st' := [.int (nI 1), .int (nI S.kn), .int (nI 153), .ref 1]) (w1 := (KM, I, J, GM)) rfl ?_
    refine mjT_go 1 (pc' := 25) (L' := [some (.ref 0), none, none]) (st' := [.int ((nI S.kn) - (nI 1)), .int (nI 153), .ref 1]) (w1 := (KM, I, J, GM)) rfl ?_
    rw [nI_subP hk]
    obtain ⟨V1, eV1⟩ : ∃ z, z = mj_row I 1 (va_up (I 1) 153 (nI (S.kn - 1))) := ⟨_, rfl⟩
    refine mjT_ias (I' := V1) 153 1840 rfl (pc' := 26) rfl rfl rfl (by omega) (by omega) eV1.symm ?_
    refine mjT_go 5 (pc' := 38) (L' := [some (.ref 0), none, none]) (st' := [.int (nI 153), .ref 1, .int (nI 85), .int (nI 160)]) (w1 := (KM, V1, J, GM)) rfl ?_
    refine mjT_ial (v := nI (S.kn - 1)) 153 1840 rfl (pc' := 39) rfl rfl rfl (by omega) (by omega) (show V1 1 153 = nI (S.kn - 1) from (st_at eV1)) ?_
    refine mjT_go 5 (pc' := 44) (L' := [some (.ref 0), some (.int ((nI 160) + ((nI 85) * (nI (S.kn - 1))))), some (.int (nI 0))]) (st' := []) (w1 := (KM, V1, J, GM)) rfl ?_
    have hvh := hV.pa (S.kn - 1) (by omega)
    have hmp := h2 (S.kn - 1) (by omega)
    generalize hH : S.pa (S.kn - 1) = H at hvh hmp
    have e9 := hvh.n
    rw [pk_mul, nI_add]
    refine mj_loop (fun k L w => ∃ I', L = [some (.ref 0), some (.int (nI (160 + 85 * (S.kn - 1)))), some (.int (nI k))] ∧ w = (KM, I', J, GM) ∧ (∀ j, j < k → I' 1 (21 * (j / 12) + 9 + j % 12) = I 1 (160 + 85 * (S.kn - 1) + j)) ∧ (∀ a, (∀ j, j < 84 → a ≠ 21 * (j / 12) + 9 + j % 12) → I' 1 a = V1 1 a) ∧ ∀ h, h ≠ 1 → I' h = I h) 84 (k0 := 0) (Nat.zero_le _) ?_ ?_ ?_
    · exact ⟨_, rfl, rfl, fun _ h => absurd h (by omega), fun _ _ => rfl, fun h hh => st_h eV1 hh⟩
    · rintro k _ _ hkk ⟨I1, rfl, rfl, g1, g2, hf⟩ hc
      refine mjT_go 3 (pc' := if nI 84 ≤ nI k then 84 else 50) (L' := [some (.ref 0), some (.int (nI (160 + 85 * (S.kn - 1)))), some (.int (nI k))]) (st' := []) (w1 := (KM, I1, J, GM)) rfl ?_
      refine mjT_ifF (nI_ge (by omega) (by omega)) ?_
      refine mjT_go 5 (pc' := 59) (L' := [some (.ref 0), some (.int (nI (160 + 85 * (S.kn - 1)))), some (.int (nI k))]) (st' := [.int (nI 12), .int (nI k), .int (nI 21), .ref 1]) (w1 := (KM, I1, J, GM)) rfl ?_
      refine mjT_divN (u := k) (v := 12) rfl (pc' := 60) rfl rfl rfl (by omega) (by omega) (by omega) ?_
      refine mjT_go 5 (pc' := 67) (L' := [some (.ref 0), some (.int (nI (160 + 85 * (S.kn - 1)))), some (.int (nI k))]) (st' := [.int (nI 12), .int (nI k), .int (((nI 21) * (nI (k / 12))) + (nI 9)), .ref 1]) (w1 := (KM, I1, J, GM)) rfl ?_
      refine mjT_remN (u := k) (v := 12) rfl (pc' := 68) rfl rfl rfl (by omega) (by omega) (by omega) ?_
      refine mjT_go 6 (pc' := 76) (L' := [some (.ref 0), some (.int (nI (160 + 85 * (S.kn - 1)))), some (.int (nI k))]) (st' := [.int ((nI (160 + 85 * (S.kn - 1))) + (nI k)), .ref 1, .int ((((nI 21) * (nI (k / 12))) + (nI 9)) + (nI (k % 12))), .ref 1]) (w1 := (KM, I1, J, GM)) rfl ?_
      refine mjT_ial (v := I1 1 ((160 + 85 * (S.kn - 1)) + k)) ((160 + 85 * (S.kn - 1)) + k) 1840 rfl (pc' := 77) rfl rfl (by simp only [nI_add, pk_mul]) (by omega) (by omega) rfl ?_
      obtain ⟨V2, eV2⟩ : ∃ z, z = mj_row I1 1 (va_up (I1 1) (((21 * (k / 12)) + 9) + (k % 12)) (I1 1 ((160 + 85 * (S.kn - 1)) + k))) := ⟨_, rfl⟩
      refine mjT_ias (I' := V2) (((21 * (k / 12)) + 9) + (k % 12)) 1840 rfl (pc' := 78) rfl rfl (by simp only [nI_add, pk_mul]) (by omega) (by omega) eV2.symm ?_
      refine mjT_go 2 (pc' := 44) (L' := [some (.ref 0), some (.int (nI (160 + 85 * (S.kn - 1)))), some (.int ((nI k) + (nI 1)))]) (st' := []) (w1 := (KM, V2, J, GM)) rfl ?_
      rw [nI_add]
      refine hc _ _ ⟨_, rfl, rfl, fun j hj => ?_, fun a ha => (st_ne eV2 (ha k hkk)).trans (g2 a ha), fun h hh => (st_h eV2 hh).trans (hf h hh)⟩
      by_cases e : j = k
      · subst e
        exact (st_at eV2).trans ((g2 _ (fun i hi => by omega)).trans (st_ne eV1 (by omega)))
      · exact (st_ne eV2 (by omega)).trans (g1 j (by omega))
    · rintro _ _ ⟨I1, rfl, rfl, g1, g2, hf⟩
      have fr : ∀ a, a ≠ 153 → (∀ j, j < 84 → a ≠ 21 * (j / 12) + 9 + j % 12) → I1 1 a = I 1 a := fun a ha hb => (g2 a hb).trans (st_ne eV1 ha)
      refine mjT_go 3 (pc' := if nI 84 ≤ nI 84 then 84 else 50) (L' := [some (.ref 0), some (.int (nI (160 + 85 * (S.kn - 1)))), some (.int (nI 84))]) (st' := []) (w1 := (KM, I1, J, GM)) rfl ?_
      refine mjT_ifT (Int32.le_refl _) ?_
      refine mjT_go 8 (pc' := 99) (L' := [some (.ref 0), some (.int (nI (160 + 85 * (S.kn - 1)))), some (.int (nI 84))]) (st' := [.int ((nI (160 + 85 * (S.kn - 1))) + (nI 84)), .ref 1, .int (nI 148), .ref 1]) (w1 := (KM, I1, J, GM)) rfl ?_
      refine mjT_ial (v := nI H.day) ((160 + 85 * (S.kn - 1)) + 84) 1840 rfl (pc' := 100) rfl rfl (by simp only [nI_add, pk_mul]) (by omega) (by omega) (mo_at (show I1 1 (160 + 85 * (S.kn - 1) + 84) = nI H.day from ((fr _ (by omega) (fun j hj => by omega)).trans (mo_at hmp.day rfl (by omega)))) (by omega) (by omega)) ?_
      obtain ⟨V3, eV3⟩ : ∃ z, z = mj_row I1 1 (va_up (I1 1) 148 (nI H.day)) := ⟨_, rfl⟩
      refine mjT_ias (I' := V3) 148 1840 rfl (pc' := 101) rfl rfl rfl (by omega) (by omega) eV3.symm ?_
      have k3 : V3 1 153 = nI (S.kn - 1) := (st_ne eV3 (by omega)).trans ((g2 _ (fun j hj => by omega)).trans (st_at eV1))
      refine mjT_go 3 (pc' := 108) (L' := [some (.ref 0), some (.int (nI (160 + 85 * (S.kn - 1)))), some (.int (nI 84))]) (st' := [.int (nI 153), .ref 1]) (w1 := (KM, V3, J, GM)) rfl ?_
      refine mjT_ial (v := nI (S.kn - 1)) 153 1840 rfl (pc' := 109) rfl rfl rfl (by omega) (by omega) (show V3 1 153 = nI (S.kn - 1) from k3) ?_
      refine mjT_ret rfl rfl rfl ?_
      have fr3 : ∀ a, a ≠ 153 → a ≠ 148 → (∀ j, j < 84 → a ≠ 21 * (j / 12) + 9 + j % 12) → V3 1 a = I 1 a := fun a ha hd hb => (st_ne eV3 hd).trans (fr a ha hb)
      have f3 : ∀ h, h ≠ 1 → V3 h = I h := fun h hh => (st_h eV3 hh).trans (hf h hh)
      have hM0 : MO V3 0 (handsO S.o H) := by
        refine ⟨(fr3 _ (by omega) (by omega) (fun j hj => by omega)).trans hM.o.n, st_at eV3, (fr3 _ (by omega) (by omega) (fun j hj => by omega)).trans hM.o.wet, (fr3 _ (by omega) (by omega) (fun j hj => by omega)).trans hM.o.dry, (fr3 _ (by omega) (by omega) (fun j hj => by omega)).trans hM.o.las, (fr3 _ (by omega) (by omega) (fun j hj => by omega)).trans hM.o.draw, ?_, ?_, ?_, ?_, ?_, ?_⟩
        · intro p (hp : p < S.o.n); exact (fr3 _ (by omega) (by omega) (fun j hj => by omega)).trans (hM.o.kind p hp)
        · intro p (hp : p < S.o.n); exact (fr3 _ (by omega) (by omega) (fun j hj => by omega)).trans (hM.o.str p hp)
        · intro p (hp : p < S.o.n); exact (fr3 _ (by omega) (by omega) (fun j hj => by omega)).trans (hM.o.chair p hp)
        · intro p (hp : p < S.o.n) k hk; exact (fr3 _ (by omega) (by omega) (fun j hj => by omega)).trans (hM.o.own p hp k hk)
        · intro p (hp : p < S.o.n) k hk
          refine (st_ne eV3 (by omega)).trans ((mo_at (g1 (12 * p + k) (by omega)) rfl (by omega)).trans (mo_at (hmp.wr p (by omega) k hk) rfl (by omega)))
        · intro p (hp : p < S.o.n) k hk
          refine (st_ne eV3 (by omega)).trans ((mo_at (g1 (12 * p + 6 + k) (by omega)) rfl (by omega)).trans (mo_at (hmp.till p (by omega) k hk) rfl (by omega)))
      subst hH
      refine ⟨rfl, _, _, rfl, hM0, ⟨k3, fun j (hj : j < S.kn - 1) => ?_⟩, by rw [f3 0 (by omega)]; exact hM.im, fun hi => ?_, ?_, ?_, ?_, ?_, hM.it⟩
      · have ej := (hV.pa j (by omega)).n
        have hj2 := h2 j (by omega)
        exact ⟨(fr3 _ (by omega) (by omega) (fun i hi => by omega)).trans hj2.day, fun p hp k hk => (fr3 _ (by omega) (by omega) (fun i hi => by omega)).trans (hj2.wr p hp k hk), fun p hp k hk => (fr3 _ (by omega) (by omega) (fun i hi => by omega)).trans (hj2.till p hp k hk)⟩
      · obtain ⟨v1, v2, v3, v4⟩ := hV.io hi
        exact ⟨mo_cong (hM.io hi).1 v1.n (fun k hk _ => fr3 _ (by omega) (by omega) (fun i hi => by omega)), pm_cong (hM.io hi).2 v3 v1.n v4 (fun k hk _ => fr3 _ (by omega) (by omega) (fun i hi => by omega))⟩
      · rw [f3 _ (by omega)]; exact hM.tl
      · rw [f3 _ (by omega)]; exact hM.tp
      · rw [f3 _ (by omega)]; exact hM.ln
      · rw [f3 _ (by omega)]; exact hM.sz
theorem sim_undo : SimO 85 173 [] := fun S _ _ _ _ hV hC hM => ⟨_, _, vs_sundo hV, cc_undo hV hC, mm_undo hV hM⟩
end MU
