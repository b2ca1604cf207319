/-! image and restore -/
abbrev CpH (I I' : Nat → Nat → Int32) (q q2 : Nat) : Prop := I' q 0 = I q2 0 ∧ (∀ p, p < 7 → I' (q + 1) p = I (q2 + 1) p) ∧ ∀ j, j < 42 → I' (q + 2) j = I (q2 + 2) j
theorem ho_cp {I I' : Nat → Nat → Int32} {q q2 : Nat} {O : Off} {P : Nat → Prop} (h : CpH I I' q q2) (hn : O.n ≤ 7) (hO : HO I q2 O P) : HO I' q O P :=
  ⟨h.1.trans hO.day, fun p hp hP => (h.2.1 p (by omega)).trans (hO.wr p hp hP), fun p hp hP k hk => (h.2.2 _ (by omega)).trans (hO.till p hp hP k hk)⟩
abbrev PaG (h : Nat) : Prop :=
  (KC.getD h (99, 0) = (0, 2)) ∧
  (KC.getD (h + 1) (99, 0) = (3, 8)) ∧
  (GC h 0 = some (h + 1)) ∧
  (∀ k, k < 8 → GC (h + 1) k = some (h + 2 + 3 * k)) ∧
  (∀ k, k < 8 → HaG (h + 2 + 3 * k))
theorem PaG.k0 {h : Nat} (zz : PaG h) : KC.getD h (99, 0) = (0, 2) := zz.1
theorem PaG.k1 {h : Nat} (zz : PaG h) : KC.getD (h + 1) (99, 0) = (3, 8) := zz.2.1
theorem PaG.r {h : Nat} (zz : PaG h) : GC h 0 = some (h + 1) := zz.2.2.1
theorem PaG.ring {h : Nat} (zz : PaG h) : ∀ k, k < 8 → GC (h + 1) k = some (h + 2 + 3 * k) := zz.2.2.2.1
theorem PaG.ha {h : Nat} (zz : PaG h) : ∀ k, k < 8 → HaG (h + 2 + 3 * k) := zz.2.2.2.2
theorem lt8 {k : Nat} (h : k < 8) : k = 0 ∨ k = 1 ∨ k = 2 ∨ k = 3 ∨ k = 4 ∨ k = 5 ∨ k = 6 ∨ k = 7 := by omega
theorem pg_12 : PaG 12 := by
  refine ⟨rfl, rfl, rfl, fun k hk => ?_, fun k hk => ?_⟩
  · rcases lt8 hk with rfl | rfl | rfl | rfl | rfl | rfl | rfl | rfl <;> rfl
  · rcases lt8 hk with rfl | rfl | rfl | rfl | rfl | rfl | rfl | rfl <;> exact ⟨rfl, rfl, rfl, rfl, rfl⟩
theorem pg_49 : PaG 49 := by
  refine ⟨rfl, rfl, rfl, fun k hk => ?_, fun k hk => ?_⟩
  · rcases lt8 hk with rfl | rfl | rfl | rfl | rfl | rfl | rfl | rfl <;> rfl
  · rcases lt8 hk with rfl | rfl | rfl | rfl | rfl | rfl | rfl | rfl <;> exact ⟨rfl, rfl, rfl, rfl, rfl⟩
section IM
variable {I : Nat → Nat → Int32} {J : Nat → Nat → Int64} {S : Sta} {o q q2 h h2 : Nat} {O : Off} {P : Nat → Prop}
theorem c_hbecomeR (hG : HaG q) (hG2 : HaG q2) (hd : q2 + 2 < q ∨ q + 2 < q2) : mj_E 1 [.ref q, .ref q2] (KC, I, J, GC) (fun w' r => r = none ∧ ∃ I', w' = (KC, I', J, GC) ∧ CpH I I' q q2 ∧ ∀ h, (h < q ∨ q + 2 < h) → I' h = I h) := by
  refine mjT_go 2 (pc' := 2) (L' := [some (.ref q), some (.ref q2)]) (st' := [.ref q2, .ref q]) (w1 := (KC, I, J, GC)) rfl ?_
  refine mjT_gfi (v := I q2 0) rfl (Or.inl rfl) (pc' := 5) rfl hG2.k0 rfl ?_
  obtain ⟨V1, eV1⟩ : ∃ z, z = mj_row I q (va_up (I q) 0 (I q2 0)) := ⟨_, rfl⟩
  refine mjT_pfi (I' := V1) rfl (pc' := 8) rfl hG.k0 eV1.symm ?_
  refine mjT_go 1 (pc' := 9) (L' := [some (.ref q), some (.ref q2)]) (st' := [.ref q2]) (w1 := (KC, V1, J, GC)) rfl ?_
  refine mjT_gfr (h' := (q2 + 1)) rfl (pc' := 12) rfl hG2.k0 hG2.r1 ?_
  refine mjT_go 2 (pc' := 14) (L' := [some (.ref q), some (.ref q2)]) (st' := [.ref q, .int (nI 0), .ref (q2 + 1)]) (w1 := (KC, V1, J, GC)) rfl ?_
  refine mjT_gfr (h' := (q + 1)) rfl (pc' := 17) rfl hG.k0 hG.r1 ?_
  refine mjT_go 2 (pc' := 20) (L' := [some (.ref q), some (.ref q2)]) (st' := [.int (nI 7), .int (nI 0), .ref (q + 1), .int (nI 0), .ref (q2 + 1)]) (w1 := (KC, V1, J, GC)) rfl ?_
  obtain ⟨V2, eV2⟩ : ∃ z, z = mj_row V1 (q + 1) (va_cpy (V1 (q2 + 1)) (V1 (q + 1)) 0 0 7) := ⟨_, rfl⟩
  refine mjT_cpi (I' := V2) (n := 7) (n2 := 7) (sp := 0) (dp := 0) (m := 7) rfl (pc' := 23) rfl hG2.k1 hG.k1 rfl rfl rfl (by omega) (by omega) (by omega) (by decide) eV2.symm ?_
  refine mjT_go 1 (pc' := 24) (L' := [some (.ref q), some (.ref q2)]) (st' := [.ref q2]) (w1 := (KC, V2, J, GC)) rfl ?_
  refine mjT_gfr (h' := (q2 + 2)) rfl (pc' := 27) rfl hG2.k0 hG2.r2 ?_
  refine mjT_go 2 (pc' := 29) (L' := [some (.ref q), some (.ref q2)]) (st' := [.ref q, .int (nI 0), .ref (q2 + 2)]) (w1 := (KC, V2, J, GC)) rfl ?_
  refine mjT_gfr (h' := (q + 2)) rfl (pc' := 32) rfl hG.k0 hG.r2 ?_
  refine mjT_go 2 (pc' := 35) (L' := [some (.ref q), some (.ref q2)]) (st' := [.int (nI 42), .int (nI 0), .ref (q + 2), .int (nI 0), .ref (q2 + 2)]) (w1 := (KC, V2, J, GC)) rfl ?_
  obtain ⟨V3, eV3⟩ : ∃ z, z = mj_row V2 (q + 2) (va_cpy (V2 (q2 + 2)) (V2 (q + 2)) 0 0 42) := ⟨_, rfl⟩
  refine mjT_cpi (I' := V3) (n := 42) (n2 := 42) (sp := 0) (dp := 0) (m := 42) rfl (pc' := 38) rfl hG2.k2 hG.k2 rfl rfl rfl (by omega) (by omega) (by omega) (by decide) eV3.symm ?_
  refine mjT_ret rfl rfl rfl ?_
  refine ⟨rfl, _, rfl, ⟨?_, ?_, ?_⟩, fun h hh => by rw [cp_h eV3 (by omega), cp_h eV2 (by omega), st_h eV1 (by omega)]⟩
  · rw [cp_h eV3 (by omega), cp_h eV2 (by omega)]; exact st_at eV1
  · intro p hp
    rw [cp_h eV3 (by omega), cp_at eV2 (by omega), st_h eV1 (by omega)]
  · intro j hj
    rw [cp_at eV3 (by omega), cp_h eV2 (by omega), st_h eV1 (by omega)]
theorem c_pbecome (hG : PaG h) (hG2 : PaG h2) (hd : h2 + 25 < h ∨ h + 25 < h2) : mj_E 40 [.ref h, .ref h2] (KC, I, J, GC) (fun w' r => r = none ∧ ∃ I', w' = (KC, I', J, GC) ∧ (∀ kn pa, kn ≤ 8 → (∀ j, j < kn → Off.n (pa j) ≤ 7) → PC I h2 (h2 + 2) kn pa → PC I' h (h + 2) kn pa) ∧ ∀ a, (a < h ∨ h + 25 < a) → I' a = I a) := by
  refine mjT_go 2 (pc' := 2) (L' := [some (.ref h), some (.ref h2), some (.int (nI 0))]) (st' := []) (w1 := (KC, I, J, GC)) rfl ?_
  refine mj_loop (fun k L w => ∃ I', L = [some (.ref h), some (.ref h2), some (.int (nI k))] ∧ w = (KC, I', J, GC) ∧ (∀ j, j < k → CpH I I' (h + 2 + 3 * j) (h2 + 2 + 3 * j)) ∧ ∀ a, (a < h + 2 ∨ h + 25 < a) → I' a = I a) 8 (k0 := 0) (Nat.zero_le _) ?_ ?_ ?_
  · exact ⟨_, rfl, rfl, fun _ h => absurd h (by omega), fun _ _ => rfl⟩
  · rintro k _ _ hk ⟨I1, rfl, rfl, hcp, hf1⟩ hc
    refine mjT_go 3 (pc' := if nI 8 ≤ nI k then 29 else 8) (L' := [some (.ref h), some (.ref h2), some (.int (nI k))]) (st' := []) (w1 := (KC, I1, J, GC)) rfl ?_
    refine mjT_ifF (nI_ge (by omega) (by omega)) ?_
    refine mjT_go 1 (pc' := 9) (L' := [some (.ref h), some (.ref h2), some (.int (nI k))]) (st' := [.ref h]) (w1 := (KC, I1, J, GC)) rfl ?_
    refine mjT_gfr (h' := (h + 1)) rfl (pc' := 12) rfl hG.k0 hG.r ?_
    refine mjT_go 1 (pc' := 13) (L' := [some (.ref h), some (.ref h2), some (.int (nI k))]) (st' := [.int (nI k), .ref (h + 1)]) (w1 := (KC, I1, J, GC)) rfl ?_
    refine mjT_aal (h' := (h + 2 + 3 * k)) k 8 rfl (pc' := 14) rfl (by decide) hG.k1 rfl (by omega) (by omega) (hG.ring k hk) ?_
    refine mjT_go 1 (pc' := 15) (L' := [some (.ref h), some (.ref h2), some (.int (nI k))]) (st' := [.ref h2, .ref (h + 2 + 3 * k)]) (w1 := (KC, I1, J, GC)) rfl ?_
    refine mjT_gfr (h' := (h2 + 1)) rfl (pc' := 18) rfl hG2.k0 hG2.r ?_
    refine mjT_go 1 (pc' := 19) (L' := [some (.ref h), some (.ref h2), some (.int (nI k))]) (st' := [.int (nI k), .ref (h2 + 1), .ref (h + 2 + 3 * k)]) (w1 := (KC, I1, J, GC)) rfl ?_
    refine mjT_aal (h' := (h2 + 2 + 3 * k)) k 8 rfl (pc' := 20) rfl (by decide) hG2.k1 rfl (by omega) (by omega) (hG2.ring k hk) ?_
    refine mjT_call (as := [.ref (h + 2 + 3 * k), .ref (h2 + 2 + 3 * k)]) (rest := []) rfl rfl rfl (mj_callI rfl rfl (hG.ha k hk).k0) rfl ⟨rfl, rfl⟩ (c_hbecomeR (hG.ha k hk) (hG2.ha k hk) (by omega)) ?_
    rintro _ _ ⟨rfl, I2, rfl, hcp2, hf2⟩
    refine mjT_go 2 (pc' := 2) (L' := [some (.ref h), some (.ref h2), some (.int ((nI k) + (nI 1)))]) (st' := []) (w1 := (KC, I2, J, GC)) rfl ?_
    rw [nI_add]
    refine hc _ _ ⟨_, rfl, rfl, fun j hj => ?_, fun a ha => by rw [hf2 _ (by omega), hf1 _ ha]⟩
    by_cases e : j = k
    · subst e
      refine ⟨hcp2.1.trans (by rw [hf1 _ (by omega)]), fun p hp => (hcp2.2.1 p hp).trans (by rw [hf1 _ (by omega)]), fun i hi => (hcp2.2.2 i hi).trans (by rw [hf1 _ (by omega)])⟩
    · obtain ⟨a, b, c⟩ := hcp j (by omega)
      exact ⟨by rw [hf2 _ (by omega)]; exact a, by rw [hf2 _ (by omega)]; exact b, by rw [hf2 _ (by omega)]; exact c⟩
  · rintro _ _ ⟨I1, rfl, rfl, hcp, hf1⟩
    refine mjT_go 3 (pc' := if nI 8 ≤ nI 8 then 29 else 8) (L' := [some (.ref h), some (.ref h2), some (.int (nI 8))]) (st' := []) (w1 := (KC, I1, J, GC)) rfl ?_
    refine mjT_ifT (Int32.le_refl _) ?_
    refine mjT_go 2 (pc' := 31) (L' := [some (.ref h), some (.ref h2), some (.int (nI 8))]) (st' := [.ref h2, .ref h]) (w1 := (KC, I1, J, GC)) rfl ?_
    refine mjT_gfi (v := I1 h2 1) rfl (Or.inl rfl) (pc' := 34) rfl hG2.k0 rfl ?_
    obtain ⟨V1, eV1⟩ : ∃ z, z = mj_row I1 h (va_up (I1 h) 1 (I1 h2 1)) := ⟨_, rfl⟩
    refine mjT_pfi (I' := V1) rfl (pc' := 37) rfl hG.k0 eV1.symm ?_
    refine mjT_go 2 (pc' := 39) (L' := [some (.ref h), some (.ref h2), some (.int (nI 8))]) (st' := [.ref h2, .ref h]) (w1 := (KC, V1, J, GC)) rfl ?_
    refine mjT_gfi (v := V1 h2 2) rfl (Or.inl rfl) (pc' := 42) rfl hG2.k0 rfl ?_
    obtain ⟨V2, eV2⟩ : ∃ z, z = mj_row V1 h (va_up (V1 h) 2 (V1 h2 2)) := ⟨_, rfl⟩
    refine mjT_pfi (I' := V2) rfl (pc' := 45) rfl hG.k0 eV2.symm ?_
    refine mjT_ret rfl rfl rfl ?_
    refine ⟨rfl, _, rfl, fun kn pa hkn hpn hp => ?_, fun a ha => by rw [st_h eV2 (by omega), st_h eV1 (by omega), hf1 _ (by omega)]⟩
    obtain ⟨nx, h1, h2', h3, h4⟩ := hp
    refine ⟨nx, h1, ?_, ?_, fun j hj => ?_⟩
    · rw [st_ne eV2 (by omega), st_at eV1, hf1 _ (by omega)]; exact h2'
    · rw [st_at eV2, st_h eV1 (by omega), hf1 _ (by omega)]; exact h3
    · have hm : (nx + 8 - kn + j) % 8 < 8 := Nat.mod_lt _ (by omega)
      have := ho_cp (hcp _ hm) (hpn j hj) (h4 j hj)
      exact ho_cong this (by rw [st_h eV2 (by omega), st_h eV1 (by omega)]) (by rw [st_h eV2 (by omega), st_h eV1 (by omega)]) (by rw [st_h eV2 (by omega), st_h eV1 (by omega)])
def imgS (S : Sta) : Sta := mkS S.o S.kn S.pa 1 S.o S.kn S.pa S.tl S.tp S.sz S.ln S.it
def resS (S : Sta) : Sta := mkS S.io S.ikn S.ipa S.im S.io S.ikn S.ipa S.tl S.tp S.sz S.ln S.it
theorem vs_img (hV : VS S) : VS (imgS S) := ⟨hV.o, hV.day, hV.kn, hV.pa, by show 1 < 2; omega, fun _ => ⟨hV.o, hV.day, hV.kn, hV.pa⟩, hV.tl, hV.tp, hV.sz, hV.ln⟩
theorem vs_res (hV : VS S) (h : S.im = 1) : VS (resS S) := by
  obtain ⟨v1, v2, v3, v4⟩ := hV.io h
  exact ⟨v1, v2, v3, v4, hV.im, hV.io, hV.tl, hV.tp, hV.sz, hV.ln⟩
theorem cc_image (hV : VS S) (hC : CW I J S) : mj_E 100 [.ref 0] (KC, I, J, GC) (fun w' r => r = some (.int (nI 1)) ∧ ∃ I' J', w' = (KC, I', J', GC) ∧ CW I' J' (imgS S)) := by
  have hn := hV.o.n
  obtain ⟨la, hla⟩ := nI_surj (I 38 3)
  obtain ⟨dr, hdr⟩ := nI_surj (I 38 4)
  refine mjT_go 4 (pc' := 8) (L' := [some (.ref 0)]) (st' := [.ref 1, .ref 38]) (w1 := (KC, I, J, GC)) rfl ?_
  refine mjT_call (as := [.ref 38, .ref 1]) (rest := []) rfl rfl rfl rfl rfl ⟨rfl, rfl⟩ (c_become hn og_38 og_1 (by omega) hC.o hla hdr) ?_
  rintro _ _ ⟨rfl, I2, rfl, hO2, hf2⟩
  refine mjT_go 4 (pc' := 19) (L' := [some (.ref 0)]) (st' := [.ref 12, .ref 49]) (w1 := (KC, I2, J, GC)) rfl ?_
  refine mjT_call (as := [.ref 49, .ref 12]) (rest := []) rfl rfl rfl rfl rfl ⟨rfl, rfl⟩ (c_pbecome pg_49 pg_12 (by omega)) ?_
  rintro _ _ ⟨rfl, I3, rfl, hP3, hf3⟩
  refine mjT_go 2 (pc' := 24) (L' := [some (.ref 0)]) (st' := [.int (nI 1), .ref 0]) (w1 := (KC, I3, J, GC)) rfl ?_
  obtain ⟨V1, eV1⟩ : ∃ z, z = mj_row I3 0 (va_up (I3 0) 4 (nI 1)) := ⟨_, rfl⟩
  refine mjT_pfb (I' := V1) rfl (pc' := 27) rfl rfl (by decide) eV1.symm ?_
  refine mjT_go 1 (pc' := 28) (L' := [some (.ref 0)]) (st' := [.int (nI 1)]) (w1 := (KC, V1, J, GC)) rfl ?_
  refine mjT_ret rfl rfl rfl ?_
  have hp : PC I2 12 14 S.kn S.pa := pc_cong hC.past (hf2 _ (by omega)) (fun k hk => hf2 _ (by omega))
  have hp3 := hP3 S.kn S.pa hV.kn (fun j hj => by rw [(hV.pa j hj).n]; exact hn) hp
  have hk0 : PC I3 12 14 S.kn S.pa := pc_cong hp (hf3 _ (by omega)) (fun k hk => hf3 _ (by omega))
  have hO1 : RO I3 1 S.o TT := ro_cong hC.o (fun k hk => by rw [hf3 _ (by omega), hf2 _ (by omega)])
  have hO38 : RO I3 38 S.o TT := ro_cong hO2 (fun k hk => by rw [hf3 _ (by omega)])
  have hx : ∀ a, 75 ≤ a → V1 a = I a := fun a ha => by rw [st_h eV1 (by omega), hf3 _ (by omega), hf2 _ (by omega)]
  refine ⟨rfl, _, _, rfl, ro_cong hO1 (fun k hk => st_h eV1 (by omega)), pc_cong hk0 (st_h eV1 (by omega)) (fun k hk => st_h eV1 (by omega)), st_at eV1, fun _ => ⟨ro_cong hO38 (fun k hk => st_h eV1 (by omega)), pc_cong hp3 (st_h eV1 (by omega)) (fun k hk => st_h eV1 (by omega))⟩, ?_, ?_, ?_, ?_, hC.it⟩
  · rw [hx _ (by omega)]; exact hC.tl
  · rw [hx _ (by omega)]; exact hC.tp
  · rw [hx _ (by omega)]; exact hC.sz
  · rw [hx _ (by omega)]; exact hC.ln
noncomputable def aRestore (S : Sta) : Int32 := if S.im = 1 then nI 1 else -4
def sRestore (S : Sta) : Sta := if S.im = 1 then resS S else S
theorem cc_restore (hV : VS S) (hC : CW I J S) : mj_E 101 [.ref 0] (KC, I, J, GC) (fun w' r => r = some (.int (aRestore S)) ∧ ∃ I' J', w' = (KC, I', J', GC) ∧ CW I' J' (sRestore S)) := by
  obtain ⟨la, hla⟩ := nI_surj (I 1 3)
  obtain ⟨dr, hdr⟩ := nI_surj (I 1 4)
  have him := hV.im
  unfold aRestore sRestore
  refine mjT_go 1 (pc' := 1) (L' := [some (.ref 0)]) (st' := [.ref 0]) (w1 := (KC, I, J, GC)) rfl ?_
  refine mjT_gfi (v := nI S.im) rfl (Or.inr rfl) (pc' := 4) rfl rfl (show I 0 4 = nI S.im from hC.im) ?_
  refine mjT_go 1 (pc' := if ¬ nI S.im = 0 then 10 else 7) (L' := [some (.ref 0)]) (st' := []) (w1 := (KC, I, J, GC)) rfl ?_
  have e0 : I 0 4 = nI S.im := hC.im
  by_cases hi : S.im = 1
  · rw [if_pos hi, if_pos hi]
    obtain ⟨v1, v2, v3, v4⟩ := hV.io hi
    obtain ⟨c1, c2⟩ := hC.io hi
    refine mjT_ifT (by rw [hi]; decide) ?_
    refine mjT_go 4 (pc' := 18) (L' := [some (.ref 0)]) (st' := [.ref 38, .ref 1]) (w1 := (KC, I, J, GC)) rfl ?_
    refine mjT_call (as := [.ref 1, .ref 38]) (rest := []) rfl rfl rfl rfl rfl ⟨rfl, rfl⟩ (c_become v1.n og_1 og_38 (by omega) c1 hla hdr) ?_
    rintro _ _ ⟨rfl, I2, rfl, hO2, hf2⟩
    refine mjT_go 4 (pc' := 29) (L' := [some (.ref 0)]) (st' := [.ref 49, .ref 12]) (w1 := (KC, I2, J, GC)) rfl ?_
    refine mjT_call (as := [.ref 12, .ref 49]) (rest := []) rfl rfl rfl rfl rfl ⟨rfl, rfl⟩ (c_pbecome pg_12 pg_49 (by omega)) ?_
    rintro _ _ ⟨rfl, I3, rfl, hP3, hf3⟩
    refine mjT_go 1 (pc' := 33) (L' := [some (.ref 0)]) (st' := [.int (nI 1)]) (w1 := (KC, I3, J, GC)) rfl ?_
    refine mjT_ret rfl rfl rfl ?_
    have hp : PC I2 49 51 S.ikn S.ipa := pc_cong c2 (hf2 _ (by omega)) (fun k hk => hf2 _ (by omega))
    have hp3 := hP3 S.ikn S.ipa v3 (fun j hj => by rw [(v4 j hj).n]; exact v1.n) hp
    have hk0 : PC I3 49 51 S.ikn S.ipa := pc_cong hp (hf3 _ (by omega)) (fun k hk => hf3 _ (by omega))
    have hO1 : RO I3 1 S.io TT := ro_cong hO2 (fun k hk => by rw [hf3 _ (by omega)])
    have hO38 : RO I3 38 S.io TT := ro_cong c1 (fun k hk => by rw [hf3 _ (by omega), hf2 _ (by omega)])
    have hx : ∀ a, (a < 1 ∨ 75 ≤ a) → I3 a = I a := fun a ha => by rw [hf3 _ (by omega), hf2 _ (by omega)]
    refine ⟨rfl, _, _, rfl, hO1, hp3, by rw [hx 0 (by omega)]; exact hC.im, fun _ => ⟨hO38, hk0⟩, ?_, ?_, ?_, ?_, hC.it⟩
    · rw [hx _ (by omega)]; exact hC.tl
    · rw [hx _ (by omega)]; exact hC.tp
    · rw [hx _ (by omega)]; exact hC.sz
    · rw [hx _ (by omega)]; exact hC.ln
  · rw [if_neg hi, if_neg hi]
    refine mjT_ifF (fun q => q (by rw [show S.im = 0 by omega]; exact nI_0)) ?_
    refine mjT_go 1 (pc' := 9) (L' := [some (.ref 0)]) (st' := [.int (-4)]) (w1 := (KC, I, J, GC)) rfl ?_
    refine mjT_ret rfl rfl rfl ?_
    exact ⟨rfl, _, _, rfl, hC⟩
/-- what stands from x on stands from z on -/
theorem pm_move {I I' : Nat → Nat → Int32} {x z kn n : Nat} {pa : Nat → Off} (hp : PM I x kn pa) (hkn : kn ≤ 8) (hn : n ≤ 7) (hv : ∀ j, j < kn → VH n (pa j)) (hm : ∀ k, k < 840 → I' 1 (z + k) = I 1 (x + k)) : PM I' z kn pa := by
  have g : ∀ a b v, I 1 a = v → a = x + b → b < 840 → I' 1 (z + b) = v := fun a b v e ea hb => by subst ea; exact (hm b hb).trans e
  obtain ⟨h1, h2⟩ := hp
  refine ⟨g _ _ _ h1 rfl (by omega), fun j hj => ?_⟩
  have e := (hv j hj).n
  exact ⟨mo_at (g _ (160 + 85 * j + 84) _ (h2 j hj).day (by omega) (by omega)) rfl (by omega),
    fun p hp k hk => mo_at (g _ (160 + 85 * j + 12 * p + k) _ ((h2 j hj).wr p hp k hk) (by omega) (by omega)) rfl (by omega),
    fun p hp k hk => mo_at (g _ (160 + 85 * j + 12 * p + 6 + k) _ ((h2 j hj).till p hp k hk) (by omega) (by omega)) rfl (by omega)⟩
theorem mm_image (hV : VS S) (hM : MW I J S) : mj_E 199 [.ref 0] (KM, I, J, GM) (fun w' r => r = some (.int (nI 1)) ∧ ∃ I' J', w' = (KM, I', J', GM) ∧ MW I' J' (imgS S)) := by
  have hn := hV.o.n
  refine mjT_go 2 (pc' := 2) (L' := [some (.ref 0), some (.int (nI 0))]) (st' := []) (w1 := (KM, I, J, GM)) rfl ?_
  refine mj_loop (fun k L w => ∃ I', L = [some (.ref 0), some (.int (nI k))] ∧ w = (KM, I', J, GM) ∧ (∀ j, j < k → I' 1 (840 + j) = I 1 j) ∧ (∀ j, j < 840 → I' 1 j = I 1 j) ∧ ∀ h, h ≠ 1 → I' h = I h) 840 (k0 := 0) (Nat.zero_le _) ?_ ?_ ?_
  · exact ⟨_, rfl, rfl, fun _ h => absurd h (by omega), fun _ _ => rfl, fun _ _ => rfl⟩
  · rintro k _ _ hk ⟨I1, rfl, rfl, h1, h2, hf⟩ hc
    refine mjT_go 3 (pc' := if nI 840 ≤ nI k then 31 else 9) (L' := [some (.ref 0), some (.int (nI k))]) (st' := []) (w1 := (KM, I1, J, GM)) rfl ?_
    refine mjT_ifF (nI_ge (by omega) (by omega)) ?_
    refine mjT_go 8 (pc' := 23) (L' := [some (.ref 0), some (.int (nI k))]) (st' := [.int (nI k), .ref 1, .int ((nI 840) + (nI k)), .ref 1]) (w1 := (KM, I1, J, GM)) rfl ?_
    refine mjT_ial (v := I1 1 k) k 1840 rfl (pc' := 24) rfl rfl rfl (by omega) (by omega) rfl ?_
    obtain ⟨V1, eV1⟩ : ∃ z, z = mj_row I1 1 (va_up (I1 1) (840 + k) (I1 1 k)) := ⟨_, rfl⟩
    refine mjT_ias (I' := V1) (840 + k) 1840 rfl (pc' := 25) rfl rfl (by simp only [nI_add, pk_mul]) (by omega) (by omega) eV1.symm ?_
    refine mjT_go 2 (pc' := 2) (L' := [some (.ref 0), some (.int ((nI k) + (nI 1)))]) (st' := []) (w1 := (KM, V1, J, GM)) rfl ?_
    rw [nI_add]
    refine hc _ _ ⟨_, rfl, rfl, fun j hj => ?_, fun j hj => (st_ne eV1 (by omega)).trans (h2 j hj), fun h hh => (st_h eV1 hh).trans (hf h hh)⟩
    by_cases e : j = k
    · subst e; exact (st_at eV1).trans (h2 j (by omega))
    · exact (st_ne eV1 (by omega)).trans (h1 j (by omega))
  · rintro _ _ ⟨I1, rfl, rfl, h1, h2, hf⟩
    refine mjT_go 3 (pc' := if nI 840 ≤ nI 840 then 31 else 9) (L' := [some (.ref 0), some (.int (nI 840))]) (st' := []) (w1 := (KM, I1, J, GM)) rfl ?_
    refine mjT_ifT (Int32.le_refl _) ?_
    refine mjT_go 2 (pc' := 33) (L' := [some (.ref 0), some (.int (nI 840))]) (st' := [.int (nI 1), .ref 0]) (w1 := (KM, I1, J, GM)) rfl ?_
    obtain ⟨V2, eV2⟩ : ∃ z, z = mj_row I1 0 (va_up (I1 0) 1 (nI 1)) := ⟨_, rfl⟩
    refine mjT_pfb (I' := V2) rfl (pc' := 36) rfl rfl (by decide) eV2.symm ?_
    refine mjT_go 1 (pc' := 37) (L' := [some (.ref 0), some (.int (nI 840))]) (st' := [.int (nI 1)]) (w1 := (KM, V2, J, GM)) rfl ?_
    refine mjT_ret rfl rfl rfl ?_
    have e1 : V2 1 = I1 1 := st_h eV2 (by omega)
    refine ⟨rfl, _, _, rfl, mo_cong hM.o hn (fun k _ hk => by rw [e1]; exact h2 k (by omega)), pm_cong hM.past hV.kn hn hV.pa (fun k _ hk => by rw [e1]; exact h2 k (by omega)), st_at eV2, fun _ => ⟨mo_move hM.o hn (fun k hk => by rw [e1, Nat.zero_add]; exact h1 k (by omega)), pm_move hM.past hV.kn hn hV.pa (fun k hk => by rw [e1, Nat.zero_add]; exact h1 k hk)⟩, ?_, ?_, ?_, ?_, hM.it⟩
    · rw [st_ne eV2 (by omega), hf _ (by omega)]; exact hM.tl
    · rw [st_h eV2 (by omega), hf _ (by omega)]; exact hM.tp
    · rw [st_h eV2 (by omega), hf _ (by omega)]; exact hM.ln
    · rw [st_h eV2 (by omega), hf _ (by omega)]; exact hM.sz
theorem mm_restore (hV : VS S) (hM : MW I J S) : mj_E 200 [.ref 0] (KM, I, J, GM) (fun w' r => r = some (.int (aRestore S)) ∧ ∃ I' J', w' = (KM, I', J', GM) ∧ MW I' J' (sRestore S)) := by
  have him := hV.im
  unfold aRestore sRestore
  refine mjT_go 1 (pc' := 1) (L' := [some (.ref 0), none]) (st' := [.ref 0]) (w1 := (KM, I, J, GM)) rfl ?_
  refine mjT_gfi (v := nI S.im) rfl (Or.inr rfl) (pc' := 4) rfl rfl (show I 0 1 = nI S.im from hM.im) ?_
  refine mjT_go 1 (pc' := if ¬ nI S.im = 0 then 10 else 7) (L' := [some (.ref 0), none]) (st' := []) (w1 := (KM, I, J, GM)) rfl ?_
  have e0 : I 0 1 = nI S.im := hM.im
  by_cases hi : S.im = 1
  · rw [if_pos hi, if_pos hi]
    obtain ⟨v1, v2, v3, v4⟩ := hV.io hi
    obtain ⟨c1, c2⟩ := hM.io hi
    refine mjT_ifT (by rw [hi]; decide) ?_
    refine mjT_go 2 (pc' := 12) (L' := [some (.ref 0), some (.int (nI 0))]) (st' := []) (w1 := (KM, I, J, GM)) rfl ?_
    refine mj_loop (fun k L w => ∃ I', L = [some (.ref 0), some (.int (nI k))] ∧ w = (KM, I', J, GM) ∧ (∀ j, j < k → I' 1 j = I 1 (840 + j)) ∧ (∀ j, 840 ≤ j → I' 1 j = I 1 j) ∧ ∀ h, h ≠ 1 → I' h = I h) 840 (k0 := 0) (Nat.zero_le _) ?_ ?_ ?_
    · exact ⟨_, rfl, rfl, fun _ h => absurd h (by omega), fun _ _ => rfl, fun _ _ => rfl⟩
    · rintro k _ _ hk ⟨I1, rfl, rfl, h1, h2, hf⟩ hc
      refine mjT_go 3 (pc' := if nI 840 ≤ nI k then 41 else 19) (L' := [some (.ref 0), some (.int (nI k))]) (st' := []) (w1 := (KM, I1, J, GM)) rfl ?_
      refine mjT_ifF (nI_ge (by omega) (by omega)) ?_
      refine mjT_go 8 (pc' := 33) (L' := [some (.ref 0), some (.int (nI k))]) (st' := [.int ((nI 840) + (nI k)), .ref 1, .int (nI k), .ref 1]) (w1 := (KM, I1, J, GM)) rfl ?_
      refine mjT_ial (v := I1 1 (840 + k)) (840 + k) 1840 rfl (pc' := 34) rfl rfl (by simp only [nI_add, pk_mul]) (by omega) (by omega) rfl ?_
      obtain ⟨V1, eV1⟩ : ∃ z, z = mj_row I1 1 (va_up (I1 1) k (I1 1 (840 + k))) := ⟨_, rfl⟩
      refine mjT_ias (I' := V1) k 1840 rfl (pc' := 35) rfl rfl rfl (by omega) (by omega) eV1.symm ?_
      refine mjT_go 2 (pc' := 12) (L' := [some (.ref 0), some (.int ((nI k) + (nI 1)))]) (st' := []) (w1 := (KM, V1, J, GM)) rfl ?_
      rw [nI_add]
      refine hc _ _ ⟨_, rfl, rfl, fun j hj => ?_, fun j hj => (st_ne eV1 (by omega)).trans (h2 j hj), fun h hh => (st_h eV1 hh).trans (hf h hh)⟩
      by_cases e : j = k
      · subst e; exact (st_at eV1).trans (h2 _ (by omega))
      · exact (st_ne eV1 (by omega)).trans (h1 j (by omega))
    · rintro _ _ ⟨I1, rfl, rfl, h1, h2, hf⟩
      refine mjT_go 3 (pc' := if nI 840 ≤ nI 840 then 41 else 19) (L' := [some (.ref 0), some (.int (nI 840))]) (st' := []) (w1 := (KM, I1, J, GM)) rfl ?_
      refine mjT_ifT (Int32.le_refl _) ?_
      refine mjT_go 1 (pc' := 42) (L' := [some (.ref 0), some (.int (nI 840))]) (st' := [.int (nI 1)]) (w1 := (KM, I1, J, GM)) rfl ?_
      refine mjT_ret rfl rfl rfl ?_
      refine ⟨rfl, _, _, rfl, mo_move c1 v1.n (fun k hk => by rw [Nat.zero_add]; exact h1 k (by omega)), pm_move c2 v3 v1.n v4 (fun k hk => by rw [Nat.zero_add]; exact h1 k hk), by rw [hf 0 (by omega)]; exact hM.im, fun _ => ⟨mo_cong c1 v1.n (fun k hk _ => h2 k hk), pm_cong c2 v3 v1.n v4 (fun k hk _ => h2 k (by omega))⟩, ?_, ?_, ?_, ?_, hM.it⟩
      · rw [hf _ (by omega)]; exact hM.tl
      · rw [hf _ (by omega)]; exact hM.tp
      · rw [hf _ (by omega)]; exact hM.ln
      · rw [hf _ (by omega)]; exact hM.sz
  · rw [if_neg hi, if_neg hi]
    refine mjT_ifF (fun q => q (by rw [show S.im = 0 by omega]; exact nI_0)) ?_
    refine mjT_go 1 (pc' := 9) (L' := [some (.ref 0), none]) (st' := [.int (-4)]) (w1 := (KM, I, J, GM)) rfl ?_
    refine mjT_ret rfl rfl rfl ?_
    exact ⟨rfl, _, _, rfl, hM⟩
theorem vs_restore (hV : VS S) : VS (sRestore S) := by
  unfold sRestore
  by_cases hi : S.im = 1
  · rw [if_pos hi]; exact vs_res hV hi
  · rw [if_neg hi]; exact hV
theorem sim_image : SimO 100 199 [] := fun S _ _ _ _ hV hC hM => ⟨_, _, vs_img hV, cc_image hV hC, mm_image hV hM⟩
theorem sim_restore : SimO 101 200 [] := fun S _ _ _ _ hV hC hM => ⟨_, _, vs_restore hV, cc_restore hV hC, mm_restore hV hM⟩
end IM
