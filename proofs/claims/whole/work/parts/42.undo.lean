/-! undo -/
def handsO (O H : Off) : Off := mkO O.n H.day O.wet O.dry O.las O.draw O.kind O.str O.chair O.own H.wr H.till
theorem v_hands {O H : Off} (hV : VO O) (hH : VH O.n H) : VO (handsO O H) := ⟨hV.n, by show H.day ≤ 20000; have := hH.day; omega, hV.wet, hV.dry, hV.las, hV.draw, hV.kind, hV.str, hV.chair, hV.inj, hV.own, hH.wr, hH.till⟩
def undoS (S : Sta) : Sta := mkS (handsO S.o (S.pa (S.kn - 1))) (S.kn - 1) S.pa S.im S.io S.ikn S.ipa S.tl S.tp S.sz S.ln S.it
theorem vs_undo {S : Sta} (hV : VS S) (h : S.kn ≠ 0) : VS (undoS S) := by
  have h1 := hV.pa (S.kn - 1) (by omega)
  exact ⟨v_hands hV.o h1, h1.day, by show S.kn - 1 ≤ 8; have := hV.kn; omega, fun j (hj : j < S.kn - 1) => hV.pa j (by omega), hV.im, hV.io, hV.tl, hV.tp, hV.sz, hV.ln⟩
noncomputable def aUndo (S : Sta) : Int32 := if S.kn = 0 then -4 else nI (S.kn - 1)
def sUndo (S : Sta) : Sta := if S.kn = 0 then S else undoS S
theorem vs_sundo {S : Sta} (hV : VS S) : VS (sUndo S) := by
  unfold sUndo
  by_cases h : S.kn = 0
  · rw [if_pos h]; exact hV
  · rw [if_neg h]; exact vs_undo hV h
theorem nI_sub1 (n : Nat) : nI (n + 1) - nI 1 = nI n := nI_pred n
theorem nI_subP {n : Nat} (h : n ≠ 0) : nI n - nI 1 = nI (n - 1) := by
  obtain ⟨k, rfl⟩ : ∃ k, n = k + 1 := ⟨n - 1, by omega⟩
  rw [nI_sub1, Nat.add_sub_cancel]
theorem ro_h2 {I I' : Nat → Nat → Int32} {o : Nat} {O H : Off} {P : Nat → Prop} (hO : RO I o O P) (hf : ∀ k, (k = 0 ∨ (4 ≤ k ∧ k ≤ 7)) → I' (o + k) = I (o + k)) (hn : H.n = O.n) (hh : HO I' (o + 1) H P) : RO I' o (handsO O H) P := by
  have e0 : I' o = I o := hf 0 (by omega)
  refine ⟨?_, ?_, ?_, ?_, ?_, hh.day, ?_, ?_, ?_, ?_, fun p (hp : p < O.n) => hh.wr p (by rw [hn]; exact hp), fun p (hp : p < O.n) => hh.till p (by rw [hn]; exact hp)⟩
  · rw [e0]; exact hO.n
  · rw [e0]; exact hO.dry
  · rw [e0]; exact hO.wet
  · rw [e0]; exact hO.las
  · rw [e0]; exact hO.draw
  · intro p hp; rw [hf 4 (by omega)]; exact hO.kind p hp
  · intro p hp; rw [hf 5 (by omega)]; exact hO.str p hp
  · intro p hp; rw [hf 6 (by omega)]; exact hO.own p hp
  · intro c hc; rw [hf 7 (by omega)]; exact (hO.sit c hc).trans (congrArg sI (sitL_ch (O := O) (O' := handsO O H) rfl c O.n))
section UN
variable {I : Nat → Nat → Int32} {J : Nat → Nat → Int64} {S : Sta} {o q q2 h : Nat} {O : Off} {P : Nat → Prop}
theorem c_takeBack (hG : PaG h) (hGq : HaG q) (hd : q + 2 < h ∨ h + 25 < q) {nx kn : Nat} (hnx : nx < 8) (hkn : kn ≠ 0) (hk8 : kn ≤ 8) (h1 : I h 1 = nI nx) (h2 : I h 2 = nI kn) (hO : HO I (h + 2 + 3 * ((nx + 7) % 8)) O TT) (hn : O.n ≤ 7) : mj_E 39 [.ref h, .ref q] (KC, I, J, GC) (fun w' r => r = none ∧ ∃ I', w' = (KC, I', J, GC) ∧ HO I' q O TT ∧ I' h 1 = nI ((nx + 7) % 8) ∧ I' h 2 = nI (kn - 1) ∧ ∀ a, a ≠ h → (a < q ∨ q + 2 < a) → I' a = I a) := by
  have hm : (nx + 7) % 8 < 8 := Nat.mod_lt _ (by omega)
  obtain ⟨m, hme⟩ : ∃ m, (nx + 7) % 8 = m := ⟨_, rfl⟩
  rw [hme] at hO hm ⊢
  refine mjT_go 2 (pc' := 2) (L' := [some (.ref h), some (.ref q)]) (st' := [.ref h, .ref h]) (w1 := (KC, I, J, GC)) rfl ?_
  refine mjT_gfi (v := nI nx) rfl (Or.inl rfl) (pc' := 5) rfl hG.k0 (show I h 1 = nI nx from h1) ?_
  refine mjT_go 5 (pc' := 12) (L' := [some (.ref h), some (.ref q)]) (st' := [.int (nI 7), .int (((nI nx) + (nI 8)) - (nI 1)), .ref h]) (w1 := (KC, I, J, GC)) rfl ?_
  refine mjT_go 1 (pc' := 13) (L' := [some (.ref h), some (.ref q)]) (st' := [.int ((((nI nx) + (nI 8)) - (nI 1)) &&& (nI 7)), .ref h]) (w1 := (KC, I, J, GC)) rfl ?_
  rw [nI_add, nI_sub1, and7 (by omega), hme]
  obtain ⟨V1, eV1⟩ : ∃ z, z = mj_row I h (va_up (I h) 1 (nI m)) := ⟨_, rfl⟩
  refine mjT_pfi (I' := V1) rfl (pc' := 16) rfl hG.k0 eV1.symm ?_
  refine mjT_go 2 (pc' := 18) (L' := [some (.ref h), some (.ref q)]) (st' := [.ref h, .ref h]) (w1 := (KC, V1, J, GC)) rfl ?_
  refine mjT_gfi (v := nI kn) rfl (Or.inl rfl) (pc' := 21) rfl hG.k0 (show V1 h 2 = nI kn from (by rw [st_ne eV1 (by omega)]; exact h2)) ?_
  refine mjT_go 1 (pc' := 22) (L' := [some (.ref h), some (.ref q)]) (st' := [.int (nI 1), .int (nI kn), .ref h]) (w1 := (KC, V1, J, GC)) rfl ?_
  refine mjT_go 1 (pc' := 23) (L' := [some (.ref h), some (.ref q)]) (st' := [.int ((nI kn) - (nI 1)), .ref h]) (w1 := (KC, V1, J, GC)) rfl ?_
  rw [nI_subP hkn]
  obtain ⟨V2, eV2⟩ : ∃ z, z = mj_row V1 h (va_up (V1 h) 2 (nI (kn - 1))) := ⟨_, rfl⟩
  refine mjT_pfi (I' := V2) rfl (pc' := 26) rfl hG.k0 eV2.symm ?_
  refine mjT_go 2 (pc' := 28) (L' := [some (.ref h), some (.ref q)]) (st' := [.ref h, .ref q]) (w1 := (KC, V2, J, GC)) rfl ?_
  refine mjT_gfr (h' := (h + 1)) rfl (pc' := 31) rfl hG.k0 hG.r ?_
  refine mjT_go 1 (pc' := 32) (L' := [some (.ref h), some (.ref q)]) (st' := [.ref h, .ref (h + 1), .ref q]) (w1 := (KC, V2, J, GC)) rfl ?_
  refine mjT_gfi (v := nI m) rfl (Or.inl rfl) (pc' := 35) rfl hG.k0 (show V2 h 1 = nI m from (by rw [st_ne eV2 (by omega)]; exact st_at eV1)) ?_
  refine mjT_aal (h' := (h + 2 + 3 * m)) m 8 rfl (pc' := 36) rfl (by decide) hG.k1 rfl (by omega) (by omega) (hG.ring _ hm) ?_
  have hH : HO V2 (h + 2 + 3 * m) O TT := ho_cong hO (by rw [st_h eV2 (by omega), st_h eV1 (by omega)]) (by rw [st_h eV2 (by omega), st_h eV1 (by omega)]) (by rw [st_h eV2 (by omega), st_h eV1 (by omega)])
  refine mjT_call (as := [.ref q, .ref (h + 2 + 3 * m)]) (rest := []) rfl rfl rfl (mj_callI rfl rfl hGq.k0) rfl ⟨rfl, rfl⟩ (c_hbecome hn hGq (hG.ha _ hm) (by omega) hH) ?_
  rintro _ _ ⟨rfl, I3, rfl, hH3, hf3⟩
  refine mjT_ret rfl rfl rfl ?_
  refine ⟨rfl, _, rfl, hH3, ?_, ?_, fun a ha haq => by rw [hf3 _ haq, st_h eV2 ha, st_h eV1 ha]⟩
  · rw [hf3 _ (by omega), st_ne eV2 (by omega)]; exact st_at eV1
  · rw [hf3 _ (by omega)]; exact st_at eV2
theorem cc_undo (hV : VS S) (hC : CW I J S) : mj_E 85 [.ref 0] (KC, I, J, GC) (fun w' r => r = some (.int (aUndo S)) ∧ ∃ I' J', w' = (KC, I', J', GC) ∧ CW I' J' (sUndo S)) := by
  have hn := hV.o.n
  have hk8 := hV.kn
  obtain ⟨nx, hnx, h1, h2, h3⟩ := hC.past
  unfold aUndo sUndo
  refine mjT_go 2 (pc' := 4) (L' := [some (.ref 0)]) (st' := [.ref 12]) (w1 := (KC, I, J, GC)) rfl ?_
  refine mjT_gfi (v := nI S.kn) rfl (Or.inl rfl) (pc' := 7) rfl rfl (show I 12 2 = nI S.kn from h2) ?_
  refine mjT_go 1 (pc' := if ¬ nI S.kn = 0 then 13 else 10) (L' := [some (.ref 0)]) (st' := []) (w1 := (KC, I, J, GC)) rfl ?_
  by_cases hk : S.kn = 0
  · rw [if_pos hk, if_pos hk]
    refine mjT_ifF (fun q => q (by rw [hk]; exact nI_0)) ?_
    refine mjT_go 1 (pc' := 12) (L' := [some (.ref 0)]) (st' := [.int (-4)]) (w1 := (KC, I, J, GC)) rfl ?_
    refine mjT_ret rfl rfl rfl ?_
    exact ⟨rfl, _, _, rfl, hC⟩
  · rw [if_neg hk, if_neg hk]
    refine mjT_ifT (nI_ne0 (by omega) (by omega)) ?_
    refine mjT_go 5 (pc' := 24) (L' := [some (.ref 0)]) (st' := [.ref 2, .ref 12]) (w1 := (KC, I, J, GC)) rfl ?_
    have hH := h3 (S.kn - 1) (by omega)
    rw [show (nx + 8 - S.kn + (S.kn - 1)) % 8 = (nx + 7) % 8 by omega] at hH
    have hvh := hV.pa (S.kn - 1) (by omega)
    refine mjT_call (as := [.ref 12, .ref 2]) (rest := []) rfl rfl rfl rfl rfl ⟨rfl, rfl⟩ (c_takeBack pg_12 (ha_of og_1) (by omega) hnx hk hk8 h1 h2 hH (by rw [hvh.n]; exact hn)) ?_
    rintro _ _ ⟨rfl, I2, rfl, hO2, hn2, hk2, hf2⟩
    refine mjT_go 2 (pc' := 31) (L' := [some (.ref 0)]) (st' := [.ref 12]) (w1 := (KC, I2, J, GC)) rfl ?_
    refine mjT_gfi (v := nI (S.kn - 1)) rfl (Or.inl rfl) (pc' := 34) rfl rfl (show I2 12 2 = nI (S.kn - 1) from hk2) ?_
    refine mjT_ret rfl rfl rfl ?_
    have hx : ∀ a, 50 ≤ a → I2 a = I a := fun a ha => hf2 a (by omega) (by omega)
    refine ⟨rfl, _, _, rfl, ro_h2 hC.o (fun k hk => hf2 _ (by omega) (by omega)) hvh.n hO2, ⟨(nx + 7) % 8, Nat.mod_lt _ (by omega), hn2, hk2, fun j (hj : j < S.kn - 1) => ?_⟩, ?_, fun hi => ⟨ro_cong (hC.io hi).1 (fun k hk => hf2 _ (by omega) (by omega)), pc_cong (hC.io hi).2 (hf2 _ (by omega) (by omega)) (fun k hk => hf2 _ (by omega) (by omega))⟩, ?_, ?_, ?_, ?_, hC.it⟩
    · have := h3 j (by omega)
      show HO I2 (14 + 3 * (((nx + 7) % 8 + 8 - (S.kn - 1) + j) % 8)) (S.pa j) TT
      rw [show ((nx + 7) % 8 + 8 - (S.kn - 1) + j) % 8 = (nx + 8 - S.kn + j) % 8 by omega]
      exact ho_cong this (hf2 _ (by omega) (by omega)) (hf2 _ (by omega) (by omega)) (hf2 _ (by omega) (by omega))
    · rw [hf2 0 (by omega) (by omega)]; exact hC.im
    · rw [hx _ (by omega)]; exact hC.tl
    · rw [hx _ (by omega)]; exact hC.tp
    · rw [hx _ (by omega)]; exact hC.sz
    · rw [hx _ (by omega)]; exact hC.ln
end UN
