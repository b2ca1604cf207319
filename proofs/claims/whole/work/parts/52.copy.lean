/-! sheets laid, dropped, copied -/
section CP
variable {y pc pc' h n i : Nat} {L : mjL} {st : List Value} {K : List (Nat × Nat)} {I I' : Nat → Nat → Int32} {J J' : Nat → Nat → Int64} {G : Nat → Nat → Option Nat} {ix b d : Nat} {w' : mjW} {r : Option Value}
theorem mj_cpl {h2 n2 sp dp m : Nat} {xs xd xn : Int32} (hc : mj_code y pc = some (.invokestatic ix, 3, 6, b, d, 0)) (hp : pc + 3 = pc') (hk : mj_kd (K, I, J, G) h = (2, n)) (hk2 : mj_kd (K, I, J, G) h2 = (2, n2)) (hs : xs = nI sp) (hd : xd = nI dp) (hn : xn = nI m) (h1 : sp + m ≤ n) (h2' : dp + m ≤ n2) (hb : n < 2 ^ 31 ∧ n2 < 2 ^ 31) (hr8 : (st.map Value.category).sum ≤ 8)
    (hJ : mj_row J h2 (va_cpy (J h) (J h2) sp dp m) = J') (g : mj_Go y pc' L st (K, I, J', G) w' r) : mj_Go y pc L (.int xn :: .int xd :: .ref h2 :: .int xs :: .ref h :: st) (K, I, J, G) w' r := by
  subst hp
  subst hJ
  subst hs
  subst hd
  subst hn
  have c1 : (nI sp).toNatClampNeg = sp := nI_clamp (by omega)
  have c2 : (nI dp).toNatClampNeg = dp := nI_clamp (by omega)
  have c3 : (nI m).toNatClampNeg = m := nI_clamp (by omega)
  refine mj_step1 (C := (pc + 3, L, st, (K, I, mj_row J h2 (va_cpy (J h) (J h2) sp dp m), G), 0, 0)) hc rfl ?_ rfl g
  simp only [mj_sim, mj_pcp, mj_r8]
  rw [if_pos hr8, hk, hk2, c1, c2, c3, if_neg, if_neg (fun q => absurd (show (2 : Nat) = 1 from q.1) (by decide)), if_pos ⟨rfl, rfl⟩]
  rintro (z | z | z | z | z)
  · exact nI_pos (by omega) z
  · exact nI_pos (by omega) z
  · exact nI_pos (by omega) z
  · exact absurd z (Nat.not_lt.mpr h1)
  · exact absurd z (Nat.not_lt.mpr h2')
theorem mjT_cpl {Q : mjW → Option Value → Prop} {h2 n2 sp dp m : Nat} {xs xd xn : Int32} (hc : mj_code y pc = some (.invokestatic ix, 3, 6, b, d, 0)) (hp : pc + 3 = pc') (hk : mj_kd (K, I, J, G) h = (2, n)) (hk2 : mj_kd (K, I, J, G) h2 = (2, n2)) (hs : xs = nI sp) (hd : xd = nI dp) (hn : xn = nI m) (h1 : sp + m ≤ n) (h2' : dp + m ≤ n2) (hb : n < 2 ^ 31 ∧ n2 < 2 ^ 31) (hr8 : (st.map Value.category).sum ≤ 8) (hJ : mj_row J h2 (va_cpy (J h) (J h2) sp dp m) = J') (g : mj_To y pc' L st (K, I, J', G) Q) : mj_To y pc L (.int xn :: .int xd :: .ref h2 :: .int xs :: .ref h :: st) (K, I, J, G) Q := mj_lift (fun _ _ g => mj_cpl hc hp hk hk2 hs hd hn h1 h2' hb hr8 hJ g) g
end CP
section SD
variable {I I' : Nat → Nat → Int32} {J J' : Nat → Nat → Int64} {S : Sta} {o q : Nat} {O : Off} {P : Nat → Prop}
theorem jt_at {J J' : Nat → Nat → Int64} {h i : Nat} {v : Int64} (e : J' = mj_row J h (va_up (J h) i v)) : J' h i = v := by subst e; simp [mj_row, va_up]
theorem jt_ne {J J' : Nat → Nat → Int64} {h i : Nat} {v : Int64} (e : J' = mj_row J h (va_up (J h) i v)) {j : Nat} (hj : j ≠ i) : J' h j = J h j := by subst e; simp [mj_row, va_up, hj]
theorem jt_h {J J' : Nat → Nat → Int64} {h i : Nat} {v : Int64} (e : J' = mj_row J h (va_up (J h) i v)) {h' : Nat} (hj : h' ≠ h) : J' h' = J h' := by subst e; simp [mj_row, hj]
def layS (S : Sta) (s l n : Nat) : Sta := mkS S.o S.kn S.pa S.im S.io S.ikn S.ipa S.tl S.tp (upd1 S.sz s (n + 1)) (upd1 S.ln s l) (fun a j => if a = s then 0 else S.it a j)
theorem vs_lay (hV : VS S) {s l n : Nat} (hl : l < 4) (hn : n ≤ 24) : VS (layS S s l n) := by
  refine ⟨hV.o, hV.day, hV.kn, hV.pa, hV.im, hV.io, hV.tl, hV.tp, fun a ha => ?_, fun a ha => ?_⟩
  · show upd1 S.sz s (n + 1) a ≤ 25
    unfold upd1
    by_cases e : a = s
    · rw [if_pos e]; omega
    · rw [if_neg e]; exact hV.sz a ha
  · show upd1 S.ln s l a < 4
    unfold upd1
    by_cases e : a = s
    · rw [if_pos e]; exact hl
    · rw [if_neg e]; exact hV.ln a ha
/-- only the sheets changed -/
theorem cw_sh (hC : CW I J S) {sz ln : Nat → Nat} {it : Nat → Nat → Int64} (hf : ∀ h, h ≠ 89 → h ≠ 90 → I' h = I h) (h1 : ∀ s, s < 4 → I' 90 s = sI (sz s)) (h2 : ∀ s, s < 4 → sz s ≠ 0 → I' 89 s = nI (ln s)) (h3 : ∀ s, s < 4 → ∀ i, i < 24 → J' (92 + s) i = it s i) : CW I' J' (mkS S.o S.kn S.pa S.im S.io S.ikn S.ipa S.tl S.tp sz ln it) := by
  refine ⟨ro_cong hC.o (fun k hk => hf _ (by omega) (by omega)), pc_cong hC.past (hf _ (by omega) (by omega)) (fun k hk => hf _ (by omega) (by omega)), by rw [hf 0 (by omega) (by omega)]; exact hC.im, fun hi => ⟨ro_cong (hC.io hi).1 (fun k hk => hf _ (by omega) (by omega)), pc_cong (hC.io hi).2 (hf _ (by omega) (by omega)) (fun k hk => hf _ (by omega) (by omega))⟩, ?_, ?_, h1, h2, h3⟩
  · rw [hf _ (by omega) (by omega)]; exact hC.tl
  · rw [hf _ (by omega) (by omega)]; exact hC.tp
theorem mw_sh (hV : VS S) (hM : MW I J S) {sz ln : Nat → Nat} {it : Nat → Nat → Int64} (hf : ∀ h, h ≠ 6 → h ≠ 7 → I' h = I h) (h1 : ∀ s, s < 4 → I' 6 s = tI (if sz s = 0 then 0 else ln s + 1)) (h2 : ∀ s, s < 4 → sz s ≠ 0 → I' 7 s = nI (sz s - 1)) (h3 : ∀ s, s < 4 → ∀ i, i < 24 → J' 5 (24 * s + i) = it s i) : MW I' J' (mkS S.o S.kn S.pa S.im S.io S.ikn S.ipa S.tl S.tp sz ln it) := by
  have f1 : I' 1 = I 1 := hf 1 (by omega) (by omega)
  refine ⟨mo_cong hM.o hV.o.n (fun k _ _ => by rw [f1]), pm_cong hM.past hV.kn hV.o.n hV.pa (fun k _ _ => by rw [f1]), by rw [hf 0 (by omega) (by omega)]; exact hM.im, fun hi => ?_, ?_, ?_, h1, h2, h3⟩
  · obtain ⟨v1, v2, v3, v4⟩ := hV.io hi
    exact ⟨mo_cong (hM.io hi).1 v1.n (fun k _ _ => by rw [f1]), pm_cong (hM.io hi).2 v3 v1.n v4 (fun k _ _ => by rw [f1])⟩
  · rw [hf _ (by omega) (by omega)]; exact hM.tl
  · rw [hf _ (by omega) (by omega)]; exact hM.tp
theorem c_lay (hV : VS S) (hC : CW I J S) {s l n : Nat} (hs : s < 4) : mj_E 62 [.ref 88, .int (nI s), .int (nI l), .int (nI n)] (KC, I, J, GC) (fun w' r => r = none ∧ ∃ I' J', w' = (KC, I', J', GC) ∧ CW I' J' (layS S s l n)) := by
  refine mjT_go 4 (pc' := 6) (L' := [some (.ref 88), some (.int (nI s)), some (.int (nI l)), some (.int (nI n)), none]) (st' := [.int (nI l), .int (nI s), .ref 89]) (w1 := (KC, I, J, GC)) rfl ?_
  obtain ⟨V1, eV1⟩ : ∃ z, z = mj_row I 89 (va_up (I 89) s (nI l)) := ⟨_, rfl⟩
  refine mjT_ias (I' := V1) s 4 rfl (pc' := 7) rfl rfl rfl (by omega) (by omega) eV1.symm ?_
  refine mjT_go 4 (pc' := 13) (L' := [some (.ref 88), some (.int (nI s)), some (.int (nI l)), some (.int (nI n)), none]) (st' := [.int (nI n), .int (nI s), .ref 90]) (w1 := (KC, V1, J, GC)) rfl ?_
  obtain ⟨V2, eV2⟩ : ∃ z, z = mj_row V1 90 (va_up (V1 90) s (nI n)) := ⟨_, rfl⟩
  refine mjT_ias (I' := V2) s 4 rfl (pc' := 14) rfl rfl rfl (by omega) (by omega) eV2.symm ?_
  refine mjT_go 2 (pc' := 17) (L' := [some (.ref 88), some (.int (nI s)), some (.int (nI l)), some (.int (nI n)), some (.int (nI 0))]) (st' := []) (w1 := (KC, V2, J, GC)) rfl ?_
  refine mj_loop (fun k L w => ∃ J', L = [some (.ref 88), some (.int (nI s)), some (.int (nI l)), some (.int (nI n)), some (.int (nI k))] ∧ w = (KC, V2, J', GC) ∧ (∀ j, j < k → J' (92 + s) j = 0) ∧ ∀ h, h ≠ 92 + s → J' h = J h) 24 (k0 := 0) (Nat.zero_le _) ?_ ?_ ?_
  · exact ⟨_, rfl, rfl, fun _ h => absurd h (by omega), fun _ _ => rfl⟩
  · rintro k _ _ hk ⟨J2, rfl, rfl, g1, g2⟩ hc
    refine mjT_go 3 (pc' := if nI 24 ≤ nI k then 40 else 24) (L' := [some (.ref 88), some (.int (nI s)), some (.int (nI l)), some (.int (nI n)), some (.int (nI k))]) (st' := []) (w1 := (KC, V2, J2, GC)) rfl ?_
    refine mjT_ifF (nI_ge (by omega) (by omega)) ?_
    refine mjT_go 3 (pc' := 29) (L' := [some (.ref 88), some (.int (nI s)), some (.int (nI l)), some (.int (nI n)), some (.int (nI k))]) (st' := [.int (nI s), .ref 91]) (w1 := (KC, V2, J2, GC)) rfl ?_
    refine mjT_aal (h' := (92 + s)) s 4 rfl (pc' := 30) rfl (by decide) rfl rfl (by omega) (by omega) (sh_ref s hs) ?_
    refine mjT_go 2 (pc' := 33) (L' := [some (.ref 88), some (.int (nI s)), some (.int (nI l)), some (.int (nI n)), some (.int (nI k))]) (st' := [.long (lN 0), .int (nI k), .ref (92 + s)]) (w1 := (KC, V2, J2, GC)) rfl ?_
    obtain ⟨V3, eV3⟩ : ∃ z, z = mj_row J2 (92 + s) (va_up (J2 (92 + s)) k (lN 0)) := ⟨_, rfl⟩
    refine mjT_las (J' := V3) k 24 rfl (pc' := 34) rfl (sh_kind s hs) rfl (by omega) (by omega) eV3.symm ?_
    refine mjT_go 2 (pc' := 17) (L' := [some (.ref 88), some (.int (nI s)), some (.int (nI l)), some (.int (nI n)), some (.int ((nI k) + (nI 1)))]) (st' := []) (w1 := (KC, V2, V3, GC)) rfl ?_
    rw [nI_add]
    refine hc _ _ ⟨_, rfl, rfl, fun j hj => ?_, fun h hh => (jt_h eV3 hh).trans (g2 h hh)⟩
    by_cases e : j = k
    · subst e; exact jt_at eV3
    · exact (jt_ne eV3 e).trans (g1 j (by omega))
  · rintro _ _ ⟨J2, rfl, rfl, g1, g2⟩
    refine mjT_go 3 (pc' := if nI 24 ≤ nI 24 then 40 else 24) (L' := [some (.ref 88), some (.int (nI s)), some (.int (nI l)), some (.int (nI n)), some (.int (nI 24))]) (st' := []) (w1 := (KC, V2, J2, GC)) rfl ?_
    refine mjT_ifT (Int32.le_refl _) ?_
    refine mjT_ret rfl rfl rfl ?_
    refine ⟨rfl, _, _, rfl, cw_sh hC (fun h a b => by rw [st_h eV2 b, st_h eV1 a]) (fun a ha => ?_) (fun a ha hz => ?_) (fun a ha j hj => ?_)⟩
    · unfold upd1
      by_cases e : a = s
      · subst e; rw [if_pos rfl, sI_s]; exact st_at eV2
      · rw [if_neg e, st_ne eV2 e, st_h eV1 (by omega)]; exact hC.sz a ha
    · rw [st_h eV2 (by omega)]
      unfold upd1 at hz ⊢
      by_cases e : a = s
      · subst e; rw [if_pos rfl]; exact st_at eV1
      · rw [if_neg e] at hz ⊢
        rw [st_ne eV1 e]; exact hC.ln a ha hz
    · by_cases e : a = s
      · subst e; rw [if_pos rfl]; exact g1 j hj
      · rw [if_neg e, g2 _ (by omega)]; exact hC.it a ha j hj
abbrev okS (x y z : Int32) : Prop := iR x 0 3 = 1 ∧ iR y 0 3 = 1 ∧ z ≤ nI 24
noncomputable def aSheet (x y z : Int32) : Int32 := if iR x 0 3 = 1 ∧ iR y 0 3 = 1 ∧ z ≤ nI 24 then (if z < 0 then -14 else z) else -1
noncomputable def sSheet (S : Sta) (x y z : Int32) : Sta := if iR x 0 3 = 1 ∧ iR y 0 3 = 1 ∧ z ≤ nI 24 then (if z < 0 then S else layS S (nn x) (nn y) (nn z)) else S
theorem vs_sheet (hV : VS S) {x y z : Int32} : VS (sSheet S x y z) := by
  unfold sSheet
  by_cases h : iR x 0 3 = 1 ∧ iR y 0 3 = 1 ∧ z ≤ nI 24
  · rw [if_pos h]
    by_cases h2 : z < 0
    · rw [if_pos h2]; exact hV
    · rw [if_neg h2]
      obtain ⟨n, hn, rfl⟩ := nI_of h2
      obtain ⟨l, _, hl, rfl⟩ := iR_1 h.2.1 (by omega) (by omega)
      rw [nn_N hn, nn_N (n := l) (by omega)]
      exact vs_lay hV (by omega) ((nI_leI hn (by omega)).mp h.2.2)
  · rw [if_neg h]; exact hV
theorem cc_sheet (hV : VS S) (hC : CW I J S) {x y z : Int32} : mj_E 104 [.ref 0, .int x, .int y, .int z] (KC, I, J, GC) (fun w' r => r = some (.int (aSheet x y z)) ∧ ∃ I' J', w' = (KC, I', J', GC) ∧ CW I' J' (sSheet S x y z)) := by
  have hr1 := ir01 x 0 3
  have hr2 := ir01 y 0 3
  unfold aSheet sSheet
  refine mjT_go 1 (pc' := 1) (L' := [some (.ref 0), some (.int x), some (.int y), some (.int z)]) (st' := [.int x]) (w1 := (KC, I, J, GC)) rfl ?_
  refine mjT_callE (as := [.int x]) (rest := []) (r1 := some (.int (nI (iR x 0 3)))) rfl rfl rfl rfl rfl ⟨rfl, rfl⟩ c_isSheet ?_
  refine mjT_go 1 (pc' := if nI (iR x 0 3) = 0 then 20 else 7) (L' := [some (.ref 0), some (.int x), some (.int y), some (.int z)]) (st' := []) (w1 := (KC, I, J, GC)) rfl ?_
  refine mjT_if_eq (u := iR x 0 3) (v := 0) rfl nI_0.symm (by omega) (by omega) (fun h1 => ?_) (fun h1 => ?_)
  · rw [if_neg (by omega), if_neg (by omega)]
    refine mjT_go 1 (pc' := 21) (L' := [some (.ref 0), some (.int x), some (.int y), some (.int z)]) (st' := [.int (-1)]) (w1 := (KC, I, J, GC)) rfl ?_
    refine mjT_ret rfl rfl rfl ?_
    exact ⟨rfl, _, _, rfl, hC⟩
  refine mjT_go 1 (pc' := 8) (L' := [some (.ref 0), some (.int x), some (.int y), some (.int z)]) (st' := [.int y]) (w1 := (KC, I, J, GC)) rfl ?_
  refine mjT_callE (as := [.int y]) (rest := []) (r1 := some (.int (nI (iR y 0 3)))) rfl rfl rfl rfl rfl ⟨rfl, rfl⟩ c_isLane ?_
  refine mjT_go 1 (pc' := if nI (iR y 0 3) = 0 then 20 else 14) (L' := [some (.ref 0), some (.int x), some (.int y), some (.int z)]) (st' := []) (w1 := (KC, I, J, GC)) rfl ?_
  refine mjT_if_eq (u := iR y 0 3) (v := 0) rfl nI_0.symm (by omega) (by omega) (fun h2 => ?_) (fun h2 => ?_)
  · rw [if_neg (by omega), if_neg (by omega)]
    refine mjT_go 1 (pc' := 21) (L' := [some (.ref 0), some (.int x), some (.int y), some (.int z)]) (st' := [.int (-1)]) (w1 := (KC, I, J, GC)) rfl ?_
    refine mjT_ret rfl rfl rfl ?_
    exact ⟨rfl, _, _, rfl, hC⟩
  refine mjT_go 3 (pc' := if z ≤ nI 24 then 22 else 20) (L' := [some (.ref 0), some (.int x), some (.int y), some (.int z)]) (st' := []) (w1 := (KC, I, J, GC)) rfl ?_
  refine mjT_if (fun h3 => ?_) (fun h3 => ?_)
  rotate_left
  · rw [if_neg (fun q => h3 q.2.2), if_neg (fun q => h3 q.2.2)]
    refine mjT_go 1 (pc' := 21) (L' := [some (.ref 0), some (.int x), some (.int y), some (.int z)]) (st' := [.int (-1)]) (w1 := (KC, I, J, GC)) rfl ?_
    refine mjT_ret rfl rfl rfl ?_
    exact ⟨rfl, _, _, rfl, hC⟩
  have hok : iR x 0 3 = 1 ∧ iR y 0 3 = 1 ∧ z ≤ nI 24 := ⟨by omega, by omega, h3⟩
  rw [if_pos hok, if_pos hok]
  refine mjT_go 2 (pc' := if 0 ≤ z then 29 else 26) (L' := [some (.ref 0), some (.int x), some (.int y), some (.int z)]) (st' := []) (w1 := (KC, I, J, GC)) rfl ?_
  refine mjT_if (fun h4 => ?_) (fun h4 => ?_)
  rotate_left
  · rw [i32_nle] at h4
    rw [if_pos h4, if_pos h4]
    refine mjT_go 1 (pc' := 28) (L' := [some (.ref 0), some (.int x), some (.int y), some (.int z)]) (st' := [.int (-14)]) (w1 := (KC, I, J, GC)) rfl ?_
    refine mjT_ret rfl rfl rfl ?_
    exact ⟨rfl, _, _, rfl, hC⟩
  have h5 : ¬ z < 0 := i32_nlt.mpr h4
  rw [if_neg h5, if_neg h5]
  obtain ⟨s, _, hs, rfl⟩ := iR_1 (x := x) (a := 0) (b := 3) (by omega) (by omega) (by omega)
  obtain ⟨l, _, hl, rfl⟩ := iR_1 (x := y) (a := 0) (b := 3) (by omega) (by omega) (by omega)
  obtain ⟨n, hn, rfl⟩ := nI_of h5
  rw [nn_N (by omega), nn_N (by omega), nn_N hn]
  refine mjT_go 5 (pc' := 36) (L' := [some (.ref 0), some (.int (nI s)), some (.int (nI l)), some (.int (nI n))]) (st' := [.int (nI n), .int (nI l), .int (nI s), .ref 88]) (w1 := (KC, I, J, GC)) rfl ?_
  refine mjT_call (as := [.ref 88, .int (nI s), .int (nI l), .int (nI n)]) (rest := []) rfl rfl rfl rfl rfl ⟨rfl, rfl⟩ (c_lay hV hC (by omega)) ?_
  rintro _ _ ⟨rfl, I2, J2, rfl, hC2⟩
  refine mjT_go 1 (pc' := 40) (L' := [some (.ref 0), some (.int (nI s)), some (.int (nI l)), some (.int (nI n))]) (st' := [.int (nI n)]) (w1 := (KC, I2, J2, GC)) rfl ?_
  refine mjT_ret rfl rfl rfl ?_
  exact ⟨rfl, _, _, rfl, hC2⟩
theorem mm_sheet (hV : VS S) (hM : MW I J S) {x y z : Int32} : mj_E 209 [.ref 0, .int x, .int y, .int z] (KM, I, J, GM) (fun w' r => r = some (.int (aSheet x y z)) ∧ ∃ I' J', w' = (KM, I', J', GM) ∧ MW I' J' (sSheet S x y z)) := by
  have hr1 := ir01 x 0 3
  have hr2 := ir01 y 0 3
  unfold aSheet sSheet
  refine mjT_go 1 (pc' := 1) (L' := [some (.ref 0), some (.int x), some (.int y), some (.int z), none]) (st' := [.int x]) (w1 := (KM, I, J, GM)) rfl ?_
  refine mjT_callE (as := [.int x]) (rest := []) (r1 := some (.int (nI (iR x 0 3)))) rfl rfl rfl rfl rfl ⟨rfl, rfl⟩ m_isSheet ?_
  refine mjT_go 1 (pc' := if nI (iR x 0 3) = 0 then 25 else 7) (L' := [some (.ref 0), some (.int x), some (.int y), some (.int z), none]) (st' := []) (w1 := (KM, I, J, GM)) rfl ?_
  refine mjT_if_eq (u := iR x 0 3) (v := 0) rfl nI_0.symm (by omega) (by omega) (fun h1 => ?_) (fun h1 => ?_)
  · rw [if_neg (by omega), if_neg (by omega)]
    refine mjT_go 1 (pc' := 26) (L' := [some (.ref 0), some (.int x), some (.int y), some (.int z), none]) (st' := [.int (-1)]) (w1 := (KM, I, J, GM)) rfl ?_
    refine mjT_ret rfl rfl rfl ?_
    exact ⟨rfl, _, _, rfl, hM⟩
  refine mjT_go 4 (pc' := 13) (L' := [some (.ref 0), some (.int x), some (.int y), some (.int z), none]) (st' := [.long (lN 3), .long (lN 0), .long y.toInt64]) (w1 := (KM, I, J, GM)) rfl ?_
  refine mjT_callE (as := [.long y.toInt64, .long (lN 0), .long (lN 3)]) (rest := []) (r1 := some (.int (nI (iR y 0 3)))) rfl rfl rfl rfl rfl ⟨rfl, rfl⟩ (m_inR (by decide) (by decide)) ?_
  refine mjT_go 1 (pc' := if nI (iR y 0 3) = 0 then 25 else 19) (L' := [some (.ref 0), some (.int x), some (.int y), some (.int z), none]) (st' := []) (w1 := (KM, I, J, GM)) rfl ?_
  refine mjT_if_eq (u := iR y 0 3) (v := 0) rfl nI_0.symm (by omega) (by omega) (fun h2 => ?_) (fun h2 => ?_)
  · rw [if_neg (by omega), if_neg (by omega)]
    refine mjT_go 1 (pc' := 26) (L' := [some (.ref 0), some (.int x), some (.int y), some (.int z), none]) (st' := [.int (-1)]) (w1 := (KM, I, J, GM)) rfl ?_
    refine mjT_ret rfl rfl rfl ?_
    exact ⟨rfl, _, _, rfl, hM⟩
  refine mjT_go 3 (pc' := if z ≤ nI 24 then 27 else 25) (L' := [some (.ref 0), some (.int x), some (.int y), some (.int z), none]) (st' := []) (w1 := (KM, I, J, GM)) rfl ?_
  refine mjT_if (fun h3 => ?_) (fun h3 => ?_)
  rotate_left
  · rw [if_neg (fun q => h3 q.2.2), if_neg (fun q => h3 q.2.2)]
    refine mjT_go 1 (pc' := 26) (L' := [some (.ref 0), some (.int x), some (.int y), some (.int z), none]) (st' := [.int (-1)]) (w1 := (KM, I, J, GM)) rfl ?_
    refine mjT_ret rfl rfl rfl ?_
    exact ⟨rfl, _, _, rfl, hM⟩
  have hok : iR x 0 3 = 1 ∧ iR y 0 3 = 1 ∧ z ≤ nI 24 := ⟨by omega, by omega, h3⟩
  rw [if_pos hok, if_pos hok]
  refine mjT_go 2 (pc' := if 0 ≤ z then 34 else 31) (L' := [some (.ref 0), some (.int x), some (.int y), some (.int z), none]) (st' := []) (w1 := (KM, I, J, GM)) rfl ?_
  refine mjT_if (fun h4 => ?_) (fun h4 => ?_)
  rotate_left
  · rw [i32_nle] at h4
    rw [if_pos h4, if_pos h4]
    refine mjT_go 1 (pc' := 33) (L' := [some (.ref 0), some (.int x), some (.int y), some (.int z), none]) (st' := [.int (-14)]) (w1 := (KM, I, J, GM)) rfl ?_
    refine mjT_ret rfl rfl rfl ?_
    exact ⟨rfl, _, _, rfl, hM⟩
  have h5 : ¬ z < 0 := i32_nlt.mpr h4
  rw [if_neg h5, if_neg h5]
  obtain ⟨s, _, hs, rfl⟩ := iR_1 (x := x) (a := 0) (b := 3) (by omega) (by omega) (by omega)
  obtain ⟨l, _, hl, rfl⟩ := iR_1 (x := y) (a := 0) (b := 3) (by omega) (by omega) (by omega)
  obtain ⟨n, hn, rfl⟩ := nI_of h5
  rw [nn_N (by omega), nn_N (by omega), nn_N hn]
  refine mjT_go 4 (pc' := 40) (L' := [some (.ref 0), some (.int (nI s)), some (.int (nI l)), some (.int (nI n)), none]) (st' := [.int (nI l), .int (nI s), .ref 6]) (w1 := (KM, I, J, GM)) rfl ?_
  obtain ⟨V1, eV1⟩ : ∃ z, z = mj_row I 6 (va_up (I 6) s (nI l)) := ⟨_, rfl⟩
  refine mjT_ias (I' := V1) s 4 rfl (pc' := 41) rfl rfl rfl (by omega) (by omega) eV1.symm ?_
  refine mjT_go 4 (pc' := 47) (L' := [some (.ref 0), some (.int (nI s)), some (.int (nI l)), some (.int (nI n)), none]) (st' := [.int (nI n), .int (nI s), .ref 7]) (w1 := (KM, V1, J, GM)) rfl ?_
  obtain ⟨V2, eV2⟩ : ∃ z, z = mj_row V1 7 (va_up (V1 7) s (nI n)) := ⟨_, rfl⟩
  refine mjT_ias (I' := V2) s 4 rfl (pc' := 48) rfl rfl rfl (by omega) (by omega) eV2.symm ?_
  refine mjT_go 2 (pc' := 51) (L' := [some (.ref 0), some (.int (nI s)), some (.int (nI l)), some (.int (nI n)), some (.int (nI 0))]) (st' := []) (w1 := (KM, V2, J, GM)) rfl ?_
  refine mj_loop (fun k L w => ∃ J', L = [some (.ref 0), some (.int (nI s)), some (.int (nI l)), some (.int (nI n)), some (.int (nI k))] ∧ w = (KM, V2, J', GM) ∧ (∀ j, j < k → J' 5 (24 * s + j) = 0) ∧ ∀ a, (a < 24 * s ∨ 24 * s + 24 ≤ a) → J' 5 a = J 5 a) 24 (k0 := 0) (Nat.zero_le _) ?_ ?_ ?_
  · exact ⟨_, rfl, rfl, fun _ h => absurd h (by omega), fun _ _ => rfl⟩
  · rintro k _ _ hk ⟨J2, rfl, rfl, g1, g2⟩ hc
    refine mjT_go 3 (pc' := if nI 24 ≤ nI k then 77 else 58) (L' := [some (.ref 0), some (.int (nI s)), some (.int (nI l)), some (.int (nI n)), some (.int (nI k))]) (st' := []) (w1 := (KM, V2, J2, GM)) rfl ?_
    refine mjT_ifF (nI_ge (by omega) (by omega)) ?_
    refine mjT_go 8 (pc' := 70) (L' := [some (.ref 0), some (.int (nI s)), some (.int (nI l)), some (.int (nI n)), some (.int (nI k))]) (st' := [.long (lN 0), .int (((nI 24) * (nI s)) + (nI k)), .ref 5]) (w1 := (KM, V2, J2, GM)) rfl ?_
    obtain ⟨V3, eV3⟩ : ∃ z, z = mj_row J2 5 (va_up (J2 5) ((24 * s) + k) (lN 0)) := ⟨_, rfl⟩
    refine mjT_las (J' := V3) ((24 * s) + k) 96 rfl (pc' := 71) rfl rfl (by simp only [nI_add, pk_mul]) (by omega) (by omega) eV3.symm ?_
    refine mjT_go 2 (pc' := 51) (L' := [some (.ref 0), some (.int (nI s)), some (.int (nI l)), some (.int (nI n)), some (.int ((nI k) + (nI 1)))]) (st' := []) (w1 := (KM, V2, V3, GM)) rfl ?_
    rw [nI_add]
    refine hc _ _ ⟨_, rfl, rfl, fun j hj => ?_, fun a ha => (jt_ne eV3 (by omega)).trans (g2 a ha)⟩
    by_cases e : j = k
    · subst e; exact jt_at eV3
    · exact (jt_ne eV3 (by omega)).trans (g1 j (by omega))
  · rintro _ _ ⟨J2, rfl, rfl, g1, g2⟩
    refine mjT_go 3 (pc' := if nI 24 ≤ nI 24 then 77 else 58) (L' := [some (.ref 0), some (.int (nI s)), some (.int (nI l)), some (.int (nI n)), some (.int (nI 24))]) (st' := []) (w1 := (KM, V2, J2, GM)) rfl ?_
    refine mjT_ifT (Int32.le_refl _) ?_
    refine mjT_go 1 (pc' := 78) (L' := [some (.ref 0), some (.int (nI s)), some (.int (nI l)), some (.int (nI n)), some (.int (nI 24))]) (st' := [.int (nI n)]) (w1 := (KM, V2, J2, GM)) rfl ?_
    refine mjT_ret rfl rfl rfl ?_
    refine ⟨rfl, _, _, rfl, mw_sh hV hM (fun h a b => by rw [st_h eV2 b, st_h eV1 a]) (fun a ha => ?_) (fun a ha hz => ?_) (fun a ha j hj => ?_)⟩
    · rw [st_h eV2 (by omega)]
      unfold upd1
      by_cases e : a = s
      · subst e; rw [if_pos rfl, if_pos rfl, if_neg (by omega), tI_s]; exact st_at eV1
      · rw [if_neg e, if_neg e, st_ne eV1 e]; exact hM.ln a ha
    · unfold upd1 at hz ⊢
      by_cases e : a = s
      · subst e; rw [if_pos rfl]; exact st_at eV2
      · rw [if_neg e] at hz ⊢
        rw [st_ne eV2 e, st_h eV1 (by omega)]; exact hM.sz a ha hz
    · by_cases e : a = s
      · subst e; rw [if_pos rfl]; exact g1 j hj
      · rw [if_neg e, g2 _ (by omega)]; exact hM.it a ha j hj
theorem sim_sheet {x y z : Int32} : SimO 104 209 [.int x, .int y, .int z] := fun S _ _ _ _ hV hC hM => ⟨_, _, vs_sheet hV, cc_sheet hV hC, mm_sheet hV hM⟩
/-! drop -/
def drpS (S : Sta) (s : Nat) : Sta := mkS S.o S.kn S.pa S.im S.io S.ikn S.ipa S.tl S.tp (upd1 S.sz s 0) S.ln S.it
theorem drp_none {s : Nat} (h : S.sz s = 0) : drpS S s = S := by
  have : upd1 S.sz s 0 = S.sz := funext fun a => by
    unfold upd1
    by_cases e : a = s
    · rw [if_pos e, e, h]
    · rw [if_neg e]
  unfold drpS
  rw [this]; rfl
noncomputable def aDrop (S : Sta) (x : Int32) : Int32 := if iR x 0 3 = 1 then (if S.sz (nn x) = 0 then -11 else nI (S.sz (nn x) - 1)) else -1
def sDrop (S : Sta) (x : Int32) : Sta := if iR x 0 3 = 1 then drpS S (nn x) else S
theorem vs_drop (hV : VS S) {x : Int32} : VS (sDrop S x) := by
  unfold sDrop
  split
  · refine ⟨hV.o, hV.day, hV.kn, hV.pa, hV.im, hV.io, hV.tl, hV.tp, fun a ha => ?_, hV.ln⟩
    show upd1 S.sz _ 0 a ≤ 25
    unfold upd1
    split
    · omega
    · exact hV.sz a ha
  · exact hV
theorem cc_drop (hV : VS S) (hC : CW I J S) {x : Int32} : mj_E 105 [.ref 0, .int x] (KC, I, J, GC) (fun w' r => r = some (.int (aDrop S x)) ∧ ∃ I' J', w' = (KC, I', J', GC) ∧ CW I' J' (sDrop S x)) := by
  have hr1 := ir01 x 0 3
  unfold aDrop sDrop
  refine mjT_go 1 (pc' := 1) (L' := [some (.ref 0), some (.int x)]) (st' := [.int x]) (w1 := (KC, I, J, GC)) rfl ?_
  refine mjT_callE (as := [.int x]) (rest := []) (r1 := some (.int (nI (iR x 0 3)))) rfl rfl rfl rfl rfl ⟨rfl, rfl⟩ c_isSheet ?_
  refine mjT_go 1 (pc' := if ¬ nI (iR x 0 3) = 0 then 9 else 7) (L' := [some (.ref 0), some (.int x)]) (st' := []) (w1 := (KC, I, J, GC)) rfl ?_
  refine mjT_if_ne (u := iR x 0 3) (v := 0) rfl nI_0.symm (by omega) (by omega) (fun h1 => ?_) (fun h1 => ?_)
  rotate_left
  · rw [if_neg (by omega), if_neg (by omega)]
    refine mjT_go 1 (pc' := 8) (L' := [some (.ref 0), some (.int x)]) (st' := [.int (-1)]) (w1 := (KC, I, J, GC)) rfl ?_
    refine mjT_ret rfl rfl rfl ?_
    exact ⟨rfl, _, _, rfl, hC⟩
  rw [if_pos (show iR x 0 3 = 1 by omega), if_pos (show iR x 0 3 = 1 by omega)]
  obtain ⟨s, _, hs, rfl⟩ := iR_1 (x := x) (a := 0) (b := 3) (by omega) (by omega) (by omega)
  rw [nn_N (by omega)]
  refine mjT_go 3 (pc' := 14) (L' := [some (.ref 0), some (.int (nI s))]) (st' := [.int (nI s), .ref 88]) (w1 := (KC, I, J, GC)) rfl ?_
  have hz := hV.sz s (by omega)
  have key : mj_E 63 [.ref 88, .int (nI s)] (KC, I, J, GC) (fun w' r => r = some (.int (if S.sz s = 0 then -11 else nI (S.sz s - 1))) ∧ ∃ I', w' = (KC, I', J, GC) ∧ CW I' J (drpS S s)) := by
    refine mjT_go 3 (pc' := 5) (L' := [some (.ref 88), some (.int (nI s)), none]) (st' := [.int (nI s), .ref 90]) (w1 := (KC, I, J, GC)) rfl ?_
    refine mjT_ial (v := sI (S.sz s)) s 4 rfl (pc' := 6) rfl rfl rfl (by omega) (by omega) (show I 90 s = sI (S.sz s) from (hC.sz s (by omega))) ?_
    refine mjT_go 5 (pc' := 13) (L' := [some (.ref 88), some (.int (nI s)), some (.int (sI (S.sz s)))]) (st' := [.int (-1), .int (nI s), .ref 90]) (w1 := (KC, I, J, GC)) rfl ?_
    obtain ⟨V1, eV1⟩ : ∃ z, z = mj_row I 90 (va_up (I 90) s (-1)) := ⟨_, rfl⟩
    refine mjT_ias (I' := V1) s 4 rfl (pc' := 14) rfl rfl rfl (by omega) (by omega) eV1.symm ?_
    refine mjT_go 3 (pc' := if ¬ sI (S.sz s) = (-1) then 24 else 19) (L' := [some (.ref 88), some (.int (nI s)), some (.int (sI (S.sz s)))]) (st' := []) (w1 := (KC, V1, J, GC)) rfl ?_
    have hC2 : CW V1 J (drpS S s) := cw_sh hC (fun h a b => st_h eV1 b) (fun a ha => by
      unfold upd1
      by_cases e : a = s
      · subst e; rw [if_pos rfl, sI_0]; exact st_at eV1
      · rw [if_neg e, st_ne eV1 e]; exact hC.sz a ha) (fun a ha hza => by
      rw [st_h eV1 (by omega)]
      refine hC.ln a ha (fun q => hza ?_)
      unfold upd1
      split
      · rfl
      · exact q) (fun a ha j hj => hC.it a ha j hj)
    refine mjT_if (fun h2 => ?_) (fun h2 => ?_)
    · rw [sI_m1 (by omega)] at h2
      rw [if_neg h2]
      refine mjT_go 1 (pc' := 25) (L' := [some (.ref 88), some (.int (nI s)), some (.int (sI (S.sz s)))]) (st' := [.int (sI (S.sz s))]) (w1 := (KC, V1, J, GC)) rfl ?_
      refine mjT_ret rfl rfl rfl ?_
      refine ⟨?_, _, rfl, hC2⟩
      obtain ⟨m, hm⟩ : ∃ m, S.sz s = m + 1 := ⟨S.sz s - 1, by omega⟩
      rw [hm]; rfl
    rw [Decidable.not_not, sI_m1 (by omega)] at h2
    rw [if_pos h2]
    refine mjT_go 2 (pc' := 25) (L' := [some (.ref 88), some (.int (nI s)), some (.int (sI (S.sz s)))]) (st' := [.int (-11)]) (w1 := (KC, V1, J, GC)) rfl ?_
    refine mjT_ret rfl rfl rfl ?_
    exact ⟨rfl, _, rfl, hC2⟩
  refine mjT_call (as := [.ref 88, .int (nI s)]) (rest := []) rfl rfl rfl rfl rfl ⟨rfl, rfl⟩ (key) ?_
  rintro _ _ ⟨rfl, I2, rfl, hC2⟩
  refine mjT_ret rfl rfl rfl ?_
  exact ⟨rfl, _, _, rfl, hC2⟩
theorem mm_drop (hV : VS S) (hM : MW I J S) {x : Int32} : mj_E 210 [.ref 0, .int x] (KM, I, J, GM) (fun w' r => r = some (.int (aDrop S x)) ∧ ∃ I' J', w' = (KM, I', J', GM) ∧ MW I' J' (sDrop S x)) := by
  have hr1 := ir01 x 0 3
  unfold aDrop sDrop
  refine mjT_go 1 (pc' := 1) (L' := [some (.ref 0), some (.int x)]) (st' := [.int x]) (w1 := (KM, I, J, GM)) rfl ?_
  refine mjT_callE (as := [.int x]) (rest := []) (r1 := some (.int (nI (iR x 0 3)))) rfl rfl rfl rfl rfl ⟨rfl, rfl⟩ m_isSheet ?_
  refine mjT_go 1 (pc' := if ¬ nI (iR x 0 3) = 0 then 9 else 7) (L' := [some (.ref 0), some (.int x)]) (st' := []) (w1 := (KM, I, J, GM)) rfl ?_
  refine mjT_if_ne (u := iR x 0 3) (v := 0) rfl nI_0.symm (by omega) (by omega) (fun h1 => ?_) (fun h1 => ?_)
  rotate_left
  · rw [if_neg (by omega), if_neg (by omega)]
    refine mjT_go 1 (pc' := 8) (L' := [some (.ref 0), some (.int x)]) (st' := [.int (-1)]) (w1 := (KM, I, J, GM)) rfl ?_
    refine mjT_ret rfl rfl rfl ?_
    exact ⟨rfl, _, _, rfl, hM⟩
  rw [if_pos (show iR x 0 3 = 1 by omega), if_pos (show iR x 0 3 = 1 by omega)]
  obtain ⟨s, _, hs, rfl⟩ := iR_1 (x := x) (a := 0) (b := 3) (by omega) (by omega) (by omega)
  rw [nn_N (by omega)]
  have hz := hV.sz s (by omega)
  have hln := hV.ln s (by omega)
  refine mjT_go 3 (pc' := 14) (L' := [some (.ref 0), some (.int (nI s))]) (st' := [.int (nI s), .ref 6]) (w1 := (KM, I, J, GM)) rfl ?_
  refine mjT_ial (v := tI (if S.sz s = 0 then 0 else S.ln s + 1)) s 4 rfl (pc' := 15) rfl rfl rfl (by omega) (by omega) (show I 6 s = tI (if S.sz s = 0 then 0 else S.ln s + 1) from (hM.ln s (by omega))) ?_
  refine mjT_go 1 (pc' := if 0 ≤ tI (if S.sz s = 0 then 0 else S.ln s + 1) then 21 else 18) (L' := [some (.ref 0), some (.int (nI s))]) (st' := []) (w1 := (KM, I, J, GM)) rfl ?_
  refine mjT_if (fun h2 => ?_) (fun h2 => ?_)
  rotate_left
  · rw [tI_ln4 hln, Decidable.not_not] at h2
    rw [if_pos h2, drp_none h2]
    refine mjT_go 1 (pc' := 20) (L' := [some (.ref 0), some (.int (nI s))]) (st' := [.int (-11)]) (w1 := (KM, I, J, GM)) rfl ?_
    refine mjT_ret rfl rfl rfl ?_
    exact ⟨rfl, _, _, rfl, hM⟩
  rw [tI_ln4 hln] at h2
  rw [if_neg h2]
  refine mjT_go 4 (pc' := 28) (L' := [some (.ref 0), some (.int (nI s))]) (st' := [.int (-4), .int (nI s), .ref 6]) (w1 := (KM, I, J, GM)) rfl ?_
  obtain ⟨V1, eV1⟩ : ∃ z, z = mj_row I 6 (va_up (I 6) s (-4)) := ⟨_, rfl⟩
  refine mjT_ias (I' := V1) s 4 rfl (pc' := 29) rfl rfl rfl (by omega) (by omega) eV1.symm ?_
  refine mjT_go 3 (pc' := 34) (L' := [some (.ref 0), some (.int (nI s))]) (st' := [.int (nI s), .ref 7]) (w1 := (KM, V1, J, GM)) rfl ?_
  refine mjT_ial (v := nI (S.sz s - 1)) s 4 rfl (pc' := 35) rfl rfl rfl (by omega) (by omega) (show V1 7 s = nI (S.sz s - 1) from ((congrFun (st_h eV1 (by omega)) s).trans (hM.sz s (by omega) h2))) ?_
  refine mjT_ret rfl rfl rfl ?_
  refine ⟨rfl, _, _, rfl, mw_sh hV hM (fun h a b => st_h eV1 a) (fun a ha => ?_) (fun a ha hza => ?_) (fun a ha j hj => hM.it a ha j hj)⟩
  · unfold upd1
    by_cases e : a = s
    · subst e; rw [if_pos rfl, if_pos rfl, tI_0]; exact st_at eV1
    · rw [if_neg e, st_ne eV1 e]; exact hM.ln a ha
  · rw [st_h eV1 (by omega)]
    unfold upd1 at hza ⊢
    by_cases e : a = s
    · rw [if_pos e] at hza; exact absurd rfl hza
    · rw [if_neg e] at hza ⊢; exact hM.sz a ha hza
theorem sim_drop {x : Int32} : SimO 105 210 [.int x] := fun S _ _ _ _ hV hC hM => ⟨_, _, vs_drop hV, cc_drop hV hC, mm_drop hV hM⟩
/-! copy -/
noncomputable def mvN (S : Sta) (s t : Nat) (x y n : Int32) : Int32 := if S.sz s = 0 ∨ S.sz t = 0 then -11 else if S.ln s = S.ln t then (if hN (S.sz s - 1) x n = 1 ∧ hN (S.sz t - 1) y n = 1 then nI 0 else -13) else -12
def movS (S : Sta) (s t a b n : Nat) : Sta := mkS S.o S.kn S.pa S.im S.io S.ikn S.ipa S.tl S.tp S.sz S.ln (fun c j => if c = t ∧ b ≤ j ∧ j < b + n then S.it s (a + (j - b)) else S.it c j)
noncomputable def aCopy (S : Sta) (x y z u n : Int32) : Int32 := if iR x 0 3 = 1 ∧ iR z 0 3 = 1 then (if mvN S (nn x) (nn z) y u n < 0 then mvN S (nn x) (nn z) y u n else n) else -1
noncomputable def sCopy (S : Sta) (x y z u n : Int32) : Sta := if iR x 0 3 = 1 ∧ iR z 0 3 = 1 then (if mvN S (nn x) (nn z) y u n < 0 then S else movS S (nn x) (nn z) (nn y) (nn u) (nn n)) else S
theorem vs_mov (hV : VS S) {s t a b n : Nat} : VS (movS S s t a b n) := ⟨hV.o, hV.day, hV.kn, hV.pa, hV.im, hV.io, hV.tl, hV.tp, hV.sz, hV.ln⟩
theorem vs_copy (hV : VS S) {x y z u n : Int32} : VS (sCopy S x y z u n) := by
  unfold sCopy
  split
  · split
    · exact hV
    · exact vs_mov hV
  · exact hV
theorem c_moveRefusal (hV : VS S) (hC : CW I J S) {s t : Nat} (hs : s < 4) (ht : t < 4) {x y n : Int32} : mj_Ev 65 [.ref 88, .int (nI s), .int x, .int (nI t), .int y, .int n] (KC, I, J, GC) (KC, I, J, GC) (some (.int (mvN S s t x y n))) := by
  refine mj_ev_of ?_
  have hzs := hV.sz s hs
  have hzt := hV.sz t ht
  have hls := hV.ln s hs
  have hlt := hV.ln t ht
  have hCs := hC.sz s hs
  have hCt := hC.sz t ht
  unfold mvN
  refine mjT_go 3 (pc' := 5) (L' := [some (.ref 88), some (.int (nI s)), some (.int x), some (.int (nI t)), some (.int y), some (.int n)]) (st' := [.int (nI s), .ref 90]) (w1 := (KC, I, J, GC)) rfl ?_
  refine mjT_ial (v := sI (S.sz s)) s 4 rfl (pc' := 6) rfl rfl rfl (by omega) (by omega) (show I 90 s = sI (S.sz s) from hCs) ?_
  refine mjT_go 2 (pc' := if sI (S.sz s) = (-1) then 20 else 10) (L' := [some (.ref 88), some (.int (nI s)), some (.int x), some (.int (nI t)), some (.int y), some (.int n)]) (st' := []) (w1 := (KC, I, J, GC)) rfl ?_
  refine mjT_if (fun h1 => ?_) (fun h1 => ?_)
  · rw [sI_m1 (by omega)] at h1
    rw [if_pos (Or.inl h1)]
    refine mjT_go 1 (pc' := 22) (L' := [some (.ref 88), some (.int (nI s)), some (.int x), some (.int (nI t)), some (.int y), some (.int n)]) (st' := [.int (-11)]) (w1 := (KC, I, J, GC)) rfl ?_
    refine mjT_ret rfl rfl rfl ?_
    exact ⟨rfl, rfl⟩
  rw [sI_m1 (by omega)] at h1
  refine mjT_go 3 (pc' := 15) (L' := [some (.ref 88), some (.int (nI s)), some (.int x), some (.int (nI t)), some (.int y), some (.int n)]) (st' := [.int (nI t), .ref 90]) (w1 := (KC, I, J, GC)) rfl ?_
  refine mjT_ial (v := sI (S.sz t)) t 4 rfl (pc' := 16) rfl rfl rfl (by omega) (by omega) (show I 90 t = sI (S.sz t) from hCt) ?_
  refine mjT_go 2 (pc' := if ¬ sI (S.sz t) = (-1) then 23 else 20) (L' := [some (.ref 88), some (.int (nI s)), some (.int x), some (.int (nI t)), some (.int y), some (.int n)]) (st' := []) (w1 := (KC, I, J, GC)) rfl ?_
  refine mjT_if (fun h2 => ?_) (fun h2 => ?_)
  rotate_left
  · rw [Decidable.not_not, sI_m1 (by omega)] at h2
    rw [if_pos (Or.inr h2)]
    refine mjT_go 1 (pc' := 22) (L' := [some (.ref 88), some (.int (nI s)), some (.int x), some (.int (nI t)), some (.int y), some (.int n)]) (st' := [.int (-11)]) (w1 := (KC, I, J, GC)) rfl ?_
    refine mjT_ret rfl rfl rfl ?_
    exact ⟨rfl, rfl⟩
  rw [sI_m1 (by omega)] at h2
  rw [if_neg (by omega)]
  refine mjT_go 3 (pc' := 28) (L' := [some (.ref 88), some (.int (nI s)), some (.int x), some (.int (nI t)), some (.int y), some (.int n)]) (st' := [.int (nI s), .ref 89]) (w1 := (KC, I, J, GC)) rfl ?_
  refine mjT_ial (v := nI (S.ln s)) s 4 rfl (pc' := 29) rfl rfl rfl (by omega) (by omega) (show I 89 s = nI (S.ln s) from (hC.ln s hs h1)) ?_
  refine mjT_go 3 (pc' := 34) (L' := [some (.ref 88), some (.int (nI s)), some (.int x), some (.int (nI t)), some (.int y), some (.int n)]) (st' := [.int (nI t), .ref 89, .int (nI (S.ln s))]) (w1 := (KC, I, J, GC)) rfl ?_
  refine mjT_ial (v := nI (S.ln t)) t 4 rfl (pc' := 35) rfl rfl rfl (by omega) (by omega) (show I 89 t = nI (S.ln t) from (hC.ln t ht h2)) ?_
  refine mjT_go 1 (pc' := if nI (S.ln s) = nI (S.ln t) then 41 else 38) (L' := [some (.ref 88), some (.int (nI s)), some (.int x), some (.int (nI t)), some (.int y), some (.int n)]) (st' := []) (w1 := (KC, I, J, GC)) rfl ?_
  refine mjT_if_eq (u := S.ln s) (v := S.ln t) rfl rfl (by omega) (by omega) (fun h3 => ?_) (fun h3 => ?_)
  rotate_left
  · rw [if_neg h3]
    refine mjT_go 1 (pc' := 40) (L' := [some (.ref 88), some (.int (nI s)), some (.int x), some (.int (nI t)), some (.int y), some (.int n)]) (st' := [.int (-12)]) (w1 := (KC, I, J, GC)) rfl ?_
    refine mjT_ret rfl rfl rfl ?_
    exact ⟨rfl, rfl⟩
  rw [if_pos h3]
  obtain ⟨m, hm⟩ : ∃ m, S.sz s = m + 1 := ⟨S.sz s - 1, by omega⟩
  obtain ⟨q, hq⟩ : ∃ q, S.sz t = q + 1 := ⟨S.sz t - 1, by omega⟩
  rw [hm, sI_s] at hCs
  rw [hq, sI_s] at hCt
  rw [hm, hq, Nat.add_sub_cancel, Nat.add_sub_cancel]
  have h01 := hN_lt m x n
  have h02 := hN_lt q y n
  refine mjT_go 4 (pc' := 46) (L' := [some (.ref 88), some (.int (nI s)), some (.int x), some (.int (nI t)), some (.int y), some (.int n)]) (st' := [.int n, .int x, .int (nI s), .ref 88]) (w1 := (KC, I, J, GC)) rfl ?_
  refine mjT_callE (as := [.ref 88, .int (nI s), .int x, .int n]) (rest := []) (r1 := some (.int (nI (hN m x n)))) rfl rfl rfl rfl rfl ⟨rfl, rfl⟩ (c_holds hs (by omega) hCs) ?_
  refine mjT_go 1 (pc' := if nI (hN m x n) = 0 then 68 else 52) (L' := [some (.ref 88), some (.int (nI s)), some (.int x), some (.int (nI t)), some (.int y), some (.int n)]) (st' := []) (w1 := (KC, I, J, GC)) rfl ?_
  refine mjT_if_eq (u := hN m x n) (v := 0) rfl nI_0.symm (by omega) (by omega) (fun h4 => ?_) (fun h4 => ?_)
  · rw [if_neg (by omega)]
    refine mjT_go 1 (pc' := 70) (L' := [some (.ref 88), some (.int (nI s)), some (.int x), some (.int (nI t)), some (.int y), some (.int n)]) (st' := [.int (-13)]) (w1 := (KC, I, J, GC)) rfl ?_
    refine mjT_ret rfl rfl rfl ?_
    exact ⟨rfl, rfl⟩
  refine mjT_go 4 (pc' := 58) (L' := [some (.ref 88), some (.int (nI s)), some (.int x), some (.int (nI t)), some (.int y), some (.int n)]) (st' := [.int n, .int y, .int (nI t), .ref 88]) (w1 := (KC, I, J, GC)) rfl ?_
  refine mjT_callE (as := [.ref 88, .int (nI t), .int y, .int n]) (rest := []) (r1 := some (.int (nI (hN q y n)))) rfl rfl rfl rfl rfl ⟨rfl, rfl⟩ (c_holds ht (by omega) hCt) ?_
  refine mjT_go 1 (pc' := if nI (hN q y n) = 0 then 68 else 64) (L' := [some (.ref 88), some (.int (nI s)), some (.int x), some (.int (nI t)), some (.int y), some (.int n)]) (st' := []) (w1 := (KC, I, J, GC)) rfl ?_
  refine mjT_if_eq (u := hN q y n) (v := 0) rfl nI_0.symm (by omega) (by omega) (fun h5 => ?_) (fun h5 => ?_)
  · rw [if_neg (by omega)]
    refine mjT_go 1 (pc' := 70) (L' := [some (.ref 88), some (.int (nI s)), some (.int x), some (.int (nI t)), some (.int y), some (.int n)]) (st' := [.int (-13)]) (w1 := (KC, I, J, GC)) rfl ?_
    refine mjT_ret rfl rfl rfl ?_
    exact ⟨rfl, rfl⟩
  rw [if_pos (by omega)]
  refine mjT_go 2 (pc' := 70) (L' := [some (.ref 88), some (.int (nI s)), some (.int x), some (.int (nI t)), some (.int y), some (.int n)]) (st' := [.int (nI 0)]) (w1 := (KC, I, J, GC)) rfl ?_
  refine mjT_ret rfl rfl rfl ?_
  exact ⟨rfl, rfl⟩
theorem mvN_cases (S : Sta) (s t : Nat) (x y n : Int32) : mvN S s t x y n < 0 ∨ (mvN S s t x y n = nI 0 ∧ S.sz s ≠ 0 ∧ S.sz t ≠ 0 ∧ S.ln s = S.ln t ∧ hN (S.sz s - 1) x n = 1 ∧ hN (S.sz t - 1) y n = 1) := by
  unfold mvN
  by_cases h1 : S.sz s = 0 ∨ S.sz t = 0
  · rw [if_pos h1]; exact Or.inl (by decide)
  · rw [if_neg h1]
    by_cases h2 : S.ln s = S.ln t
    · rw [if_pos h2]
      by_cases h3 : hN (S.sz s - 1) x n = 1 ∧ hN (S.sz t - 1) y n = 1
      · rw [if_pos h3]; exact Or.inr ⟨rfl, fun q => h1 (Or.inl q), fun q => h1 (Or.inr q), h2, h3.1, h3.2⟩
      · rw [if_neg h3]; exact Or.inl (by decide)
    · rw [if_neg h2]; exact Or.inl (by decide)
theorem cc_copy (hV : VS S) (hC : CW I J S) {x y z u n : Int32} : mj_E 107 [.ref 0, .int x, .int y, .int z, .int u, .int n] (KC, I, J, GC) (fun w' r => r = some (.int (aCopy S x y z u n)) ∧ ∃ I' J', w' = (KC, I', J', GC) ∧ CW I' J' (sCopy S x y z u n)) := by
  have hr1 := ir01 x 0 3
  have hr2 := ir01 z 0 3
  unfold aCopy sCopy
  refine mjT_go 1 (pc' := 1) (L' := [some (.ref 0), some (.int x), some (.int y), some (.int z), some (.int u), some (.int n), none]) (st' := [.int x]) (w1 := (KC, I, J, GC)) rfl ?_
  refine mjT_callE (as := [.int x]) (rest := []) (r1 := some (.int (nI (iR x 0 3)))) rfl rfl rfl rfl rfl ⟨rfl, rfl⟩ c_isSheet ?_
  refine mjT_go 1 (pc' := if nI (iR x 0 3) = 0 then 14 else 7) (L' := [some (.ref 0), some (.int x), some (.int y), some (.int z), some (.int u), some (.int n), none]) (st' := []) (w1 := (KC, I, J, GC)) rfl ?_
  refine mjT_if_eq (u := iR x 0 3) (v := 0) rfl nI_0.symm (by omega) (by omega) (fun h1 => ?_) (fun h1 => ?_)
  · rw [if_neg (by omega), if_neg (by omega)]
    refine mjT_go 1 (pc' := 15) (L' := [some (.ref 0), some (.int x), some (.int y), some (.int z), some (.int u), some (.int n), none]) (st' := [.int (-1)]) (w1 := (KC, I, J, GC)) rfl ?_
    refine mjT_ret rfl rfl rfl ?_
    exact ⟨rfl, _, _, rfl, hC⟩
  refine mjT_go 1 (pc' := 8) (L' := [some (.ref 0), some (.int x), some (.int y), some (.int z), some (.int u), some (.int n), none]) (st' := [.int z]) (w1 := (KC, I, J, GC)) rfl ?_
  refine mjT_callE (as := [.int z]) (rest := []) (r1 := some (.int (nI (iR z 0 3)))) rfl rfl rfl rfl rfl ⟨rfl, rfl⟩ c_isSheet ?_
  refine mjT_go 1 (pc' := if ¬ nI (iR z 0 3) = 0 then 16 else 14) (L' := [some (.ref 0), some (.int x), some (.int y), some (.int z), some (.int u), some (.int n), none]) (st' := []) (w1 := (KC, I, J, GC)) rfl ?_
  refine mjT_if_ne (u := iR z 0 3) (v := 0) rfl nI_0.symm (by omega) (by omega) (fun h2 => ?_) (fun h2 => ?_)
  rotate_left
  · rw [if_neg (by omega), if_neg (by omega)]
    refine mjT_go 1 (pc' := 15) (L' := [some (.ref 0), some (.int x), some (.int y), some (.int z), some (.int u), some (.int n), none]) (st' := [.int (-1)]) (w1 := (KC, I, J, GC)) rfl ?_
    refine mjT_ret rfl rfl rfl ?_
    exact ⟨rfl, _, _, rfl, hC⟩
  rw [if_pos (show iR x 0 3 = 1 ∧ iR z 0 3 = 1 by omega), if_pos (show iR x 0 3 = 1 ∧ iR z 0 3 = 1 by omega)]
  obtain ⟨s, _, hs, rfl⟩ := iR_1 (x := x) (a := 0) (b := 3) (by omega) (by omega) (by omega)
  obtain ⟨t, _, ht, rfl⟩ := iR_1 (x := z) (a := 0) (b := 3) (by omega) (by omega) (by omega)
  rw [nn_N (n := s) (by omega), nn_N (n := t) (by omega)]
  refine mjT_go 7 (pc' := 27) (L' := [some (.ref 0), some (.int (nI s)), some (.int y), some (.int (nI t)), some (.int u), some (.int n), none]) (st' := [.int n, .int u, .int (nI t), .int y, .int (nI s), .ref 88]) (w1 := (KC, I, J, GC)) rfl ?_
  refine mjT_callE (as := [.ref 88, .int (nI s), .int y, .int (nI t), .int u, .int n]) (rest := []) (r1 := some (.int (mvN S s t y u n))) rfl rfl rfl rfl rfl ⟨rfl, rfl⟩ (c_moveRefusal hV hC (by omega) (by omega)) ?_
  refine mjT_go 3 (pc' := if 0 ≤ mvN S s t y u n then 40 else 37) (L' := [some (.ref 0), some (.int (nI s)), some (.int y), some (.int (nI t)), some (.int u), some (.int n), some (.int (mvN S s t y u n))]) (st' := []) (w1 := (KC, I, J, GC)) rfl ?_
  rcases mvN_cases S s t y u n with hneg | ⟨h0, hs0, ht0, hl, ha, hb⟩
  · rw [if_pos hneg, if_pos hneg]
    refine mjT_ifF (fun q => i32_nlt.mpr q hneg) ?_
    refine mjT_go 1 (pc' := 39) (L' := [some (.ref 0), some (.int (nI s)), some (.int y), some (.int (nI t)), some (.int u), some (.int n), some (.int (mvN S s t y u n))]) (st' := [.int (mvN S s t y u n)]) (w1 := (KC, I, J, GC)) rfl ?_
    refine mjT_ret rfl rfl rfl ?_
    exact ⟨rfl, _, _, rfl, hC⟩
  have hzs := hV.sz s (by omega)
  have hzt := hV.sz t (by omega)
  rw [h0, if_neg (show ¬ nI 0 < 0 by decide), if_neg (show ¬ nI 0 < 0 by decide)]
  refine mjT_ifT (by decide) ?_
  obtain ⟨a, m, rfl, rfl, hba, ha31, hm31⟩ := hN_1 ha
  obtain ⟨b, m2, rfl, hm2, hbb, hb31, hm231⟩ := hN_1 hb
  obtain rfl : m = m2 := (nI_eq hm31 hm231).mp hm2
  rw [nn_N ha31, nn_N hb31, nn_N hm31]
  refine mjT_go 7 (pc' := 51) (L' := [some (.ref 0), some (.int (nI s)), some (.int (nI a)), some (.int (nI t)), some (.int (nI b)), some (.int (nI m)), some (.int (nI 0))]) (st' := [.int (nI m), .int (nI b), .int (nI t), .int (nI a), .int (nI s), .ref 88]) (w1 := (KC, I, J, GC)) rfl ?_
  have key : mj_E 69 [.ref 88, .int (nI s), .int (nI a), .int (nI t), .int (nI b), .int (nI m)] (KC, I, J, GC) (fun w' r => r = none ∧ ∃ J', w' = (KC, I, J', GC) ∧ CW I J' (movS S s t a b m)) := by
    refine mjT_go 3 (pc' := 5) (L' := [some (.ref 88), some (.int (nI s)), some (.int (nI a)), some (.int (nI t)), some (.int (nI b)), some (.int (nI m))]) (st' := [.int (nI s), .ref 91]) (w1 := (KC, I, J, GC)) rfl ?_
    refine mjT_aal (h' := (92 + s)) s 4 rfl (pc' := 6) rfl (by decide) rfl rfl (by omega) (by omega) (sh_ref s (by omega)) ?_
    refine mjT_go 4 (pc' := 12) (L' := [some (.ref 88), some (.int (nI s)), some (.int (nI a)), some (.int (nI t)), some (.int (nI b)), some (.int (nI m))]) (st' := [.int (nI t), .ref 91, .int (nI a), .ref (92 + s)]) (w1 := (KC, I, J, GC)) rfl ?_
    refine mjT_aal (h' := (92 + t)) t 4 rfl (pc' := 13) rfl (by decide) rfl rfl (by omega) (by omega) (sh_ref t (by omega)) ?_
    refine mjT_go 2 (pc' := 17) (L' := [some (.ref 88), some (.int (nI s)), some (.int (nI a)), some (.int (nI t)), some (.int (nI b)), some (.int (nI m))]) (st' := [.int (nI m), .int (nI b), .ref (92 + t), .int (nI a), .ref (92 + s)]) (w1 := (KC, I, J, GC)) rfl ?_
    obtain ⟨V1, eV1⟩ : ∃ z, z = mj_row J (92 + t) (va_cpy (J (92 + s)) (J (92 + t)) a b m) := ⟨_, rfl⟩
    refine mjT_cpl (J' := V1) (n := 24) (n2 := 24) (sp := a) (dp := b) (m := m) rfl (pc' := 20) rfl (sh_kind s (by omega)) (sh_kind t (by omega)) rfl rfl rfl (by omega) (by omega) (by omega) (by decide) eV1.symm ?_
    refine mjT_ret rfl rfl rfl ?_
    refine ⟨rfl, _, rfl, hC.o, hC.past, hC.im, hC.io, hC.tl, hC.tp, hC.sz, hC.ln, fun c hc j hj => ?_⟩
    subst eV1
    show mj_row J (92 + t) (va_cpy (J (92 + s)) (J (92 + t)) a b m) (92 + c) j = (if c = t ∧ b ≤ j ∧ j < b + m then S.it s (a + (j - b)) else S.it c j)
    unfold mj_row va_cpy
    by_cases e : c = t
    · subst e
      rw [if_pos rfl]
      by_cases e2 : b ≤ j ∧ j < b + m
      · rw [if_pos e2, if_pos ⟨rfl, e2⟩]; exact hC.it s (by omega) _ (by omega)
      · rw [if_neg e2, if_neg (fun q => e2 q.2)]; exact hC.it c hc j hj
    · rw [if_neg (by omega), if_neg (fun q => e q.1)]; exact hC.it c hc j hj
  refine mjT_call (as := [.ref 88, .int (nI s), .int (nI a), .int (nI t), .int (nI b), .int (nI m)]) (rest := []) rfl rfl rfl rfl rfl ⟨rfl, rfl⟩ (key) ?_
  rintro _ _ ⟨rfl, J2, rfl, hC2⟩
  refine mjT_go 1 (pc' := 56) (L' := [some (.ref 0), some (.int (nI s)), some (.int (nI a)), some (.int (nI t)), some (.int (nI b)), some (.int (nI m)), some (.int (nI 0))]) (st' := [.int (nI m)]) (w1 := (KC, I, J2, GC)) rfl ?_
  refine mjT_ret rfl rfl rfl ?_
  exact ⟨rfl, _, _, rfl, hC2⟩
theorem mm_copy (hV : VS S) (hM : MW I J S) {x y z u n : Int32} : mj_E 212 [.ref 0, .int x, .int y, .int z, .int u, .int n] (KM, I, J, GM) (fun w' r => r = some (.int (aCopy S x y z u n)) ∧ ∃ I' J', w' = (KM, I', J', GM) ∧ MW I' J' (sCopy S x y z u n)) := by
  have hr1 := ir01 x 0 3
  have hr2 := ir01 z 0 3
  unfold aCopy sCopy
  refine mjT_go 1 (pc' := 1) (L' := [some (.ref 0), some (.int x), some (.int y), some (.int z), some (.int u), some (.int n), none]) (st' := [.int x]) (w1 := (KM, I, J, GM)) rfl ?_
  refine mjT_callE (as := [.int x]) (rest := []) (r1 := some (.int (nI (iR x 0 3)))) rfl rfl rfl rfl rfl ⟨rfl, rfl⟩ m_isSheet ?_
  refine mjT_go 1 (pc' := if nI (iR x 0 3) = 0 then 14 else 7) (L' := [some (.ref 0), some (.int x), some (.int y), some (.int z), some (.int u), some (.int n), none]) (st' := []) (w1 := (KM, I, J, GM)) rfl ?_
  refine mjT_if_eq (u := iR x 0 3) (v := 0) rfl nI_0.symm (by omega) (by omega) (fun h1 => ?_) (fun h1 => ?_)
  · rw [if_neg (by omega), if_neg (by omega)]
    refine mjT_go 1 (pc' := 15) (L' := [some (.ref 0), some (.int x), some (.int y), some (.int z), some (.int u), some (.int n), none]) (st' := [.int (-1)]) (w1 := (KM, I, J, GM)) rfl ?_
    refine mjT_ret rfl rfl rfl ?_
    exact ⟨rfl, _, _, rfl, hM⟩
  refine mjT_go 1 (pc' := 8) (L' := [some (.ref 0), some (.int x), some (.int y), some (.int z), some (.int u), some (.int n), none]) (st' := [.int z]) (w1 := (KM, I, J, GM)) rfl ?_
  refine mjT_callE (as := [.int z]) (rest := []) (r1 := some (.int (nI (iR z 0 3)))) rfl rfl rfl rfl rfl ⟨rfl, rfl⟩ m_isSheet ?_
  refine mjT_go 1 (pc' := if ¬ nI (iR z 0 3) = 0 then 16 else 14) (L' := [some (.ref 0), some (.int x), some (.int y), some (.int z), some (.int u), some (.int n), none]) (st' := []) (w1 := (KM, I, J, GM)) rfl ?_
  refine mjT_if_ne (u := iR z 0 3) (v := 0) rfl nI_0.symm (by omega) (by omega) (fun h2 => ?_) (fun h2 => ?_)
  rotate_left
  · rw [if_neg (by omega), if_neg (by omega)]
    refine mjT_go 1 (pc' := 15) (L' := [some (.ref 0), some (.int x), some (.int y), some (.int z), some (.int u), some (.int n), none]) (st' := [.int (-1)]) (w1 := (KM, I, J, GM)) rfl ?_
    refine mjT_ret rfl rfl rfl ?_
    exact ⟨rfl, _, _, rfl, hM⟩
  rw [if_pos (show iR x 0 3 = 1 ∧ iR z 0 3 = 1 by omega), if_pos (show iR x 0 3 = 1 ∧ iR z 0 3 = 1 by omega)]
  obtain ⟨s, _, hs, rfl⟩ := iR_1 (x := x) (a := 0) (b := 3) (by omega) (by omega) (by omega)
  obtain ⟨t, _, ht, rfl⟩ := iR_1 (x := z) (a := 0) (b := 3) (by omega) (by omega) (by omega)
  rw [nn_N (n := s) (by omega), nn_N (n := t) (by omega)]
  have hzs := hV.sz s (by omega)
  have hzt := hV.sz t (by omega)
  have hls := hV.ln s (by omega)
  have hlt := hV.ln t (by omega)
  refine mjT_go 3 (pc' := 21) (L' := [some (.ref 0), some (.int (nI s)), some (.int y), some (.int (nI t)), some (.int u), some (.int n), none]) (st' := [.int (nI s), .ref 6]) (w1 := (KM, I, J, GM)) rfl ?_
  refine mjT_ial (v := tI (if S.sz s = 0 then 0 else S.ln s + 1)) s 4 rfl (pc' := 22) rfl rfl rfl (by omega) (by omega) (show I 6 s = tI (if S.sz s = 0 then 0 else S.ln s + 1) from (hM.ln s (by omega))) ?_
  refine mjT_go 1 (pc' := if tI (if S.sz s = 0 then 0 else S.ln s + 1) < 0 then 34 else 25) (L' := [some (.ref 0), some (.int (nI s)), some (.int y), some (.int (nI t)), some (.int u), some (.int n), none]) (st' := []) (w1 := (KM, I, J, GM)) rfl ?_
  have bad : ∀ v : Int32, v < 0 → mvN S s t y u n = v → (if mvN S s t y u n < 0 then mvN S s t y u n else n) = v ∧ (if mvN S s t y u n < 0 then S else movS S s t (nn y) (nn u) (nn n)) = S := fun v hv e => by rw [e, if_pos hv, if_pos hv]; exact ⟨rfl, rfl⟩
  refine mjT_if (fun h3 => ?_) (fun h3 => ?_)
  · rw [tI_lnN hls] at h3
    obtain ⟨e1, e2⟩ := bad (-11) (by decide) (by unfold mvN; rw [if_pos (Or.inl h3)])
    rw [e1, e2]
    refine mjT_go 1 (pc' := 36) (L' := [some (.ref 0), some (.int (nI s)), some (.int y), some (.int (nI t)), some (.int u), some (.int n), none]) (st' := [.int (-11)]) (w1 := (KM, I, J, GM)) rfl ?_
    refine mjT_ret rfl rfl rfl ?_
    exact ⟨rfl, _, _, rfl, hM⟩
  rw [tI_lnN hls] at h3
  refine mjT_go 3 (pc' := 30) (L' := [some (.ref 0), some (.int (nI s)), some (.int y), some (.int (nI t)), some (.int u), some (.int n), none]) (st' := [.int (nI t), .ref 6]) (w1 := (KM, I, J, GM)) rfl ?_
  refine mjT_ial (v := tI (if S.sz t = 0 then 0 else S.ln t + 1)) t 4 rfl (pc' := 31) rfl rfl rfl (by omega) (by omega) (show I 6 t = tI (if S.sz t = 0 then 0 else S.ln t + 1) from (hM.ln t (by omega))) ?_
  refine mjT_go 1 (pc' := if 0 ≤ tI (if S.sz t = 0 then 0 else S.ln t + 1) then 37 else 34) (L' := [some (.ref 0), some (.int (nI s)), some (.int y), some (.int (nI t)), some (.int u), some (.int n), none]) (st' := []) (w1 := (KM, I, J, GM)) rfl ?_
  refine mjT_if (fun h4 => ?_) (fun h4 => ?_)
  rotate_left
  · rw [tI_ln4 hlt, Decidable.not_not] at h4
    obtain ⟨e1, e2⟩ := bad (-11) (by decide) (by unfold mvN; rw [if_pos (Or.inr h4)])
    rw [e1, e2]
    refine mjT_go 1 (pc' := 36) (L' := [some (.ref 0), some (.int (nI s)), some (.int y), some (.int (nI t)), some (.int u), some (.int n), none]) (st' := [.int (-11)]) (w1 := (KM, I, J, GM)) rfl ?_
    refine mjT_ret rfl rfl rfl ?_
    exact ⟨rfl, _, _, rfl, hM⟩
  rw [tI_ln4 hlt] at h4
  refine mjT_go 3 (pc' := 42) (L' := [some (.ref 0), some (.int (nI s)), some (.int y), some (.int (nI t)), some (.int u), some (.int n), none]) (st' := [.int (nI s), .ref 6]) (w1 := (KM, I, J, GM)) rfl ?_
  refine mjT_ial (v := nI (S.ln s)) s 4 rfl (pc' := 43) rfl rfl rfl (by omega) (by omega) (show I 6 s = nI (S.ln s) from ((hM.ln s (by omega)).trans (by rw [if_neg h3, tI_s]))) ?_
  refine mjT_go 3 (pc' := 48) (L' := [some (.ref 0), some (.int (nI s)), some (.int y), some (.int (nI t)), some (.int u), some (.int n), none]) (st' := [.int (nI t), .ref 6, .int (nI (S.ln s))]) (w1 := (KM, I, J, GM)) rfl ?_
  refine mjT_ial (v := nI (S.ln t)) t 4 rfl (pc' := 49) rfl rfl rfl (by omega) (by omega) (show I 6 t = nI (S.ln t) from ((hM.ln t (by omega)).trans (by rw [if_neg h4, tI_s]))) ?_
  refine mjT_go 1 (pc' := if nI (S.ln s) = nI (S.ln t) then 55 else 52) (L' := [some (.ref 0), some (.int (nI s)), some (.int y), some (.int (nI t)), some (.int u), some (.int n), none]) (st' := []) (w1 := (KM, I, J, GM)) rfl ?_
  refine mjT_if_eq (u := S.ln s) (v := S.ln t) rfl rfl (by omega) (by omega) (fun h5 => ?_) (fun h5 => ?_)
  rotate_left
  · obtain ⟨e1, e2⟩ := bad (-12) (by decide) (by unfold mvN; rw [if_neg (by omega), if_neg h5])
    rw [e1, e2]
    refine mjT_go 1 (pc' := 54) (L' := [some (.ref 0), some (.int (nI s)), some (.int y), some (.int (nI t)), some (.int u), some (.int n), none]) (st' := [.int (-12)]) (w1 := (KM, I, J, GM)) rfl ?_
    refine mjT_ret rfl rfl rfl ?_
    exact ⟨rfl, _, _, rfl, hM⟩
  have h01 := hN_lt (S.sz s - 1) y n
  have h02 := hN_lt (S.sz t - 1) u n
  refine mjT_go 4 (pc' := 60) (L' := [some (.ref 0), some (.int (nI s)), some (.int y), some (.int (nI t)), some (.int u), some (.int n), none]) (st' := [.int n, .int y, .int (nI s), .ref 0]) (w1 := (KM, I, J, GM)) rfl ?_
  refine mjT_callE (as := [.ref 0, .int (nI s), .int y, .int n]) (rest := []) (r1 := some (.int (nI (hN (S.sz s - 1) y n)))) rfl rfl rfl rfl rfl ⟨rfl, rfl⟩ (m_areThere (by omega) (by omega) (hM.sz s (by omega) h3)) ?_
  refine mjT_go 1 (pc' := if nI (hN (S.sz s - 1) y n) = 0 then 78 else 66) (L' := [some (.ref 0), some (.int (nI s)), some (.int y), some (.int (nI t)), some (.int u), some (.int n), none]) (st' := []) (w1 := (KM, I, J, GM)) rfl ?_
  refine mjT_if_eq (u := hN (S.sz s - 1) y n) (v := 0) rfl nI_0.symm (by omega) (by omega) (fun h6 => ?_) (fun h6 => ?_)
  · obtain ⟨e1, e2⟩ := bad (-13) (by decide) (by unfold mvN; rw [if_neg (by omega), if_pos h5, if_neg (by omega)])
    rw [e1, e2]
    refine mjT_go 1 (pc' := 80) (L' := [some (.ref 0), some (.int (nI s)), some (.int y), some (.int (nI t)), some (.int u), some (.int n), none]) (st' := [.int (-13)]) (w1 := (KM, I, J, GM)) rfl ?_
    refine mjT_ret rfl rfl rfl ?_
    exact ⟨rfl, _, _, rfl, hM⟩
  refine mjT_go 4 (pc' := 72) (L' := [some (.ref 0), some (.int (nI s)), some (.int y), some (.int (nI t)), some (.int u), some (.int n), none]) (st' := [.int n, .int u, .int (nI t), .ref 0]) (w1 := (KM, I, J, GM)) rfl ?_
  refine mjT_callE (as := [.ref 0, .int (nI t), .int u, .int n]) (rest := []) (r1 := some (.int (nI (hN (S.sz t - 1) u n)))) rfl rfl rfl rfl rfl ⟨rfl, rfl⟩ (m_areThere (by omega) (by omega) (hM.sz t (by omega) h4)) ?_
  refine mjT_go 1 (pc' := if ¬ nI (hN (S.sz t - 1) u n) = 0 then 81 else 78) (L' := [some (.ref 0), some (.int (nI s)), some (.int y), some (.int (nI t)), some (.int u), some (.int n), none]) (st' := []) (w1 := (KM, I, J, GM)) rfl ?_
  refine mjT_if_ne (u := hN (S.sz t - 1) u n) (v := 0) rfl nI_0.symm (by omega) (by omega) (fun h7 => ?_) (fun h7 => ?_)
  rotate_left
  · obtain ⟨e1, e2⟩ := bad (-13) (by decide) (by unfold mvN; rw [if_neg (by omega), if_pos h5, if_neg (by omega)])
    rw [e1, e2]
    refine mjT_go 1 (pc' := 80) (L' := [some (.ref 0), some (.int (nI s)), some (.int y), some (.int (nI t)), some (.int u), some (.int n), none]) (st' := [.int (-13)]) (w1 := (KM, I, J, GM)) rfl ?_
    refine mjT_ret rfl rfl rfl ?_
    exact ⟨rfl, _, _, rfl, hM⟩
  have e0 : mvN S s t y u n = nI 0 := by unfold mvN; rw [if_neg (by omega), if_pos h5, if_pos (by omega)]
  rw [e0, if_neg (show ¬ nI 0 < 0 by decide), if_neg (show ¬ nI 0 < 0 by decide)]
  obtain ⟨a, m, rfl, rfl, hba, ha31, hm31⟩ := hN_1 (show hN (S.sz s - 1) y n = 1 by omega)
  obtain ⟨b, m2, rfl, hm2, hbb, hb31, hm231⟩ := hN_1 (show hN (S.sz t - 1) u (nI m) = 1 by omega)
  obtain rfl : m = m2 := (nI_eq hm31 hm231).mp hm2
  rw [nn_N ha31, nn_N hb31, nn_N hm31]
  refine mjT_go 2 (pc' := 84) (L' := [some (.ref 0), some (.int (nI s)), some (.int (nI a)), some (.int (nI t)), some (.int (nI b)), some (.int (nI m)), some (.int (nI 0))]) (st' := []) (w1 := (KM, I, J, GM)) rfl ?_
  refine mj_loop (fun k L w => ∃ J', L = [some (.ref 0), some (.int (nI s)), some (.int (nI a)), some (.int (nI t)), some (.int (nI b)), some (.int (nI m)), some (.int (nI k))] ∧ w = (KM, I, J', GM) ∧ (∀ j, j < k → J' 8 j = S.it s (a + j)) ∧ J' 5 = J 5) m (k0 := 0) (Nat.zero_le _) ?_ ?_ ?_
  · exact ⟨_, rfl, rfl, fun _ h => absurd h (by omega), rfl⟩
  · rintro k _ _ hk ⟨J2, rfl, rfl, g1, g2⟩ hc
    refine mjT_go 3 (pc' := if nI m ≤ nI k then 118 else 91) (L' := [some (.ref 0), some (.int (nI s)), some (.int (nI a)), some (.int (nI t)), some (.int (nI b)), some (.int (nI m)), some (.int (nI k))]) (st' := []) (w1 := (KM, I, J2, GM)) rfl ?_
    refine mjT_ifF (nI_ge (by omega) (by omega)) ?_
    refine mjT_go 12 (pc' := 110) (L' := [some (.ref 0), some (.int (nI s)), some (.int (nI a)), some (.int (nI t)), some (.int (nI b)), some (.int (nI m)), some (.int (nI k))]) (st' := [.int ((((nI 24) * (nI s)) + (nI a)) + (nI k)), .ref 5, .int (nI k), .ref 8]) (w1 := (KM, I, J2, GM)) rfl ?_
    refine mjT_lal (v := S.it s (a + k)) (((24 * s) + a) + k) 96 rfl (pc' := 111) rfl rfl (by simp only [nI_add, pk_mul]) (by omega) (by omega) (mo_at (show J2 5 (24 * s + a + k) = S.it s (a + k) from ((congrFun g2 _).trans (mo_at (hM.it s (by omega) (a + k) (by omega)) rfl (by omega)))) (by omega) (by omega)) ?_
    obtain ⟨V1, eV1⟩ : ∃ z, z = mj_row J2 8 (va_up (J2 8) k (S.it s (a + k))) := ⟨_, rfl⟩
    refine mjT_las (J' := V1) k 24 rfl (pc' := 112) rfl rfl rfl (by omega) (by omega) eV1.symm ?_
    refine mjT_go 2 (pc' := 84) (L' := [some (.ref 0), some (.int (nI s)), some (.int (nI a)), some (.int (nI t)), some (.int (nI b)), some (.int (nI m)), some (.int ((nI k) + (nI 1)))]) (st' := []) (w1 := (KM, I, V1, GM)) rfl ?_
    rw [nI_add]
    refine hc _ _ ⟨_, rfl, rfl, fun j hj => ?_, (jt_h eV1 (by omega)).trans g2⟩
    by_cases e : j = k
    · subst e; exact jt_at eV1
    · exact (jt_ne eV1 e).trans (g1 j (by omega))
  · rintro _ _ ⟨J2, rfl, rfl, g1, g2⟩
    refine mjT_go 3 (pc' := if nI m ≤ nI m then 118 else 91) (L' := [some (.ref 0), some (.int (nI s)), some (.int (nI a)), some (.int (nI t)), some (.int (nI b)), some (.int (nI m)), some (.int (nI m))]) (st' := []) (w1 := (KM, I, J2, GM)) rfl ?_
    refine mjT_ifT (Int32.le_refl _) ?_
    refine mjT_go 2 (pc' := 121) (L' := [some (.ref 0), some (.int (nI s)), some (.int (nI a)), some (.int (nI t)), some (.int (nI b)), some (.int (nI m)), some (.int (nI 0))]) (st' := []) (w1 := (KM, I, J2, GM)) rfl ?_
    refine mj_loop (fun k L w => ∃ J', L = [some (.ref 0), some (.int (nI s)), some (.int (nI a)), some (.int (nI t)), some (.int (nI b)), some (.int (nI m)), some (.int (nI k))] ∧ w = (KM, I, J', GM) ∧ (∀ j, j < k → J' 5 (24 * t + b + j) = S.it s (a + j)) ∧ (∀ c, (c < 24 * t + b ∨ 24 * t + b + m ≤ c) → J' 5 c = J 5 c) ∧ J' 8 = J2 8) m (k0 := 0) (Nat.zero_le _) ?_ ?_ ?_
    · exact ⟨_, rfl, rfl, fun _ h => absurd h (by omega), fun _ _ => congrFun g2 _, rfl⟩
    · rintro k _ _ hk ⟨J3, rfl, rfl, k1, k2, k3⟩ hc
      refine mjT_go 3 (pc' := if nI m ≤ nI k then 156 else 128) (L' := [some (.ref 0), some (.int (nI s)), some (.int (nI a)), some (.int (nI t)), some (.int (nI b)), some (.int (nI m)), some (.int (nI k))]) (st' := []) (w1 := (KM, I, J3, GM)) rfl ?_
      refine mjT_ifF (nI_ge (by omega) (by omega)) ?_
      refine mjT_go 12 (pc' := 148) (L' := [some (.ref 0), some (.int (nI s)), some (.int (nI a)), some (.int (nI t)), some (.int (nI b)), some (.int (nI m)), some (.int (nI k))]) (st' := [.int (nI k), .ref 8, .int ((((nI 24) * (nI t)) + (nI b)) + (nI k)), .ref 5]) (w1 := (KM, I, J3, GM)) rfl ?_
      refine mjT_lal (v := S.it s (a + k)) k 24 rfl (pc' := 149) rfl rfl rfl (by omega) (by omega) (show J3 8 k = S.it s (a + k) from ((congrFun k3 _).trans (g1 k hk))) ?_
      obtain ⟨V2, eV2⟩ : ∃ z, z = mj_row J3 5 (va_up (J3 5) (((24 * t) + b) + k) (S.it s (a + k))) := ⟨_, rfl⟩
      refine mjT_las (J' := V2) (((24 * t) + b) + k) 96 rfl (pc' := 150) rfl rfl (by simp only [nI_add, pk_mul]) (by omega) (by omega) eV2.symm ?_
      refine mjT_go 2 (pc' := 121) (L' := [some (.ref 0), some (.int (nI s)), some (.int (nI a)), some (.int (nI t)), some (.int (nI b)), some (.int (nI m)), some (.int ((nI k) + (nI 1)))]) (st' := []) (w1 := (KM, I, V2, GM)) rfl ?_
      rw [nI_add]
      refine hc _ _ ⟨_, rfl, rfl, fun j hj => ?_, fun c hcc => (jt_ne eV2 (by omega)).trans (k2 c hcc), (jt_h eV2 (by omega)).trans k3⟩
      by_cases e : j = k
      · subst e; exact jt_at eV2
      · exact (jt_ne eV2 (by omega)).trans (k1 j (by omega))
    · rintro _ _ ⟨J3, rfl, rfl, k1, k2, k3⟩
      refine mjT_go 3 (pc' := if nI m ≤ nI m then 156 else 128) (L' := [some (.ref 0), some (.int (nI s)), some (.int (nI a)), some (.int (nI t)), some (.int (nI b)), some (.int (nI m)), some (.int (nI m))]) (st' := []) (w1 := (KM, I, J3, GM)) rfl ?_
      refine mjT_ifT (Int32.le_refl _) ?_
      refine mjT_go 1 (pc' := 158) (L' := [some (.ref 0), some (.int (nI s)), some (.int (nI a)), some (.int (nI t)), some (.int (nI b)), some (.int (nI m)), some (.int (nI m))]) (st' := [.int (nI m)]) (w1 := (KM, I, J3, GM)) rfl ?_
      refine mjT_ret rfl rfl rfl ?_
      refine ⟨rfl, _, _, rfl, hM.o, hM.past, hM.im, hM.io, hM.tl, hM.tp, hM.ln, hM.sz, fun c hc j hj => ?_⟩
      show J3 5 (24 * c + j) = (if c = t ∧ b ≤ j ∧ j < b + m then S.it s (a + (j - b)) else S.it c j)
      by_cases e : c = t ∧ b ≤ j ∧ j < b + m
      · rw [if_pos e]
        obtain ⟨rfl, e1, e2⟩ := e
        exact mo_at (k1 (j - b) (by omega)) rfl (by omega)
      · rw [if_neg e, k2 _ (by omega)]; exact hM.it c hc j hj
theorem sim_copy {x y z u n : Int32} : SimO 107 212 [.int x, .int y, .int z, .int u, .int n] := fun S _ _ _ _ hV hC hM => ⟨_, _, vs_copy hV, cc_copy hV hC, mm_copy hV hM⟩
end SD
