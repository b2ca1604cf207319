theorem ro_cong {I I' : Nat → Nat → Int32} {o : Nat} {O : Off} {P : Nat → Prop} (hO : RO I o O P) (h : ∀ k, k < 8 → I' (o + k) = I (o + k)) : RO I' o O P := by
  have h0 : I' o = I o := h 0 (by omega)
  refine ⟨?_, ?_, ?_, ?_, ?_, ?_, ?_, ?_, ?_, ?_, ?_, ?_⟩
  · rw [h0]; exact hO.n
  · rw [h0]; exact hO.dry
  · rw [h0]; exact hO.wet
  · rw [h0]; exact hO.las
  · rw [h0]; exact hO.draw
  · rw [h 1 (by omega)]; exact hO.day
  · rw [h 4 (by omega)]; exact hO.kind
  · rw [h 5 (by omega)]; exact hO.str
  · rw [h 6 (by omega)]; exact hO.own
  · rw [h 7 (by omega)]; exact hO.sit
  · rw [h 2 (by omega)]; exact hO.wr
  · rw [h 3 (by omega)]; exact hO.till
theorem wa_cong {I I' : Nat → Nat → Int32} {o : Nat} {O : Off} {P : Nat → Prop} {m : Nat} {ws : Nat → Nat} (hW : WA I o O P m ws) (h0 : I' o = I o) (h8 : I' (o + 8) = I (o + 8)) (h9 : I' (o + 9) = I (o + 9)) : WA I' o O P m ws := by
  refine ⟨by rw [h0]; exact hW.m, hW.m7, by rw [h8]; exact hW.ws, hW.all, by rw [h9]; exact hW.mod, hW.cl⟩
section F1
variable {I : Nat → Nat → Int32} {J : Nat → Nat → Int64} {o : Nat} {O : Off} {P : Nat → Prop}
theorem go_n (O : Off) : ∀ k, (goO O k).n = O.n
  | 0 => rfl
  | k + 1 => go_n O k
/-- what following leaves -/
abbrev FrF (I I' : Nat → Nat → Int32) (o : Nat) : Prop := ∀ h, h ≠ o + 1 → h ≠ o + 2 → h ≠ o + 3 → h ≠ o + 10 → h ≠ 96 → I' h = I h
theorem c_follow {m : Nat} {ws : Nat → Nat} (hV : VO O) (hG : OfG o) (ho : o + 10 < 96) (hO : RO I o O P) (hW : WA I o O P m ws) {n : Nat} (hn60 : n ≤ 60) (hnn : O.day + n ≤ 20000) {p : Nat} (hp : p < O.n) (hP : P p) : mj_E 35 [.ref o, .int (nI p), .int (nI n), .ref 96] (KC, I, J, GC) (fun w' r => r = none ∧ ∃ I', w' = (KC, I', J, GC) ∧ (∀ j, j ≤ n → I' 96 j = nI (rw6 ((goO O j).wr p))) ∧ FrF I I' o) := by
  have hn := hV.n
  refine mjT_gen fun Q hQ => ?_
  refine mjT_go 2 (pc' := 3) (L' := [some (.ref o), some (.int (nI p)), some (.int (nI n)), some (.ref 96), some (.int (nI 0))]) (st' := []) (w1 := (KC, I, J, GC)) rfl ?_
  refine mj_loop (fun k L w => ∃ I', L = [some (.ref o), some (.int (nI p)), some (.int (nI n)), some (.ref 96), some (.int (nI k))] ∧ w = (KC, I', J, GC) ∧ RO I' o (goO O (k - 1)) P ∧ WA I' o (goO O (k - 1)) P m ws ∧ (∀ j, j < k → I' 96 j = nI (rw6 ((goO O j).wr p))) ∧ FrF I I' o) (n + 1) (k0 := 0) (Nat.zero_le _) ?_ ?_ ?_
  · exact ⟨_, rfl, rfl, hO, hW, fun _ h => absurd h (by omega), fun _ _ _ _ _ _ => rfl⟩
  · rintro k _ _ hk ⟨I1, rfl, rfl, hO1, hW1, hal, hf1⟩ hc
    have step : ∀ I2, RO I2 o (goO O k) P → WA I2 o (goO O k) P m ws → (∀ j, j < k → I2 96 j = nI (rw6 ((goO O j).wr p))) → FrF I I2 o → mj_To 35 30 [some (.ref o), some (.int (nI p)), some (.int (nI n)), some (.ref 96), some (.int (nI k))] [] (KC, I2, J, GC) Q := by
      intro I2 hO2 hW2 hal2 hf2
      refine mjT_go 3 (pc' := 34) (L' := [some (.ref o), some (.int (nI p)), some (.int (nI n)), some (.ref 96), some (.int (nI k))]) (st' := [.ref o, .int (nI k), .ref 96]) (w1 := (KC, I2, J, GC)) rfl ?_
      refine mjT_gfr (h' := (o + 1)) rfl (pc' := 37) rfl hG.k0 hG.r1 ?_
      refine mjT_gfr (h' := (o + 2)) rfl (pc' := 40) rfl hG.k1 hG.r2 ?_
      refine mjT_go 1 (pc' := 41) (L' := [some (.ref o), some (.int (nI p)), some (.int (nI n)), some (.ref 96), some (.int (nI k))]) (st' := [.int (nI p), .ref (o + 2), .int (nI k), .ref 96]) (w1 := (KC, I2, J, GC)) rfl ?_
      refine mjT_ial (v := nI (rw6 ((goO O k).wr p))) p 7 rfl (pc' := 42) rfl hG.k2 rfl (by omega) (by omega) (hO2.wr p (by rw [go_n]; exact hp) hP) ?_
      obtain ⟨V1, eV1⟩ : ∃ z, z = mj_row I2 96 (va_up (I2 96) k (nI (rw6 ((goO O k).wr p)))) := ⟨_, rfl⟩
      refine mjT_ias (I' := V1) k 61 rfl (pc' := 43) rfl rfl rfl (by omega) (by omega) eV1.symm ?_
      refine mjT_go 2 (pc' := 3) (L' := [some (.ref o), some (.int (nI p)), some (.int (nI n)), some (.ref 96), some (.int ((nI k) + (nI 1)))]) (st' := []) (w1 := (KC, V1, J, GC)) rfl ?_
      rw [nI_add]
      refine hc _ _ ⟨_, rfl, rfl, ?_, ?_, fun j hj => ?_, fun h h1 h2 h3 h4 h5 => by rw [st_h eV1 h5]; exact hf2 h h1 h2 h3 h4 h5⟩
      · exact ro_cong hO2 (fun j hj => st_h eV1 (by omega))
      · exact wa_cong hW2 (st_h eV1 (by omega)) (st_h eV1 (by omega)) (st_h eV1 (by omega))
      · by_cases e : j = k
        · subst e; exact st_at eV1
        · rw [st_ne eV1 e]; exact hal2 j (by omega)
    refine mjT_go 3 (pc' := if nI n < nI k then 49 else 9) (L' := [some (.ref o), some (.int (nI p)), some (.int (nI n)), some (.ref 96), some (.int (nI k))]) (st' := []) (w1 := (KC, I1, J, GC)) rfl ?_
    refine mjT_ifF (nI_nlt (by omega) (by omega)) ?_
    refine mjT_go 4 (pc' := if nI 61 ≤ nI k then 49 else 16) (L' := [some (.ref o), some (.int (nI p)), some (.int (nI n)), some (.ref 96), some (.int (nI k))]) (st' := []) (w1 := (KC, I1, J, GC)) rfl ?_
    refine mjT_ifF (nI_ge (by omega) (by omega)) ?_
    refine mjT_go 2 (pc' := if nI k ≤ 0 then 30 else 21) (L' := [some (.ref o), some (.int (nI p)), some (.int (nI n)), some (.ref 96), some (.int (nI k))]) (st' := []) (w1 := (KC, I1, J, GC)) rfl ?_
    refine mjT_if (fun h0 => ?_) (fun h0 => ?_)
    · have hk0 : k = 0 := by
        rcases Nat.eq_zero_or_pos k with h | h
        · exact h
        · exact absurd h0 (nI_nle h (by omega))
      subst hk0
      exact step I1 hO1 hW1 hal hf1
    · obtain ⟨j, rfl⟩ : ∃ j, k = j + 1 := ⟨k - 1, by
        have : k ≠ 0 := fun e => h0 (by rw [e, nI_0]; exact Int32.le_refl _)
        omega⟩
      rw [Nat.add_sub_cancel] at hO1 hW1
      have hV1 := v_go hV j (by omega)
      refine mjT_go 2 (pc' := 23) (L' := [some (.ref o), some (.int (nI p)), some (.int (nI n)), some (.ref 96), some (.int (nI (j + 1)))]) (st' := [.ref o, .ref o]) (w1 := (KC, I1, J, GC)) rfl ?_
      refine mjT_callE (as := [.ref o]) (rest := [.ref o]) (r1 := some (.int (nI (wetN (goO O j))))) rfl rfl rfl (mj_callI rfl rfl hG.k0) rfl ⟨rfl, rfl⟩ (c_isWet hV1 hG hO1) ?_
      refine mjT_call (as := [.ref o, .int (nI (wetN (goO O j)))]) (rest := []) rfl rfl rfl (mj_callI rfl rfl hG.k0) rfl ⟨rfl, rfl⟩ (c_passDay hV1 hG hO1 hW1 (wetN_lt _)) ?_
      rintro _ _ ⟨rfl, I2, rfl, hO2, hf2⟩
      refine mjT_go 1 (pc' := 30) (L' := [some (.ref o), some (.int (nI p)), some (.int (nI n)), some (.ref 96), some (.int (nI (j + 1)))]) (st' := []) (w1 := (KC, I2, J, GC)) rfl ?_
      exact step I2 hO2 (wa_pass hW1 hf2 _) (fun i hi => by rw [hf2 _ (by omega) (by omega) (by omega) (by omega)]; exact hal i hi) (fun h h1 h2 h3 h4 h5 => (hf2 h h1 h2 h3 h4).trans (hf1 h h1 h2 h3 h4 h5))
  · rintro _ _ ⟨I1, rfl, rfl, hO1, hW1, hal, hf1⟩
    refine mjT_go 3 (pc' := if nI n < nI (n + 1) then 49 else 9) (L' := [some (.ref o), some (.int (nI p)), some (.int (nI n)), some (.ref 96), some (.int (nI (n + 1)))]) (st' := []) (w1 := (KC, I1, J, GC)) rfl ?_
    refine mjT_ifT (nI_lt (by omega) (by omega)) ?_
    refine mjT_ret rfl rfl rfl ?_
    exact hQ _ _ ⟨rfl, _, rfl, fun j hj => hal j (by omega), hf1⟩
end F1
