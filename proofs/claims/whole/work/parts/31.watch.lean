/-! who is watched -/
def abN (O : Off) (s : Nat) : Nat → Nat
  | 0 => 0
  | q + 1 => abN O s q + if s < O.str q then 1 else 0
theorem abN_mono (O : Off) {s s' : Nat} (h : s ≤ s') : ∀ q, abN O s' q ≤ abN O s q
  | 0 => Nat.le_refl _
  | q + 1 => by have := abN_mono O h q; unfold abN; split <;> split <;> omega
theorem abN_lt (O : Off) {s m : Nat} (h : s < O.str m) : ∀ q, m < q → abN O (O.str m) q + 1 ≤ abN O s q
  | 0, h => absurd h (by omega)
  | q + 1, hq => by
    unfold abN
    by_cases e : m = q
    · subst e
      have := abN_mono O (Nat.le_of_lt h) m
      rw [if_neg (by omega), if_pos h]; omega
    · have := abN_lt O h q (by omega)
      split <;> split <;> omega
theorem abN_n (O : Off) {p : Nat} : ∀ q, abN O (O.str p) q ≤ q ∧ (p < q → abN O (O.str p) q + 1 ≤ q)
  | 0 => ⟨Nat.le_refl _, fun h => absurd h (by omega)⟩
  | q + 1 => by
    obtain ⟨h1, h2⟩ := abN_n O (p := p) q
    unfold abN
    refine ⟨by split <;> omega, fun h => ?_⟩
    by_cases e : p = q
    · subst e; rw [if_neg (by omega)]; omega
    · have := h2 (by omega)
      split <;> omega
theorem model_str {O : Off} {p m : Nat} (h : modelN O p = m + 1) : m < O.n ∧ O.str p < O.str m := by
  unfold modelN at h
  split at h
  · cases h
  · have := (looks_char O p O.n).2 m h
    exact ⟨this.1, this.2.1.2.2⟩
/-- the chain of models from p on; none 0 -/
def chW (O : Off) (p : Nat) : Nat → Nat
  | 0 => p + 1
  | k + 1 => if chW O p k = 0 then 0 else modelN O (chW O p k - 1)
def PcN (O : Off) (p q : Nat) : Prop := ∃ j, chW O p j = q + 1
theorem chW_lt {O : Off} {p : Nat} (hp : p < O.n) : ∀ {k q}, chW O p k = q + 1 → q < O.n ∧ abN O (O.str q) O.n + k + 1 ≤ O.n
  | 0, q, h => by
    have : p = q := by unfold chW at h; omega
    subst this
    exact ⟨hp, by have := (abN_n O (p := p) O.n).2 hp; omega⟩
  | k + 1, q, h => by
    unfold chW at h
    by_cases z : chW O p k = 0
    · rw [if_pos z] at h; cases h
    · rw [if_neg z] at h
      have h1 := model_str h
      have h2 := chW_lt hp (k := k) (q := chW O p k - 1) (by omega)
      have h3 := abN_lt O h1.2 O.n h1.1
      exact ⟨h1.1, by omega⟩
theorem chW_z (O : Off) (p : Nat) {m : Nat} (h : chW O p m = 0) : ∀ d, chW O p (m + d) = 0
  | 0 => h
  | d + 1 => if_pos (chW_z O p h d)
theorem chW_7 {O : Off} (hV : VO O) {p : Nat} (hp : p < O.n) : chW O p 7 = 0 := by
  have hn := hV.n
  rcases Nat.eq_zero_or_pos (chW O p 7) with h | h
  · exact h
  · have := (chW_lt hp (k := 7) (q := chW O p 7 - 1) (by omega)).2
    omega
section W1
variable {I : Nat → Nat → Int32} {J : Nat → Nat → Int64} {o : Nat} {O : Off} {P : Nat → Prop}
/-- what watching leaves -/
abbrev FrW (I I' : Nat → Nat → Int32) (o : Nat) : Prop := (∀ h, h ≠ o → h ≠ o + 8 → h ≠ o + 9 → I' h = I h) ∧ ∀ j, j ≠ 10 → I' o j = I o j
theorem ro_watch {I I' : Nat → Nat → Int32} (hO : RO I o O P) (hf : FrW I I' o) : RO I' o O P := by
  obtain ⟨h1, h2⟩ := hf
  refine ⟨?_, ?_, ?_, ?_, ?_, ?_, ?_, ?_, ?_, ?_, ?_, ?_⟩
  · rw [h2 _ (by omega)]; exact hO.n
  · rw [h2 _ (by omega)]; exact hO.dry
  · rw [h2 _ (by omega)]; exact hO.wet
  · rw [h2 _ (by omega)]; exact hO.las
  · rw [h2 _ (by omega)]; exact hO.draw
  · rw [h1 _ (by omega) (by omega) (by omega)]; exact hO.day
  · rw [h1 _ (by omega) (by omega) (by omega)]; exact hO.kind
  · rw [h1 _ (by omega) (by omega) (by omega)]; exact hO.str
  · rw [h1 _ (by omega) (by omega) (by omega)]; exact hO.own
  · rw [h1 _ (by omega) (by omega) (by omega)]; exact hO.sit
  · rw [h1 _ (by omega) (by omega) (by omega)]; exact hO.wr
  · rw [h1 _ (by omega) (by omega) (by omega)]; exact hO.till
theorem ro_P {P' : Nat → Prop} (hO : RO I o O P) (h : ∀ p, P' p → P p) : RO I o O P' := ⟨hO.n, hO.dry, hO.wet, hO.las, hO.draw, hO.day, hO.kind, hO.str, hO.own, hO.sit, fun p hp hP => hO.wr p hp (h p hP), fun p hp hP => hO.till p hp (h p hP)⟩
theorem c_watchOnly (hV : VO O) (hG : OfG o) (hO : RO I o O P) {p : Nat} (hp : p < O.n) : mj_E 28 [.ref o, .int (nI p)] (KC, I, J, GC) (fun w' r => r = none ∧ ∃ I' m, w' = (KC, I', J, GC) ∧ FrW I I' o ∧ WA I' o O (PcN O p) m (fun k => chW O p k - 1) ∧ chW O p m = 0 ∧ ∀ j, j < m → chW O p j ≠ 0) := by
  have hn := hV.n
  refine mjT_gen fun Q hQ => ?_
  have tail : ∀ (I2 : Nat → Nat → Int32) (k : Nat), k ≤ 7 → FrW I I2 o → I2 o 10 = nI k → (∀ j, j < k → chW O p j ≠ 0 ∧ I2 (o + 8) j = nI (chW O p j - 1) ∧ I2 (o + 9) (chW O p j - 1) = sI (modelN O (chW O p j - 1))) → chW O p k = 0 → Q (KC, I2, J, GC) none := by
    intro I2 k hk hf h10 hal hz
    have hlt : ∀ j q, chW O p j = q + 1 → j < k := fun j q h => Decidable.byContradiction fun c => by
      have := chW_z O p hz (j - k)
      rw [show k + (j - k) = j by omega] at this
      omega
    refine hQ _ _ ⟨rfl, I2, k, rfl, hf, ⟨h10, hk, fun j hj => ?_, fun q hq hP => ?_, fun q hq hP => ?_, fun q hq hP hm => ?_⟩, hz, fun j hj => (hal j hj).1⟩
    · obtain ⟨a, b, c⟩ := hal j hj
      exact ⟨b, (chW_lt hp (k := j) (q := chW O p j - 1) (by omega)).1, j, (show chW O p j = chW O p j - 1 + 1 by omega)⟩
    · obtain ⟨j, hj⟩ := hP
      exact ⟨j, hlt j q hj, by show chW O p j - 1 = q; omega⟩
    · obtain ⟨j, hj⟩ := hP
      have := (hal j (hlt j q hj)).2.2
      rw [hj, Nat.add_sub_cancel] at this
      exact this
    · obtain ⟨j, hj⟩ := hP
      refine ⟨j + 1, ?_⟩
      show (if chW O p j = 0 then 0 else modelN O (chW O p j - 1)) = _
      rw [hj, if_neg (by omega), Nat.add_sub_cancel]
      omega
  refine mjT_go 2 (pc' := 2) (L' := [some (.ref o), some (.int (nI p)), none, none]) (st' := [.int (nI 0), .ref o]) (w1 := (KC, I, J, GC)) rfl ?_
  obtain ⟨V1, eV1⟩ : ∃ z, z = mj_row I o (va_up (I o) 10 (nI 0)) := ⟨_, rfl⟩
  refine mjT_pfi (I' := V1) rfl (pc' := 5) rfl hG.k0 eV1.symm ?_
  refine mjT_go 4 (pc' := 9) (L' := [some (.ref o), some (.int (nI p)), some (.int (nI p)), some (.int (nI 0))]) (st' := []) (w1 := (KC, V1, J, GC)) rfl ?_
  refine mj_loop (fun k L w => ∃ I', L = [some (.ref o), some (.int (nI p)), some (.int (sI (chW O p k))), some (.int (nI k))] ∧ w = (KC, I', J, GC) ∧ FrW I I' o ∧ I' o 10 = nI k ∧ ∀ j, j < k → chW O p j ≠ 0 ∧ I' (o + 8) j = nI (chW O p j - 1) ∧ I' (o + 9) (chW O p j - 1) = sI (modelN O (chW O p j - 1))) 7 (k0 := 0) (Nat.zero_le _) ?_ ?_ ?_
  · exact ⟨_, rfl, rfl, ⟨fun h h1 _ _ => st_h eV1 h1, fun j hj => st_ne eV1 hj⟩, st_at eV1, fun _ h => absurd h (by omega)⟩
  · rintro k _ _ hk ⟨I1, rfl, rfl, hf1, h10, hal⟩ hc
    have hO1 := ro_watch hO hf1
    obtain hz | ⟨q, hq⟩ : chW O p k = 0 ∨ ∃ q, chW O p k = q + 1 := by
      rcases Nat.eq_zero_or_pos (chW O p k) with h | h
      · exact Or.inl h
      · exact Or.inr ⟨chW O p k - 1, by omega⟩
    · rw [hz]
      refine mjT_go 3 (pc' := if nI 7 ≤ nI k then 61 else 15) (L' := [some (.ref o), some (.int (nI p)), some (.int (sI 0)), some (.int (nI k))]) (st' := []) (w1 := (KC, I1, J, GC)) rfl ?_
      refine mjT_ifF (nI_ge (by omega) (by omega)) ?_
      refine mjT_go 2 (pc' := 17) (L' := [some (.ref o), some (.int (nI p)), some (.int (sI 0)), some (.int (nI k))]) (st' := [.int (sI 0), .ref o]) (w1 := (KC, I1, J, GC)) rfl ?_
      refine mjT_callE (as := [.ref o, .int (sI 0)]) (rest := []) (r1 := some (.int (nI 0))) rfl rfl rfl (mj_callI rfl rfl hG.k0) rfl ⟨rfl, rfl⟩ (by have h := c_has hV hG hO1 (J := J) (x := sI 0); rw [iP_s (by omega) hn, if_pos rfl] at h; exact h) ?_
      refine mjT_go 1 (pc' := if nI 0 = 0 then 61 else 23) (L' := [some (.ref o), some (.int (nI p)), some (.int (sI 0)), some (.int (nI k))]) (st' := []) (w1 := (KC, I1, J, GC)) rfl ?_
      refine mjT_ifT nI_0 ?_
      refine mjT_ret rfl rfl rfl ?_
      exact tail I1 k (by omega) hf1 h10 hal hz
    · have hqn := (chW_lt hp hq).1
      rw [hq, sI_s]
      refine mjT_go 3 (pc' := if nI 7 ≤ nI k then 61 else 15) (L' := [some (.ref o), some (.int (nI p)), some (.int (nI q)), some (.int (nI k))]) (st' := []) (w1 := (KC, I1, J, GC)) rfl ?_
      refine mjT_ifF (nI_ge (by omega) (by omega)) ?_
      refine mjT_go 2 (pc' := 17) (L' := [some (.ref o), some (.int (nI p)), some (.int (nI q)), some (.int (nI k))]) (st' := [.int (nI q), .ref o]) (w1 := (KC, I1, J, GC)) rfl ?_
      refine mjT_callE (as := [.ref o, .int (nI q)]) (rest := []) (r1 := some (.int (nI 1))) rfl rfl rfl (mj_callI rfl rfl hG.k0) rfl ⟨rfl, rfl⟩ (by have h := c_has hV hG hO1 (J := J) (x := sI (q + 1)); rw [iP_s (by omega) hn, if_neg (by omega)] at h; exact h) ?_
      refine mjT_go 1 (pc' := if nI 1 = 0 then 61 else 23) (L' := [some (.ref o), some (.int (nI p)), some (.int (nI q)), some (.int (nI k))]) (st' := []) (w1 := (KC, I1, J, GC)) rfl ?_
      refine mjT_ifF (by decide) ?_
      refine mjT_go 1 (pc' := 24) (L' := [some (.ref o), some (.int (nI p)), some (.int (nI q)), some (.int (nI k))]) (st' := [.ref o]) (w1 := (KC, I1, J, GC)) rfl ?_
      refine mjT_gfr (h' := (o + 8)) rfl (pc' := 27) rfl hG.k0 hG.r8 ?_
      refine mjT_go 2 (pc' := 29) (L' := [some (.ref o), some (.int (nI p)), some (.int (nI q)), some (.int (nI k))]) (st' := [.int (nI q), .int (nI k), .ref (o + 8)]) (w1 := (KC, I1, J, GC)) rfl ?_
      obtain ⟨V2, eV2⟩ : ∃ z, z = mj_row I1 (o + 8) (va_up (I1 (o + 8)) k (nI q)) := ⟨_, rfl⟩
      refine mjT_ias (I' := V2) k 7 rfl (pc' := 30) rfl hG.k8 rfl (by omega) (by omega) eV2.symm ?_
      have hO2 : RO V2 o O P := ro_watch hO1 ⟨fun h _ h8 _ => st_h eV2 h8, fun j _ => by rw [st_h eV2 (by omega)]⟩
      refine mjT_go 1 (pc' := 31) (L' := [some (.ref o), some (.int (nI p)), some (.int (nI q)), some (.int (nI k))]) (st' := [.ref o]) (w1 := (KC, V2, J, GC)) rfl ?_
      refine mjT_gfr (h' := (o + 9)) rfl (pc' := 34) rfl hG.k0 hG.r9 ?_
      refine mjT_go 3 (pc' := 37) (L' := [some (.ref o), some (.int (nI p)), some (.int (nI q)), some (.int (nI k))]) (st' := [.int (nI q), .ref o, .int (nI q), .ref (o + 9)]) (w1 := (KC, V2, J, GC)) rfl ?_
      refine mjT_callE (as := [.ref o, .int (nI q)]) (rest := [.int (nI q), .ref (o + 9)]) (r1 := some (.int (sI (modelN O q)))) rfl rfl rfl (mj_callI rfl rfl hG.k0) rfl ⟨rfl, rfl⟩ (c_modelOf hV hG hO2 hqn) ?_
      obtain ⟨V3, eV3⟩ : ∃ z, z = mj_row V2 (o + 9) (va_up (V2 (o + 9)) q (sI (modelN O q))) := ⟨_, rfl⟩
      refine mjT_ias (I' := V3) q 7 rfl (pc' := 41) rfl hG.k9 rfl (by omega) (by omega) eV3.symm ?_
      refine mjT_go 4 (pc' := 45) (L' := [some (.ref o), some (.int (nI p)), some (.int (nI q)), some (.int (nI k))]) (st' := [.int ((nI k) + (nI 1)), .ref o]) (w1 := (KC, V3, J, GC)) rfl ?_
      obtain ⟨V4, eV4⟩ : ∃ z, z = mj_row V3 o (va_up (V3 o) 10 ((nI k) + (nI 1))) := ⟨_, rfl⟩
      refine mjT_pfi (I' := V4) rfl (pc' := 48) rfl hG.k0 eV4.symm ?_
      refine mjT_go 1 (pc' := 49) (L' := [some (.ref o), some (.int (nI p)), some (.int (nI q)), some (.int (nI k))]) (st' := [.ref o]) (w1 := (KC, V4, J, GC)) rfl ?_
      refine mjT_gfr (h' := (o + 9)) rfl (pc' := 52) rfl hG.k0 hG.r9 ?_
      refine mjT_go 1 (pc' := 53) (L' := [some (.ref o), some (.int (nI p)), some (.int (nI q)), some (.int (nI k))]) (st' := [.int (nI q), .ref (o + 9)]) (w1 := (KC, V4, J, GC)) rfl ?_
      refine mjT_ial (v := sI (modelN O q)) q 7 rfl (pc' := 54) rfl hG.k9 rfl (by omega) (by omega) ((by rw [st_h eV4 (by omega)]; exact st_at eV3)) ?_
      refine mjT_go 3 (pc' := 9) (L' := [some (.ref o), some (.int (nI p)), some (.int (sI (modelN O q))), some (.int ((nI k) + (nI 1)))]) (st' := []) (w1 := (KC, V4, J, GC)) rfl ?_
      rw [nI_add, show sI (modelN O q) = sI (chW O p (k + 1)) by unfold chW; rw [hq, if_neg (by omega), Nat.add_sub_cancel]]
      refine hc _ _ ⟨_, rfl, rfl, ⟨fun h h1 h2 h3 => ?_, fun j hj => ?_⟩, ?_, fun j hj => ?_⟩
      · rw [st_h eV4 h1, st_h eV3 h3, st_h eV2 h2]; exact hf1.1 h h1 h2 h3
      · rw [st_ne eV4 hj, st_h eV3 (by omega), st_h eV2 (by omega)]; exact hf1.2 j hj
      · rw [st_at eV4, nI_add]
      · rw [st_h eV4 (by omega), st_h eV4 (by omega), st_h eV3 (by omega)]
        by_cases e : j = k
        · subst e
          rw [hq, Nat.add_sub_cancel]
          exact ⟨by omega, st_at eV2, st_at eV3⟩
        · obtain ⟨a, b, c⟩ := hal j (by omega)
          refine ⟨a, by rw [st_ne eV2 e]; exact b, ?_⟩
          by_cases e2 : chW O p j - 1 = q
          · rw [e2]; exact st_at eV3
          · rw [st_ne eV3 e2, st_h eV2 (by omega)]; exact c
  · rintro _ _ ⟨I1, rfl, rfl, hf1, h10, hal⟩
    refine mjT_go 3 (pc' := if nI 7 ≤ nI 7 then 61 else 15) (L' := [some (.ref o), some (.int (nI p)), some (.int (sI (chW O p 7))), some (.int (nI 7))]) (st' := []) (w1 := (KC, I1, J, GC)) rfl ?_
    refine mjT_ifT (Int32.le_refl _) ?_
    refine mjT_ret rfl rfl rfl ?_
    exact tail I1 7 (by omega) hf1 h10 hal (chW_7 hV hp)
theorem c_watchAll (hV : VO O) (hG : OfG o) (hO : RO I o O P) : mj_E 27 [.ref o] (KC, I, J, GC) (fun w' r => r = none ∧ ∃ I', w' = (KC, I', J, GC) ∧ FrW I I' o ∧ WA I' o O (fun _ => True) O.n (fun k => k)) := by
  have hn := hV.n
  refine mjT_go 2 (pc' := 2) (L' := [some (.ref o), none]) (st' := [.ref o, .ref o]) (w1 := (KC, I, J, GC)) rfl ?_
  refine mjT_gfi (v := nI O.n) rfl (Or.inl rfl) (pc' := 5) rfl hG.k0 (mo_at (hO.n) (by omega) (by omega)) ?_
  obtain ⟨V1, eV1⟩ : ∃ z, z = mj_row I o (va_up (I o) 10 (nI O.n)) := ⟨_, rfl⟩
  refine mjT_pfi (I' := V1) rfl (pc' := 8) rfl hG.k0 eV1.symm ?_
  refine mjT_go 2 (pc' := 10) (L' := [some (.ref o), some (.int (nI 0))]) (st' := []) (w1 := (KC, V1, J, GC)) rfl ?_
  have hf0 : FrW I V1 o := ⟨fun h h1 _ _ => st_h eV1 h1, fun j hj => st_ne eV1 hj⟩
  refine mj_loop (fun k L w => ∃ I', L = [some (.ref o), some (.int (nI k))] ∧ w = (KC, I', J, GC) ∧ FrW I I' o ∧ I' o 10 = nI O.n ∧ ∀ j, j < k → I' (o + 8) j = nI j ∧ I' (o + 9) j = sI (modelN O j)) O.n (k0 := 0) (Nat.zero_le _) ?_ ?_ ?_
  · exact ⟨_, rfl, rfl, hf0, st_at eV1, fun _ h => absurd h (by omega)⟩
  · rintro k _ _ hk ⟨I1, rfl, rfl, hf1, h10, hal⟩ hc
    have hO1 := ro_watch hO hf1
    refine mjT_go 2 (pc' := 12) (L' := [some (.ref o), some (.int (nI k))]) (st' := [.ref o, .int (nI k)]) (w1 := (KC, I1, J, GC)) rfl ?_
    refine mjT_gfi (v := nI O.n) rfl (Or.inl rfl) (pc' := 15) rfl hG.k0 (mo_at (hO1.n) (by omega) (by omega)) ?_
    refine mjT_go 1 (pc' := if nI O.n ≤ nI k then 42 else 18) (L' := [some (.ref o), some (.int (nI k))]) (st' := []) (w1 := (KC, I1, J, GC)) rfl ?_
    refine mjT_ifF (nI_ge (by omega) (by omega)) ?_
    refine mjT_go 1 (pc' := 19) (L' := [some (.ref o), some (.int (nI k))]) (st' := [.ref o]) (w1 := (KC, I1, J, GC)) rfl ?_
    refine mjT_gfr (h' := (o + 8)) rfl (pc' := 22) rfl hG.k0 hG.r8 ?_
    refine mjT_go 2 (pc' := 24) (L' := [some (.ref o), some (.int (nI k))]) (st' := [.int (nI k), .int (nI k), .ref (o + 8)]) (w1 := (KC, I1, J, GC)) rfl ?_
    obtain ⟨V2, eV2⟩ : ∃ z, z = mj_row I1 (o + 8) (va_up (I1 (o + 8)) k (nI k)) := ⟨_, rfl⟩
    refine mjT_ias (I' := V2) k 7 rfl (pc' := 25) rfl hG.k8 rfl (by omega) (by omega) eV2.symm ?_
    have hO2 : RO V2 o O P := ro_watch hO1 ⟨fun h _ h8 _ => st_h eV2 h8, fun j _ => by rw [st_h eV2 (by omega)]⟩
    refine mjT_go 1 (pc' := 26) (L' := [some (.ref o), some (.int (nI k))]) (st' := [.ref o]) (w1 := (KC, V2, J, GC)) rfl ?_
    refine mjT_gfr (h' := (o + 9)) rfl (pc' := 29) rfl hG.k0 hG.r9 ?_
    refine mjT_go 3 (pc' := 32) (L' := [some (.ref o), some (.int (nI k))]) (st' := [.int (nI k), .ref o, .int (nI k), .ref (o + 9)]) (w1 := (KC, V2, J, GC)) rfl ?_
    refine mjT_callE (as := [.ref o, .int (nI k)]) (rest := [.int (nI k), .ref (o + 9)]) (r1 := some (.int (sI (modelN O k)))) rfl rfl rfl (mj_callI rfl rfl hG.k0) rfl ⟨rfl, rfl⟩ (c_modelOf hV hG hO2 hk) ?_
    obtain ⟨V3, eV3⟩ : ∃ z, z = mj_row V2 (o + 9) (va_up (V2 (o + 9)) k (sI (modelN O k))) := ⟨_, rfl⟩
    refine mjT_ias (I' := V3) k 7 rfl (pc' := 36) rfl hG.k9 rfl (by omega) (by omega) eV3.symm ?_
    refine mjT_go 2 (pc' := 10) (L' := [some (.ref o), some (.int ((nI k) + (nI 1)))]) (st' := []) (w1 := (KC, V3, J, GC)) rfl ?_
    rw [nI_add]
    refine hc _ _ ⟨_, rfl, rfl, ⟨fun h h1 h2 h3 => ?_, fun j hj => ?_⟩, ?_, fun j hj => ?_⟩
    · rw [st_h eV3 h3, st_h eV2 h2]; exact hf1.1 h h1 h2 h3
    · rw [st_h eV3 (by omega), st_h eV2 (by omega)]; exact hf1.2 j hj
    · rw [st_h eV3 (by omega), st_h eV2 (by omega)]; exact h10
    · by_cases e : j = k
      · subst e
        exact ⟨by rw [st_h eV3 (by omega)]; exact st_at eV2, st_at eV3⟩
      · obtain ⟨a, b⟩ := hal j (by omega)
        exact ⟨by rw [st_h eV3 (by omega), st_ne eV2 e]; exact a, by rw [st_ne eV3 e, st_h eV2 (by omega)]; exact b⟩
  · rintro _ _ ⟨I1, rfl, rfl, hf1, h10, hal⟩
    have hO1 := ro_watch hO hf1
    refine mjT_go 2 (pc' := 12) (L' := [some (.ref o), some (.int (nI O.n))]) (st' := [.ref o, .int (nI O.n)]) (w1 := (KC, I1, J, GC)) rfl ?_
    refine mjT_gfi (v := nI O.n) rfl (Or.inl rfl) (pc' := 15) rfl hG.k0 (mo_at (hO1.n) (by omega) (by omega)) ?_
    refine mjT_go 1 (pc' := if nI O.n ≤ nI O.n then 42 else 18) (L' := [some (.ref o), some (.int (nI O.n))]) (st' := []) (w1 := (KC, I1, J, GC)) rfl ?_
    refine mjT_ifT (Int32.le_refl _) ?_
    refine mjT_ret rfl rfl rfl ?_
    exact ⟨rfl, _, rfl, hf1, h10, hn, fun k hk => ⟨(hal k hk).1, hk, trivial⟩, fun p hp _ => ⟨p, hp, rfl⟩, fun p hp _ => (hal p hp).2, fun _ _ _ _ => trivial⟩
theorem c_passDays {m : Nat} {ws : Nat → Nat} (hV : VO O) (hG : OfG o) (hO : RO I o O P) (hW : WA I o O P m ws) {n : Nat} (hnn : O.day + n ≤ 20000) : mj_E 34 [.ref o, .int (nI n)] (KC, I, J, GC) (fun w' r => r = none ∧ ∃ I', w' = (KC, I', J, GC) ∧ RO I' o (goO O n) P ∧ WA I' o (goO O n) P m ws ∧ FrD I I' o) := by
  refine mjT_go 2 (pc' := 2) (L' := [some (.ref o), some (.int (nI n)), some (.int (nI 0))]) (st' := []) (w1 := (KC, I, J, GC)) rfl ?_
  refine mj_loop (fun k L w => ∃ I', L = [some (.ref o), some (.int (nI n)), some (.int (nI k))] ∧ w = (KC, I', J, GC) ∧ RO I' o (goO O k) P ∧ WA I' o (goO O k) P m ws ∧ FrD I I' o) n (k0 := 0) (Nat.zero_le _) ?_ ?_ ?_
  · exact ⟨_, rfl, rfl, hO, hW, fun _ _ _ _ _ => rfl⟩
  · rintro k _ _ hk ⟨I1, rfl, rfl, hO1, hW1, hf1⟩ hc
    have hV1 := v_go hV k (by omega)
    refine mjT_go 3 (pc' := if nI n ≤ nI k then 22 else 7) (L' := [some (.ref o), some (.int (nI n)), some (.int (nI k))]) (st' := []) (w1 := (KC, I1, J, GC)) rfl ?_
    refine mjT_ifF (nI_ge (by omega) (by omega)) ?_
    refine mjT_go 2 (pc' := 9) (L' := [some (.ref o), some (.int (nI n)), some (.int (nI k))]) (st' := [.ref o, .ref o]) (w1 := (KC, I1, J, GC)) rfl ?_
    refine mjT_callE (as := [.ref o]) (rest := [.ref o]) (r1 := some (.int (nI (wetN (goO O k))))) rfl rfl rfl (mj_callI rfl rfl hG.k0) rfl ⟨rfl, rfl⟩ (c_isWet hV1 hG hO1) ?_
    refine mjT_call (as := [.ref o, .int (nI (wetN (goO O k)))]) (rest := []) rfl rfl rfl (mj_callI rfl rfl hG.k0) rfl ⟨rfl, rfl⟩ (c_passDay hV1 hG hO1 hW1 (wetN_lt _)) ?_
    rintro _ _ ⟨rfl, I2, rfl, hO2, hf2⟩
    refine mjT_go 3 (pc' := 2) (L' := [some (.ref o), some (.int (nI n)), some (.int ((nI k) + (nI 1)))]) (st' := []) (w1 := (KC, I2, J, GC)) rfl ?_
    rw [nI_add]
    exact hc _ _ ⟨_, rfl, rfl, hO2, wa_pass hW1 hf2 _, fun h h1 h2 h3 h4 => (hf2 h h1 h2 h3 h4).trans (hf1 h h1 h2 h3 h4)⟩
  · rintro _ _ ⟨I1, rfl, rfl, hO1, hW1, hf1⟩
    refine mjT_go 3 (pc' := if nI n ≤ nI n then 22 else 7) (L' := [some (.ref o), some (.int (nI n)), some (.int (nI n))]) (st' := []) (w1 := (KC, I1, J, GC)) rfl ?_
    refine mjT_ifT (Int32.le_refl _) ?_
    refine mjT_ret rfl rfl rfl ?_
    exact ⟨rfl, _, rfl, hO1, hW1, hf1⟩
end W1
