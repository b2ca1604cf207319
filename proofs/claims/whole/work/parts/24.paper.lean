section A2
variable {I : Nat → Nat → Int32} {J : Nat → Nat → Int64} {K : List (Nat × Nat)} {G : Nat → Nat → Option Nat} {O : Off}
theorem m_figure {m p : Nat} (hm : m < 2 ^ 31) (hp : p < 6) : mj_Ev 136 [.int (nI m), .int (nI p)] (K, I, J, G) (K, I, J, G) (some (.int (nI (dig m p)))) := by
  refine mj_ev_of ?_
  refine mjT_go 4 (pc' := 4) (L' := [some (.int (nI m)), some (.int (nI p)), some (.int (nI m)), some (.int (nI 5))]) (st' := []) (w1 := (K, I, J, G)) rfl ?_
  refine mj_loop (fun k L w => L = [some (.int (nI m)), some (.int (nI p)), some (.int (nI (m / 10 ^ k))), some (.int (nI (5 - k)))] ∧ w = (K, I, J, G)) (5 - p) (k0 := 0) (Nat.zero_le _) ?_ ?_ ?_
  · exact ⟨by rw [Nat.pow_zero, Nat.div_one], rfl⟩
  · rintro k _ _ hk ⟨rfl, rfl⟩ hc
    have hd : m / 10 ^ k ≤ m := Nat.div_le_self _ _
    refine mjT_go 3 (pc' := if nI (5 - k) ≤ nI p then 20 else 9) (L' := [some (.int (nI m)), some (.int (nI p)), some (.int (nI (m / 10 ^ k))), some (.int (nI (5 - k)))]) (st' := []) (w1 := (K, I, J, G)) rfl ?_
    refine mjT_ifF (nI_ge (by omega) (by omega)) ?_
    refine mjT_go 2 (pc' := 12) (L' := [some (.int (nI m)), some (.int (nI p)), some (.int (nI (m / 10 ^ k))), some (.int (nI (5 - k)))]) (st' := [.int (nI 10), .int (nI (m / 10 ^ k))]) (w1 := (K, I, J, G)) rfl ?_
    refine mjT_divN (u := m / 10 ^ k) (v := 10) rfl (pc' := 13) rfl rfl rfl (by omega) (by omega) (by omega) ?_
    refine mjT_go 3 (pc' := 4) (L' := [some (.int (nI m)), some (.int (nI p)), some (.int (nI ((m / 10 ^ k) / 10))), some (.int ((nI (5 - k)) + (-1)))]) (st' := []) (w1 := (K, I, J, G)) rfl ?_
    rw [show nI (5 - k) + (-1) = nI (5 - (k + 1)) by rw [show 5 - k = (5 - (k + 1)) + 1 by omega, nI_m1], Nat.div_div_eq_div_mul, ← Nat.pow_succ]
    exact hc _ _ ⟨rfl, rfl⟩
  · rintro _ _ ⟨rfl, rfl⟩
    have hd : m / 10 ^ (5 - p) ≤ m := Nat.div_le_self _ _
    rw [show 5 - (5 - p) = p by omega]
    refine mjT_go 3 (pc' := if nI p ≤ nI p then 20 else 9) (L' := [some (.int (nI m)), some (.int (nI p)), some (.int (nI (m / 10 ^ (5 - p)))), some (.int (nI p))]) (st' := []) (w1 := (K, I, J, G)) rfl ?_
    refine mjT_ifT (Int32.le_refl _) ?_
    refine mjT_go 2 (pc' := 23) (L' := [some (.int (nI m)), some (.int (nI p)), some (.int (nI (m / 10 ^ (5 - p)))), some (.int (nI p))]) (st' := [.int (nI 10), .int (nI (m / 10 ^ (5 - p)))]) (w1 := (K, I, J, G)) rfl ?_
    refine mjT_remN (u := m / 10 ^ (5 - p)) (v := 10) rfl (pc' := 24) rfl rfl rfl (by omega) (by omega) (by omega) ?_
    refine mjT_ret rfl rfl rfl ?_
    exact ⟨rfl, rfl⟩
theorem m_isPaper_in {m : Nat} (hm : m ≤ 777777) : mj_Ev 137 [.long (lN m)] (K, I, J, G) (K, I, J, G) (some (.int (nI (okD m 6)))) := by
  refine mj_ev_of ?_
  refine mjT_go 3 (pc' := 5) (L' := [some (.long (lN m)), none, none, none]) (st' := [.long (lN 777777), .long (lN 0), .long (lN m)]) (w1 := (K, I, J, G)) rfl ?_
  refine mjT_callE (as := [.long (lN m), .long (lN 0), .long (lN 777777)]) (rest := []) rfl rfl rfl rfl rfl ⟨rfl, rfl⟩ (by have h := m_in (I := I) (J := J) (K := K) (G := G) (v := lN m) (a := lN 0) (b := lN 777777); rw [if_pos ⟨(lN_le (by omega) (by omega)).mpr (by omega), (lN_le (by omega) (by omega)).mpr hm⟩] at h; exact h) ?_
  refine mjT_go 1 (pc' := if ¬ nI 1 = 0 then 13 else 11) (L' := [some (.long (lN m)), none, none, none]) (st' := []) (w1 := (K, I, J, G)) rfl ?_
  refine mjT_ifT (by decide) ?_
  refine mjT_go 4 (pc' := 17) (L' := [some (.long (lN m)), none, some (.int (nI 1)), some (.int (nI 0))]) (st' := []) (w1 := (K, I, J, G)) rfl ?_
  refine mj_loop (fun k L w => L = [some (.long (lN m)), none, some (.int (nI (okD m k))), some (.int (nI k))] ∧ w = (K, I, J, G)) 6 (k0 := 0) (Nat.zero_le _) ?_ ?_ ?_
  · exact ⟨rfl, rfl⟩
  · rintro k _ _ hk ⟨rfl, rfl⟩ hc
    have ho := okD_lt m k
    have hd : dig m k < 10 := Nat.mod_lt _ (by omega)
    refine mjT_go 3 (pc' := if nI 6 ≤ nI k then 50 else 23) (L' := [some (.long (lN m)), none, some (.int (nI (okD m k))), some (.int (nI k))]) (st' := []) (w1 := (K, I, J, G)) rfl ?_
    refine mjT_ifF (nI_ge (by omega) (by omega)) ?_
    refine mjT_go 2 (pc' := if nI (okD m k) = 0 then 42 else 27) (L' := [some (.long (lN m)), none, some (.int (nI (okD m k))), some (.int (nI k))]) (st' := []) (w1 := (K, I, J, G)) rfl ?_
    refine mjT_if_eq (u := okD m k) (v := 0) rfl nI_0.symm (by omega) (by omega) (fun h0 => ?_) (fun h0 => ?_)
    · refine mjT_go 4 (pc' := 17) (L' := [some (.long (lN m)), none, some (.int (nI 0)), some (.int ((nI k) + (nI 1)))]) (st' := []) (w1 := (K, I, J, G)) rfl ?_
      rw [nI_add, show nI 0 = nI (okD m (k + 1)) by unfold okD; rw [h0, ite_self]]
      exact hc _ _ ⟨rfl, rfl⟩
    · refine mjT_go 1 (pc' := 28) (L' := [some (.long (lN m)), none, some (.int (nI (okD m k))), some (.int (nI k))]) (st' := [.long (lN m)]) (w1 := (K, I, J, G)) rfl ?_
      refine mjT_go 1 (pc' := 29) (L' := [some (.long (lN m)), none, some (.int (nI (okD m k))), some (.int (nI k))]) (st' := [.int ((lN m).toInt32)]) (w1 := (K, I, J, G)) rfl ?_
      rw [lN_i]
      refine mjT_go 1 (pc' := 30) (L' := [some (.long (lN m)), none, some (.int (nI (okD m k))), some (.int (nI k))]) (st' := [.int (nI k), .int (nI m)]) (w1 := (K, I, J, G)) rfl ?_
      refine mjT_callE (as := [.int (nI m), .int (nI k)]) (rest := []) rfl rfl rfl rfl rfl ⟨rfl, rfl⟩ (m_figure (by omega) hk) ?_
      refine mjT_go 2 (pc' := if nI 8 ≤ nI (dig m k) then 42 else 38) (L' := [some (.long (lN m)), none, some (.int (nI (okD m k))), some (.int (nI k))]) (st' := []) (w1 := (K, I, J, G)) rfl ?_
      refine mjT_if_le (u := 8) (v := dig m k) rfl rfl (by omega) (by omega) (fun h8 => ?_) (fun h8 => ?_)
      · refine mjT_go 4 (pc' := 17) (L' := [some (.long (lN m)), none, some (.int (nI 0)), some (.int ((nI k) + (nI 1)))]) (st' := []) (w1 := (K, I, J, G)) rfl ?_
        rw [nI_add, show nI 0 = nI (okD m (k + 1)) by unfold okD; rw [if_neg (by omega)]]
        exact hc _ _ ⟨rfl, rfl⟩
      · refine mjT_go 5 (pc' := 17) (L' := [some (.long (lN m)), none, some (.int (nI 1)), some (.int ((nI k) + (nI 1)))]) (st' := []) (w1 := (K, I, J, G)) rfl ?_
        rw [nI_add, show nI 1 = nI (okD m (k + 1)) by unfold okD; rw [if_pos h8, show okD m k = 1 by omega]]
        exact hc _ _ ⟨rfl, rfl⟩
  · rintro _ _ ⟨rfl, rfl⟩
    refine mjT_go 3 (pc' := if nI 6 ≤ nI 6 then 50 else 23) (L' := [some (.long (lN m)), none, some (.int (nI (okD m 6))), some (.int (nI 6))]) (st' := []) (w1 := (K, I, J, G)) rfl ?_
    refine mjT_ifT (Int32.le_refl _) ?_
    refine mjT_go 1 (pc' := 51) (L' := [some (.long (lN m)), none, some (.int (nI (okD m 6))), some (.int (nI 6))]) (st' := [.int (nI (okD m 6))]) (w1 := (K, I, J, G)) rfl ?_
    exact mjT_retN (okD_lt _ _) rfl rfl ⟨rfl, rfl⟩
theorem m_isPaper_out {v : Int64} (h : ¬ (lN 0 ≤ v ∧ v ≤ lN 777777)) : mj_Ev 137 [.long v] (K, I, J, G) (K, I, J, G) (some (.int (nI 0))) := by
  refine mj_ev_of ?_
  refine mjT_go 3 (pc' := 5) (L' := [some (.long v), none, none, none]) (st' := [.long (lN 777777), .long (lN 0), .long v]) (w1 := (K, I, J, G)) rfl ?_
  refine mjT_callE (as := [.long v, .long (lN 0), .long (lN 777777)]) (rest := []) rfl rfl rfl rfl rfl ⟨rfl, rfl⟩ (by have h' := m_in (I := I) (J := J) (K := K) (G := G) (v := v) (a := lN 0) (b := lN 777777); rw [if_neg h] at h'; exact h') ?_
  refine mjT_go 1 (pc' := if ¬ nI 0 = 0 then 13 else 11) (L' := [some (.long v), none, none, none]) (st' := []) (w1 := (K, I, J, G)) rfl ?_
  refine mjT_ifF (by decide) ?_
  refine mjT_go 1 (pc' := 12) (L' := [some (.long v), none, none, none]) (st' := [.int (nI 0)]) (w1 := (K, I, J, G)) rfl ?_
  refine mjT_retb rfl rfl (by decide) ?_
  exact ⟨rfl, rfl⟩
theorem c_packed_out {x : Int32} (h : iR x 0 777777 = 0) : mj_Ev 54 [.int x] (K, I, J, G) (K, I, J, G) (some (.int (-1))) := by
  refine mj_ev_of ?_
  refine mjT_go 2 (pc' := if x < 0 then 10 else 4) (L' := [some (.int x), none, none, none, none]) (st' := []) (w1 := (K, I, J, G)) rfl ?_
  refine mjT_if (fun h1 => ?_) (fun h1 => ?_)
  · refine mjT_go 1 (pc' := 11) (L' := [some (.int x), none, none, none, none]) (st' := [.int (-1)]) (w1 := (K, I, J, G)) rfl ?_
    refine mjT_ret rfl rfl rfl ?_
    exact ⟨rfl, rfl⟩
  · rw [i32_nlt] at h1
    refine mjT_go 3 (pc' := if x ≤ nI 777777 then 12 else 10) (L' := [some (.int x), none, none, none, none]) (st' := []) (w1 := (K, I, J, G)) rfl ?_
    refine mjT_if (fun h2 => ?_) (fun h2 => ?_)
    · unfold iR at h
      rw [if_pos ⟨by rw [nI_0]; exact h1, h2⟩] at h
      omega
    · refine mjT_go 1 (pc' := 11) (L' := [some (.int x), none, none, none, none]) (st' := [.int (-1)]) (w1 := (K, I, J, G)) rfl ?_
      refine mjT_ret rfl rfl rfl ?_
      exact ⟨rfl, rfl⟩
theorem sh3 : ∀ i, i < 6 → ((nI 15 - nI 3 * nI (5 - i) &&& 31).toBitVec.smod 32).toNat = 3 * i := by decide
theorem c_packed {m : Nat} (hm : m ≤ 777777) : mj_Ev 54 [.int (nI m)] (K, I, J, G) (K, I, J, G) (some (.int (if okD m 6 = 1 then nI (rw6 (dig m)) else -1))) := by
  refine mj_ev_of ?_
  refine mjT_go 2 (pc' := if nI m < 0 then 10 else 4) (L' := [some (.int (nI m)), none, none, none, none]) (st' := []) (w1 := (K, I, J, G)) rfl ?_
  refine mjT_ifF (nI_pos (by omega)) ?_
  refine mjT_go 3 (pc' := if nI m ≤ nI 777777 then 12 else 10) (L' := [some (.int (nI m)), none, none, none, none]) (st' := []) (w1 := (K, I, J, G)) rfl ?_
  refine mjT_ifT (nI_le hm (by omega)) ?_
  refine mjT_go 6 (pc' := 18) (L' := [some (.int (nI m)), some (.int (nI 0)), some (.int (nI m)), some (.int (nI 5)), none]) (st' := []) (w1 := (K, I, J, G)) rfl ?_
  refine mj_loop (fun k L w => ∃ d : Option Value, L = [some (.int (nI m)), some (.int (nI (lowN m k))), some (.int (nI (m / 10 ^ k))), some (.int (sI (6 - k))), d] ∧ w = (K, I, J, G) ∧ ∀ j, j < k → dig m (5 - j) < 8) 6 (k0 := 0) (Nat.zero_le _) ?_ ?_ ?_
  · exact ⟨_, by rw [Nat.pow_zero, Nat.div_one]; rfl, rfl, fun _ h => absurd h (by omega)⟩
  · rintro k _ _ hk ⟨d, rfl, rfl, hal⟩ hc
    have hd : m / 10 ^ k ≤ m := Nat.div_le_self _ _
    have hd9 : dig m (5 - k) < 10 := Nat.mod_lt _ (by omega)
    have hdk : m / 10 ^ k % 10 = dig m (5 - k) := by unfold dig; rw [show 5 - (5 - k) = k by omega]
    have hl := lowN_lt hal
    have h86 : 8 ^ k ≤ 8 ^ 5 := Nat.pow_le_pow_right (by omega) (by omega)
    rw [show 6 - k = (5 - k) + 1 by omega, sI_s]
    refine mjT_go 2 (pc' := if nI (5 - k) < 0 then 60 else 22) (L' := [some (.int (nI m)), some (.int (nI (lowN m k))), some (.int (nI (m / 10 ^ k))), some (.int (nI (5 - k))), d]) (st' := []) (w1 := (K, I, J, G)) rfl ?_
    refine mjT_ifF (nI_pos (by omega)) ?_
    refine mjT_go 2 (pc' := 25) (L' := [some (.int (nI m)), some (.int (nI (lowN m k))), some (.int (nI (m / 10 ^ k))), some (.int (nI (5 - k))), d]) (st' := [.int (nI 10), .int (nI (m / 10 ^ k))]) (w1 := (K, I, J, G)) rfl ?_
    refine mjT_remN (u := m / 10 ^ k) (v := 10) rfl (pc' := 26) rfl rfl rfl (by omega) (by omega) (by omega) ?_
    rw [hdk]
    refine mjT_go 4 (pc' := if nI (dig m (5 - k)) ≤ nI 7 then 37 else 35) (L' := [some (.int (nI m)), some (.int (nI (lowN m k))), some (.int (nI (m / 10 ^ k))), some (.int (nI (5 - k))), some (.int (nI (dig m (5 - k))))]) (st' := []) (w1 := (K, I, J, G)) rfl ?_
    refine mjT_if_le (u := dig m (5 - k)) (v := 7) rfl rfl (by omega) (by omega) (fun h7 => ?_) (fun h7 => ?_)
    · have h8 : dig m (5 - k) * 2 ^ (3 * k) ≤ 7 * 8 ^ k := by rw [Nat.pow_mul]; exact Nat.mul_le_mul_right _ h7
      have e1 : lowN m k ||| dig m (5 - k) * 2 ^ (3 * k) = lowN m (k + 1) := by
        rw [Nat.pow_mul, Nat.or_comm, Nat.mul_comm]
        have h2 := (Nat.two_pow_add_eq_or_of_lt (i := 3 * k) (b := lowN m k) (by rw [Nat.pow_mul]; exact hl) (dig m (5 - k))).symm
        rw [Nat.pow_mul] at h2
        refine h2.trans ?_
        show _ = lowN m k + dig m (5 - k) * 8 ^ k
        rw [Nat.mul_comm, Nat.add_comm]
      refine mjT_go 7 (pc' := 46) (L' := [some (.int (nI m)), some (.int (nI (lowN m k))), some (.int (nI (m / 10 ^ k))), some (.int (nI (5 - k))), some (.int (nI (dig m (5 - k))))]) (st' := [.int ((nI 15) - ((nI 3) * (nI (5 - k)))), .int (nI (dig m (5 - k))), .int (nI (lowN m k))]) (w1 := (K, I, J, G)) rfl ?_
      refine mjT_go 2 (pc' := 48) (L' := [some (.int (nI m)), some (.int (nI (lowN m k))), some (.int (nI (m / 10 ^ k))), some (.int (nI (5 - k))), some (.int (nI (dig m (5 - k))))]) (st' := [.int ((nI (lowN m k)) ||| ((nI (dig m (5 - k))) <<< (((nI 15) - ((nI 3) * (nI (5 - k)))) &&& 31)))]) (w1 := (K, I, J, G)) rfl ?_
      rw [pk_shlN _ (3 * k) (sh3 k hk) (by omega), nI_or, e1]
      refine mjT_go 3 (pc' := 52) (L' := [some (.int (nI m)), some (.int (nI (lowN m (k + 1)))), some (.int (nI (m / 10 ^ k))), some (.int (nI (5 - k))), some (.int (nI (dig m (5 - k))))]) (st' := [.int (nI 10), .int (nI (m / 10 ^ k))]) (w1 := (K, I, J, G)) rfl ?_
      refine mjT_divN (u := m / 10 ^ k) (v := 10) rfl (pc' := 53) rfl rfl rfl (by omega) (by omega) (by omega) ?_
      refine mjT_go 3 (pc' := 18) (L' := [some (.int (nI m)), some (.int (nI (lowN m (k + 1)))), some (.int (nI ((m / 10 ^ k) / 10))), some (.int ((nI (5 - k)) + (-1))), some (.int (nI (dig m (5 - k))))]) (st' := []) (w1 := (K, I, J, G)) rfl ?_
      rw [show nI (5 - k) + (-1) = sI (6 - (k + 1)) by
        obtain h5 | h5 : k = 5 ∨ k < 5 := by omega
        · subst h5; decide
        · rw [show 5 - k = (4 - k) + 1 by omega, nI_m1, show 6 - (k + 1) = (4 - k) + 1 by omega, sI_s], Nat.div_div_eq_div_mul, ← Nat.pow_succ]
      refine hc _ _ ⟨_, rfl, rfl, fun j hj => ?_⟩
      by_cases e : j = k
      · subst e; omega
      · exact hal j (by omega)
    · refine mjT_go 1 (pc' := 36) (L' := [some (.int (nI m)), some (.int (nI (lowN m k))), some (.int (nI (m / 10 ^ k))), some (.int (nI (5 - k))), some (.int (nI (dig m (5 - k))))]) (st' := [.int (-1)]) (w1 := (K, I, J, G)) rfl ?_
      refine mjT_ret rfl rfl rfl ?_
      refine ⟨rfl, ?_⟩
      rw [if_neg]
      intro q
      have := okD_1.mp q (5 - k) (by omega)
      omega
  · rintro _ _ ⟨d, rfl, rfl, hal⟩
    rw [show 6 - 6 = 0 from rfl, sI_0]
    refine mjT_go 2 (pc' := if (-1) < 0 then 60 else 22) (L' := [some (.int (nI m)), some (.int (nI (lowN m 6))), some (.int (nI (m / 10 ^ 6))), some (.int (-1)), d]) (st' := []) (w1 := (K, I, J, G)) rfl ?_
    refine mjT_ifT (by decide) ?_
    refine mjT_go 1 (pc' := 61) (L' := [some (.int (nI m)), some (.int (nI (lowN m 6))), some (.int (nI (m / 10 ^ 6))), some (.int (-1)), d]) (st' := [.int (nI (lowN m 6))]) (w1 := (K, I, J, G)) rfl ?_
    refine mjT_ret rfl rfl rfl ?_
    refine ⟨rfl, ?_⟩
    rw [if_pos (okD_1.mpr fun j hj => by have := hal (5 - j) (by omega); rwa [show 5 - (5 - j) = j by omega] at this), low_rw]
theorem m_isPerson (hV : VO O) (hO : MO I 0 O) {x : Int32} : mj_Ev 134 [.ref 0, .int x] (KM, I, J, GM) (KM, I, J, GM) (some (.int (nI (iP x O.n)))) := by
  refine mj_ev_of ?_
  have hn := hV.n
  have e : ∀ n, n ≤ 7 → (nI n - nI 1).toInt = (n : Int) - 1 := by decide
  have ev : mj_Ev 129 [.long x.toInt64, .long (lN 0), .long (nI O.n - nI 1).toInt64] (KM, I, J, GM) (KM, I, J, GM) (some (.int (nI (iP x O.n)))) := by
    have h := m_in (I := I) (J := J) (K := KM) (G := GM) (v := x.toInt64) (a := lN 0) (b := (nI O.n - nI 1).toInt64)
    have e2 : (lN 0 ≤ x.toInt64 ∧ x.toInt64 ≤ (nI O.n - nI 1).toInt64) ↔ (0 ≤ x ∧ x < nI O.n) := by
      rw [l_leN (by decide), nI_0, Int64.le_iff_toInt_le, Int32.toInt_toInt64, Int32.toInt_toInt64, e _ hn, Int32.lt_iff_toInt_lt, nI_toInt (by omega)]
      constructor
      · rintro ⟨a, b⟩; exact ⟨a, by omega⟩
      · rintro ⟨a, b⟩; exact ⟨a, by omega⟩
    simp only [e2] at h
    exact h
  refine mjT_go 6 (pc' := 10) (L' := [some (.ref 0), some (.int x)]) (st' := [.int (nI 147), .ref 1, .long (lN 0), .long x.toInt64]) (w1 := (KM, I, J, GM)) rfl ?_
  refine mjT_ial (v := nI O.n) 147 1840 rfl (pc' := 11) rfl rfl rfl (by omega) (by omega) (mo_at hO.n rfl (by omega)) ?_
  refine mjT_go 3 (pc' := 14) (L' := [some (.ref 0), some (.int x)]) (st' := [.long (((nI O.n) - (nI 1)).toInt64), .long (lN 0), .long x.toInt64]) (w1 := (KM, I, J, GM)) rfl ?_
  refine mjT_callE (as := [.long x.toInt64, .long (lN 0), .long (((nI O.n) - (nI 1)).toInt64)]) (rest := []) rfl rfl rfl rfl rfl ⟨rfl, rfl⟩ ev ?_
  exact mjT_retN (iP_lt _ _) rfl rfl ⟨rfl, rfl⟩
end A2
