/-! the model's methods on one office -/
section M1
variable {I : Nat → Nat → Int32} {J : Nat → Nat → Int64} {x : Nat} {O : Off}
theorem m_written {at' : Nat} {d : Nat → Nat} (hb : at' + 6 ≤ 1840) (hd : ∀ k, k < 6 → I 1 (at' + k) = nI (d k)) : mj_Ev 138 [.ref 0, .int (nI at')] (KM, I, J, GM) (KM, I, J, GM) (some (.int (nI (fg d 6)))) := by
  refine mj_ev_of ?_
  refine mjT_go 4 (pc' := 4) (L' := [some (.ref 0), some (.int (nI at')), some (.int (nI 0)), some (.int (nI 0))]) (st' := []) (w1 := (KM, I, J, GM)) rfl ?_
  refine mj_loop (fun k L w => L = [some (.ref 0), some (.int (nI at')), some (.int (nI (fg d k))), some (.int (nI k))] ∧ w = (KM, I, J, GM)) 6 (k0 := 0) (Nat.zero_le _) ?_ ?_ ?_
  · exact ⟨rfl, rfl⟩
  · rintro k _ _ hk ⟨rfl, rfl⟩ hc
    refine mjT_go 3 (pc' := if nI 6 ≤ nI k then 30 else 10) (L' := [some (.ref 0), some (.int (nI at')), some (.int (nI (fg d k))), some (.int (nI k))]) (st' := []) (w1 := (KM, I, J, GM)) rfl ?_
    refine mjT_ifF (nI_ge (by omega) (by omega)) ?_
    refine mjT_go 8 (pc' := 21) (L' := [some (.ref 0), some (.int (nI at')), some (.int (nI (fg d k))), some (.int (nI k))]) (st' := [.int ((nI at') + (nI k)), .ref 1, .int ((nI 10) * (nI (fg d k)))]) (w1 := (KM, I, J, GM)) rfl ?_
    refine mjT_ial (v := nI (d k)) (at' + k) 1840 rfl (pc' := 22) rfl rfl (by simp only [nI_add, pk_mul]) (by omega) (by omega) (hd k hk) ?_
    refine mjT_go 4 (pc' := 4) (L' := [some (.ref 0), some (.int (nI at')), some (.int (((nI 10) * (nI (fg d k))) + (nI (d k)))), some (.int ((nI k) + (nI 1)))]) (st' := []) (w1 := (KM, I, J, GM)) rfl ?_
    refine hc _ _ ⟨?_, rfl⟩
    simp only [fg, nI_add, pk_mul]
  · rintro _ _ ⟨rfl, rfl⟩
    refine mjT_go 3 (pc' := if nI 6 ≤ nI 6 then 30 else 10) (L' := [some (.ref 0), some (.int (nI at')), some (.int (nI (fg d 6))), some (.int (nI 6))]) (st' := []) (w1 := (KM, I, J, GM)) rfl ?_
    refine mjT_ifT (Int32.le_refl _) ?_
    refine mjT_go 1 (pc' := 31) (L' := [some (.ref 0), some (.int (nI at')), some (.int (nI (fg d 6))), some (.int (nI 6))]) (st' := [.int (nI (fg d 6))]) (w1 := (KM, I, J, GM)) rfl ?_
    refine mjT_ret rfl rfl rfl ?_
    exact ⟨rfl, rfl⟩
theorem m_one {b : Nat} (hb : b < 2) (w : mjW) : mj_Ev 130 [.int (nI b)] w w (some (.int (nI b))) := by
  obtain rfl | rfl : b = 0 ∨ b = 1 := by omega
  · exact mj_go 2 (pc' := 8) (L' := [some (.int (nI 0))]) (st' := []) (w1 := w) rfl (mj_go 1 (pc' := 9) (L' := [some (.int (nI 0))]) (st' := [.int (nI 0)]) (w1 := w) rfl (mj_ret1 rfl rfl rfl))
  · exact mj_go 2 (pc' := 4) (L' := [some (.int (nI 1))]) (st' := []) (w1 := w) rfl (mj_go 2 (pc' := 9) (L' := [some (.int (nI 1))]) (st' := [.int (nI 1)]) (w1 := w) rfl (mj_ret1 rfl rfl rfl))
theorem m_has {s k : Nat} (hs : s < 2 ^ 31) (hk : k < 31) : mj_Ev 131 [.int (nI s), .int (nI k)] (KM, I, J, GM) (KM, I, J, GM) (some (.int (nI (bitN s k)))) := by
  refine mj_ev_of ?_
  have hb := bitN_lt s k
  refine mjT_go 5 (pc' := 5) (L' := [some (.int (nI s)), some (.int (nI k))]) (st' := [.int (((nI s) >>> ((nI k) &&& 31)) &&& (nI 1))]) (w1 := (KM, I, J, GM)) rfl ?_
  rw [bit_at hs hk]
  refine mjT_go 2 (pc' := if ¬ nI (bitN s k) = nI 1 then 13 else 9) (L' := [some (.int (nI s)), some (.int (nI k))]) (st' := []) (w1 := (KM, I, J, GM)) rfl ?_
  refine mjT_if_ne (u := bitN s k) (v := 1) rfl rfl (by omega) (by omega) (fun hc => ?_) (fun hc => ?_)
  · refine mjT_go 1 (pc' := 14) (L' := [some (.int (nI s)), some (.int (nI k))]) (st' := [.int (nI 0)]) (w1 := (KM, I, J, GM)) rfl ?_
    rw [show bitN s k = 0 by omega]
    refine mjT_retb rfl rfl (by decide) ?_
    exact ⟨rfl, rfl⟩
  · refine mjT_go 2 (pc' := 14) (L' := [some (.int (nI s)), some (.int (nI k))]) (st' := [.int (nI 1)]) (w1 := (KM, I, J, GM)) rfl ?_
    rw [hc]
    refine mjT_retb rfl rfl (by decide) ?_
    exact ⟨rfl, rfl⟩
theorem m_sitsOn (hV : VO O) (hO : MO I x O) (hx : x ≤ 1680) {c : Nat} (hc8 : c < 8) : mj_Ev 139 [.ref 0, .int (nI x), .int (nI c)] (KM, I, J, GM) (KM, I, J, GM) (some (.int (tI (sitr O c)))) := by
  refine mj_ev_of ?_
  have hn := hV.n
  refine mjT_go 4 (pc' := 6) (L' := [some (.ref 0), some (.int (nI x)), some (.int (nI c)), some (.int (-4)), some (.int (nI 0))]) (st' := []) (w1 := (KM, I, J, GM)) rfl ?_
  refine mj_loop (fun k L w => L = [some (.ref 0), some (.int (nI x)), some (.int (nI c)), some (.int (tI (sitL O c k))), some (.int (nI k))] ∧ w = (KM, I, J, GM)) O.n (k0 := 0) (Nat.zero_le _) ?_ ?_ ?_
  · exact ⟨rfl, rfl⟩
  · rintro k _ _ hk ⟨rfl, rfl⟩ hc
    have hch := hV.chair k hk
    refine mjT_go 6 (pc' := 17) (L' := [some (.ref 0), some (.int (nI x)), some (.int (nI c)), some (.int (tI (sitL O c k))), some (.int (nI k))]) (st' := [.int ((nI x) + (nI 147)), .ref 1, .int (nI k)]) (w1 := (KM, I, J, GM)) rfl ?_
    refine mjT_ial (v := nI O.n) (x + 147) 1840 rfl (pc' := 18) rfl rfl (by simp only [nI_add, pk_mul]) (by omega) (by omega) (mo_at hO.n rfl (by omega)) ?_
    refine mjT_go 1 (pc' := if nI O.n ≤ nI k then 52 else 21) (L' := [some (.ref 0), some (.int (nI x)), some (.int (nI c)), some (.int (tI (sitL O c k))), some (.int (nI k))]) (st' := []) (w1 := (KM, I, J, GM)) rfl ?_
    refine mjT_ifF (nI_ge (by omega) (by omega)) ?_
    refine mjT_go 9 (pc' := 34) (L' := [some (.ref 0), some (.int (nI x)), some (.int (nI c)), some (.int (tI (sitL O c k))), some (.int (nI k))]) (st' := [.int (((nI x) + ((nI 21) * (nI k))) + (nI 2)), .ref 1]) (w1 := (KM, I, J, GM)) rfl ?_
    refine mjT_ial (v := nI (O.chair k)) ((x + (21 * k)) + 2) 1840 rfl (pc' := 35) rfl rfl (by simp only [nI_add, pk_mul]) (by omega) (by omega) (mo_at (hO.chair k (show k < O.n by omega)) rfl (by omega)) ?_
    refine mjT_go 2 (pc' := if ¬ nI (O.chair k) = nI c then 44 else 39) (L' := [some (.ref 0), some (.int (nI x)), some (.int (nI c)), some (.int (tI (sitL O c k))), some (.int (nI k))]) (st' := []) (w1 := (KM, I, J, GM)) rfl ?_
    refine mjT_if_ne (u := O.chair k) (v := c) rfl rfl (by omega) (by omega) (fun hq => ?_) (fun hq => ?_)
    · refine mjT_go 4 (pc' := 6) (L' := [some (.ref 0), some (.int (nI x)), some (.int (nI c)), some (.int (tI (sitL O c k))), some (.int ((nI k) + (nI 1)))]) (st' := []) (w1 := (KM, I, J, GM)) rfl ?_
      refine hc _ _ ⟨?_, rfl⟩
      simp only [sitL, if_neg hq, nI_add]
    · refine mjT_go 5 (pc' := 6) (L' := [some (.ref 0), some (.int (nI x)), some (.int (nI c)), some (.int (nI k)), some (.int ((nI k) + (nI 1)))]) (st' := []) (w1 := (KM, I, J, GM)) rfl ?_
      refine hc _ _ ⟨?_, rfl⟩
      simp only [sitL, if_pos hq, nI_add, tI_s]
  · rintro _ _ ⟨rfl, rfl⟩
    refine mjT_go 6 (pc' := 17) (L' := [some (.ref 0), some (.int (nI x)), some (.int (nI c)), some (.int (tI (sitL O c O.n))), some (.int (nI O.n))]) (st' := [.int ((nI x) + (nI 147)), .ref 1, .int (nI O.n)]) (w1 := (KM, I, J, GM)) rfl ?_
    refine mjT_ial (v := nI O.n) (x + 147) 1840 rfl (pc' := 18) rfl rfl (by simp only [nI_add, pk_mul]) (by omega) (by omega) (mo_at hO.n rfl (by omega)) ?_
    refine mjT_go 1 (pc' := if nI O.n ≤ nI O.n then 52 else 21) (L' := [some (.ref 0), some (.int (nI x)), some (.int (nI c)), some (.int (tI (sitL O c O.n))), some (.int (nI O.n))]) (st' := []) (w1 := (KM, I, J, GM)) rfl ?_
    refine mjT_ifT (Int32.le_refl _) ?_
    refine mjT_go 1 (pc' := 53) (L' := [some (.ref 0), some (.int (nI x)), some (.int (nI c)), some (.int (tI (sitL O c O.n))), some (.int (nI O.n))]) (st' := [.int (tI (sitL O c O.n))]) (w1 := (KM, I, J, GM)) rfl ?_
    refine mjT_ret rfl rfl rfl ?_
    exact ⟨rfl, rfl⟩
theorem m_tills (hV : VO O) (hO : MO I 0 O) {p : Nat} (hp : p < O.n) : mj_Ev 142 [.ref 0, .int (nI p)] (KM, I, J, GM) (KM, I, J, GM) (some (.int (nI (tillsN O p 6)))) := by
  refine mj_ev_of ?_
  have hn := hV.n
  refine mjT_go 4 (pc' := 4) (L' := [some (.ref 0), some (.int (nI p)), some (.int (nI 0)), some (.int (nI 0))]) (st' := []) (w1 := (KM, I, J, GM)) rfl ?_
  refine mj_loop (fun k L w => L = [some (.ref 0), some (.int (nI p)), some (.int (nI (tillsN O p k))), some (.int (nI k))] ∧ w = (KM, I, J, GM)) 6 (k0 := 0) (Nat.zero_le _) ?_ ?_ ?_
  · exact ⟨rfl, rfl⟩
  · rintro k _ _ hk ⟨rfl, rfl⟩ hc
    have ht := hV.till p hp k hk
    refine mjT_go 3 (pc' := if nI 6 ≤ nI k then 44 else 10) (L' := [some (.ref 0), some (.int (nI p)), some (.int (nI (tillsN O p k))), some (.int (nI k))]) (st' := []) (w1 := (KM, I, J, GM)) rfl ?_
    refine mjT_ifF (nI_ge (by omega) (by omega)) ?_
    refine mjT_go 10 (pc' := 24) (L' := [some (.ref 0), some (.int (nI p)), some (.int (nI (tillsN O p k))), some (.int (nI k))]) (st' := [.int ((((nI 21) * (nI p)) + (nI 15)) + (nI k)), .ref 1, .int (nI (tillsN O p k))]) (w1 := (KM, I, J, GM)) rfl ?_
    refine mjT_ial (v := tI (O.till p k)) (((21 * p) + 15) + k) 1840 rfl (pc' := 25) rfl rfl (by simp only [nI_add, pk_mul]) (by omega) (by omega) (mo_at (hO.till p (show p < O.n by omega) k (by omega)) rfl (by omega)) ?_
    refine mjT_go 1 (pc' := if tI (O.till p k) < 0 then 32 else 28) (L' := [some (.ref 0), some (.int (nI p)), some (.int (nI (tillsN O p k))), some (.int (nI k))]) (st' := [.int (nI (tillsN O p k))]) (w1 := (KM, I, J, GM)) rfl ?_
    refine mjT_if (fun hq => ?_) (fun hq => ?_)
    · rw [tI_neg (by omega)] at hq
      refine mjT_go 1 (pc' := 33) (L' := [some (.ref 0), some (.int (nI p)), some (.int (nI (tillsN O p k))), some (.int (nI k))]) (st' := [.int (nI 0), .int (nI (tillsN O p k))]) (w1 := (KM, I, J, GM)) rfl ?_
      refine mjT_callE (as := [.int (nI 0)]) (rest := [.int (nI (tillsN O p k))]) rfl rfl rfl rfl rfl ⟨rfl, rfl⟩ (m_one (by omega) _) ?_
      refine mjT_go 4 (pc' := 4) (L' := [some (.ref 0), some (.int (nI p)), some (.int ((nI (tillsN O p k)) + (nI 0))), some (.int ((nI k) + (nI 1)))]) (st' := []) (w1 := (KM, I, J, GM)) rfl ?_
      refine hc _ _ ⟨?_, rfl⟩
      simp only [tillsN, if_pos hq, nI_add]
    · rw [tI_neg (by omega)] at hq
      refine mjT_go 2 (pc' := 33) (L' := [some (.ref 0), some (.int (nI p)), some (.int (nI (tillsN O p k))), some (.int (nI k))]) (st' := [.int (nI 1), .int (nI (tillsN O p k))]) (w1 := (KM, I, J, GM)) rfl ?_
      refine mjT_callE (as := [.int (nI 1)]) (rest := [.int (nI (tillsN O p k))]) rfl rfl rfl rfl rfl ⟨rfl, rfl⟩ (m_one (by omega) _) ?_
      refine mjT_go 4 (pc' := 4) (L' := [some (.ref 0), some (.int (nI p)), some (.int ((nI (tillsN O p k)) + (nI 1))), some (.int ((nI k) + (nI 1)))]) (st' := []) (w1 := (KM, I, J, GM)) rfl ?_
      refine hc _ _ ⟨?_, rfl⟩
      simp only [tillsN, if_neg hq, nI_add]
  · rintro _ _ ⟨rfl, rfl⟩
    refine mjT_go 3 (pc' := if nI 6 ≤ nI 6 then 44 else 10) (L' := [some (.ref 0), some (.int (nI p)), some (.int (nI (tillsN O p 6))), some (.int (nI 6))]) (st' := []) (w1 := (KM, I, J, GM)) rfl ?_
    refine mjT_ifT (Int32.le_refl _) ?_
    refine mjT_go 1 (pc' := 45) (L' := [some (.ref 0), some (.int (nI p)), some (.int (nI (tillsN O p 6))), some (.int (nI 6))]) (st' := [.int (nI (tillsN O p 6))]) (w1 := (KM, I, J, GM)) rfl ?_
    refine mjT_ret rfl rfl rfl ?_
    exact ⟨rfl, rfl⟩
theorem m_lastsOf (hV : VO O) (hO : MO I x O) (hx : x ≤ 1680) {p : Nat} (hp : p < O.n) : mj_Ev 143 [.ref 0, .int (nI x), .int (nI p)] (KM, I, J, GM) (KM, I, J, GM) (some (.int (nI (lastsN O p)))) := by
  refine mj_ev_of ?_
  have hn := hV.n
  have hk := hV.kind p hp
  have hl := hV.las
  unfold lastsN
  refine mjT_go 5 (pc' := 9) (L' := [some (.ref 0), some (.int (nI x)), some (.int (nI p)), none, none]) (st' := [.int ((nI x) + (nI 151)), .ref 1]) (w1 := (KM, I, J, GM)) rfl ?_
  refine mjT_ial (v := nI O.las) (x + 151) 1840 rfl (pc' := 10) rfl rfl (by simp only [nI_add, pk_mul]) (by omega) (by omega) (mo_at hO.las rfl (by omega)) ?_
  refine mjT_go 10 (pc' := 23) (L' := [some (.ref 0), some (.int (nI x)), some (.int (nI p)), some (.int (nI O.las)), none]) (st' := [.int (((nI x) + ((nI 21) * (nI p))) + (nI 0)), .ref 1]) (w1 := (KM, I, J, GM)) rfl ?_
  refine mjT_ial (v := nI (O.kind p)) ((x + (21 * p)) + 0) 1840 rfl (pc' := 24) rfl rfl (by simp only [nI_add, pk_mul]) (by omega) (by omega) (mo_at (hO.kind p (show p < O.n by omega)) rfl (by omega)) ?_
  refine mjT_go 4 (pc' := if ¬ nI (O.kind p) = nI 1 then 38 else 32) (L' := [some (.ref 0), some (.int (nI x)), some (.int (nI p)), some (.int (nI O.las)), some (.int (nI (O.kind p)))]) (st' := []) (w1 := (KM, I, J, GM)) rfl ?_
  refine mjT_if_ne (u := O.kind p) (v := 1) rfl rfl (by omega) (by omega) (fun hq => ?_) (fun hq => ?_)
  · rw [if_neg hq]
    refine mjT_go 3 (pc' := if ¬ nI (O.kind p) = nI 3 then 53 else 44) (L' := [some (.ref 0), some (.int (nI x)), some (.int (nI p)), some (.int (nI O.las)), some (.int (nI (O.kind p)))]) (st' := []) (w1 := (KM, I, J, GM)) rfl ?_
    refine mjT_if_ne (u := O.kind p) (v := 3) rfl rfl (by omega) (by omega) (fun hq3 => ?_) (fun hq3 => ?_)
    · rw [if_neg hq3]
      refine mjT_go 1 (pc' := 54) (L' := [some (.ref 0), some (.int (nI x)), some (.int (nI p)), some (.int (nI O.las)), some (.int (nI (O.kind p)))]) (st' := [.int (nI O.las)]) (w1 := (KM, I, J, GM)) rfl ?_
      refine mjT_ret rfl rfl rfl ?_
      exact ⟨rfl, rfl⟩
    · rw [if_pos hq3]
      refine mjT_go 6 (pc' := 54) (L' := [some (.ref 0), some (.int (nI x)), some (.int (nI p)), some (.int (nI O.las)), some (.int (nI (O.kind p)))]) (st' := [.int (((nI 2) * (nI O.las)) + (nI 7))]) (w1 := (KM, I, J, GM)) rfl ?_
      refine mjT_ret rfl rfl rfl ?_
      exact ⟨rfl, by simp only [nI_add, pk_mul]⟩
  · rw [if_pos hq]
    refine mjT_go 4 (pc' := 54) (L' := [some (.ref 0), some (.int (nI x)), some (.int (nI p)), some (.int (nI O.las)), some (.int (nI (O.kind p)))]) (st' := [.int ((nI 2) * (nI O.las))]) (w1 := (KM, I, J, GM)) rfl ?_
    refine mjT_ret rfl rfl rfl ?_
    exact ⟨rfl, by simp only [nI_add, pk_mul]⟩
theorem m_isDry (hV : VO O) (hO : MO I x O) (hx : x ≤ 1680) {p : Nat} (hp : p < O.n) : mj_Ev 164 [.ref 0, .int (nI x), .int (nI p)] (KM, I, J, GM) (KM, I, J, GM) (some (.int (nI (bitN O.dry (O.chair p))))) := by
  refine mj_ev_of ?_
  have hn := hV.n
  have hk := hV.chair p hp
  have hl := hV.dry
  have hb := bitN_lt O.dry (O.chair p)
  refine mjT_go 5 (pc' := 9) (L' := [some (.ref 0), some (.int (nI x)), some (.int (nI p))]) (st' := [.int ((nI x) + (nI 150)), .ref 1]) (w1 := (KM, I, J, GM)) rfl ?_
  refine mjT_ial (v := nI O.dry) (x + 150) 1840 rfl (pc' := 10) rfl rfl (by simp only [nI_add, pk_mul]) (by omega) (by omega) (mo_at hO.dry rfl (by omega)) ?_
  refine mjT_go 9 (pc' := 22) (L' := [some (.ref 0), some (.int (nI x)), some (.int (nI p))]) (st' := [.int (((nI x) + ((nI 21) * (nI p))) + (nI 2)), .ref 1, .int (nI O.dry)]) (w1 := (KM, I, J, GM)) rfl ?_
  refine mjT_ial (v := nI (O.chair p)) ((x + (21 * p)) + 2) 1840 rfl (pc' := 23) rfl rfl (by simp only [nI_add, pk_mul]) (by omega) (by omega) (mo_at (hO.chair p (show p < O.n by omega)) rfl (by omega)) ?_
  refine mjT_callE (as := [.int (nI O.dry), .int (nI (O.chair p))]) (rest := []) rfl rfl rfl rfl rfl ⟨rfl, rfl⟩ (m_has (by omega) (by omega)) ?_
  obtain hc | hc : bitN O.dry (O.chair p) = 0 ∨ bitN O.dry (O.chair p) = 1 := by omega
  · rw [hc]
    refine mjT_retb rfl rfl (by decide) ?_
    exact ⟨rfl, rfl⟩
  · rw [hc]
    refine mjT_retb rfl rfl (by decide) ?_
    exact ⟨rfl, rfl⟩
theorem m_isWet (hV : VO O) (hO : MO I x O) (hx : x ≤ 1680) : mj_Ev 168 [.ref 0, .int (nI x)] (KM, I, J, GM) (KM, I, J, GM) (some (.int (nI (wetN O)))) := by
  refine mj_ev_of ?_
  have hn := hV.wet
  have hd := hV.day
  have hm : O.day % 30 < 30 := Nat.mod_lt _ (by omega)
  have hb := bitN_lt O.wet (O.day % 30)
  unfold wetN
  refine mjT_go 5 (pc' := 9) (L' := [some (.ref 0), some (.int (nI x))]) (st' := [.int ((nI x) + (nI 149)), .ref 1]) (w1 := (KM, I, J, GM)) rfl ?_
  refine mjT_ial (v := nI O.wet) (x + 149) 1840 rfl (pc' := 10) rfl rfl (by simp only [nI_add, pk_mul]) (by omega) (by omega) (mo_at hO.wet rfl (by omega)) ?_
  refine mjT_go 5 (pc' := 19) (L' := [some (.ref 0), some (.int (nI x))]) (st' := [.int ((nI x) + (nI 148)), .ref 1, .int (nI O.wet)]) (w1 := (KM, I, J, GM)) rfl ?_
  refine mjT_ial (v := nI O.day) (x + 148) 1840 rfl (pc' := 20) rfl rfl (by simp only [nI_add, pk_mul]) (by omega) (by omega) (mo_at hO.day rfl (by omega)) ?_
  refine mjT_go 1 (pc' := 22) (L' := [some (.ref 0), some (.int (nI x))]) (st' := [.int (nI 30), .int (nI O.day), .int (nI O.wet)]) (w1 := (KM, I, J, GM)) rfl ?_
  refine mjT_remN (u := O.day) (v := 30) rfl (pc' := 23) rfl rfl rfl (by omega) (by omega) (by omega) ?_
  refine mjT_callE (as := [.int (nI O.wet), .int (nI (O.day % 30))]) (rest := []) rfl rfl rfl rfl rfl ⟨rfl, rfl⟩ (m_has (by omega) (by omega)) ?_
  obtain hc | hc : bitN O.wet (O.day % 30) = 0 ∨ bitN O.wet (O.day % 30) = 1 := by omega
  · rw [hc]
    refine mjT_retb rfl rfl (by decide) ?_
    exact ⟨rfl, rfl⟩
  · rw [hc]
    refine mjT_retb rfl rfl (by decide) ?_
    exact ⟨rfl, rfl⟩
theorem m_looksAt (hV : VO O) (hO : MO I x O) (hx : x ≤ 1680) {p : Nat} (hp : p < O.n) : mj_Ev 165 [.ref 0, .int (nI x), .int (nI p)] (KM, I, J, GM) (KM, I, J, GM) (some (.int (tI (looksN O p O.n)))) := by
  refine mj_ev_of ?_
  have hn := hV.n
  have hcp := hV.chair p hp
  have hsp := hV.str p hp
  refine mjT_go 4 (pc' := 6) (L' := [some (.ref 0), some (.int (nI x)), some (.int (nI p)), some (.int (-4)), some (.int (nI 0)), none, none]) (st' := []) (w1 := (KM, I, J, GM)) rfl ?_
  refine mj_loop (fun k L w => ∃ d e : Option Value, L = [some (.ref 0), some (.int (nI x)), some (.int (nI p)), some (.int (tI (looksN O p k))), some (.int (nI k)), d, e] ∧ w = (KM, I, J, GM)) O.n (k0 := 0) (Nat.zero_le _) ?_ ?_ ?_
  · exact ⟨_, _, rfl, rfl⟩
  · rintro k _ _ hk ⟨d, e, rfl, rfl⟩ hc
    have hck := hV.chair k hk
    have hsk := hV.str k hk
    have hb := looksN_le O p k
    have hbd := bitN_lt O.dry (O.chair k)
    refine mjT_go 6 (pc' := 17) (L' := [some (.ref 0), some (.int (nI x)), some (.int (nI p)), some (.int (tI (looksN O p k))), some (.int (nI k)), d, e]) (st' := [.int ((nI x) + (nI 147)), .ref 1, .int (nI k)]) (w1 := (KM, I, J, GM)) rfl ?_
    refine mjT_ial (v := nI O.n) (x + 147) 1840 rfl (pc' := 18) rfl rfl (by simp only [nI_add, pk_mul]) (by omega) (by omega) (mo_at hO.n rfl (by omega)) ?_
    refine mjT_go 1 (pc' := if nI O.n ≤ nI k then 162 else 21) (L' := [some (.ref 0), some (.int (nI x)), some (.int (nI p)), some (.int (tI (looksN O p k))), some (.int (nI k)), d, e]) (st' := []) (w1 := (KM, I, J, GM)) rfl ?_
    refine mjT_ifF (nI_ge (by omega) (by omega)) ?_
    refine mjT_cut (P := fun b => b = if mayN O p k then 1 else 0) (pc1 := 108) (L1 := fun b => [some (.ref 0), some (.int (nI x)), some (.int (nI p)), some (.int (tI (looksN O p k))), some (.int (nI k)), some (.int (nI (O.chair k) - nI (O.chair p))), e]) (st1 := fun b => [.int (nI b)]) (w1 := fun _ => (KM, I, J, GM)) (fun b hb => ?_) (fun h108 => ?_)
    · have hb2 : b < 2 := by split at hb <;> omega
      refine mjT_go 3 (pc' := if nI b = 0 then 154 else 115) (L' := [some (.ref 0), some (.int (nI x)), some (.int (nI p)), some (.int (tI (looksN O p k))), some (.int (nI k)), some (.int (nI (O.chair k) - nI (O.chair p))), some (.int (nI b))]) (st' := []) (w1 := (KM, I, J, GM)) rfl ?_
      refine mjT_if_eq (u := b) (v := 0) rfl nI_0.symm (by omega) (by omega) (fun hm => ?_) (fun hm => ?_)
      · have hm' : ¬ mayN O p k := by intro q; rw [if_pos q] at hb; omega
        refine mjT_go 4 (pc' := 6) (L' := [some (.ref 0), some (.int (nI x)), some (.int (nI p)), some (.int (tI (looksN O p k))), some (.int ((nI k) + (nI 1))), some (.int (nI (O.chair k) - nI (O.chair p))), some (.int (nI b))]) (st' := []) (w1 := (KM, I, J, GM)) rfl ?_
        rw [nI_add, ← show tI (looksN O p (k + 1)) = tI (looksN O p k) by simp only [looksN, if_neg (fun q => hm' (And.left q))]]
        exact hc _ _ ⟨_, _, rfl, rfl⟩
      · have hm' : mayN O p k := by
          by_cases q : mayN O p k
          · exact q
          · rw [if_neg q] at hb; omega
        refine mjT_go 2 (pc' := if tI (looksN O p k) < 0 then 149 else 119) (L' := [some (.ref 0), some (.int (nI x)), some (.int (nI p)), some (.int (tI (looksN O p k))), some (.int (nI k)), some (.int (nI (O.chair k) - nI (O.chair p))), some (.int (nI b))]) (st' := []) (w1 := (KM, I, J, GM)) rfl ?_
        refine mjT_if (fun hl => ?_) (fun hl => ?_)
        · rw [tI_neg (by omega)] at hl
          refine mjT_go 5 (pc' := 6) (L' := [some (.ref 0), some (.int (nI x)), some (.int (nI p)), some (.int (nI k)), some (.int ((nI k) + (nI 1))), some (.int (nI (O.chair k) - nI (O.chair p))), some (.int (nI b))]) (st' := []) (w1 := (KM, I, J, GM)) rfl ?_
          rw [nI_add, ← show tI (looksN O p (k + 1)) = nI k by simp only [looksN, if_pos (show mayN O p k ∧ (looksN O p k = 0 ∨ O.str (looksN O p k - 1) < O.str k) from ⟨hm', Or.inl hl⟩), tI_s]]
          exact hc _ _ ⟨_, _, rfl, rfl⟩
        · rw [tI_neg (by omega)] at hl
          obtain ⟨g, hg⟩ : ∃ g, looksN O p k = g + 1 := ⟨looksN O p k - 1, by omega⟩
          have hsg := hV.str g (by omega)
          rw [hg, tI_s]
          refine mjT_go 9 (pc' := 132) (L' := [some (.ref 0), some (.int (nI x)), some (.int (nI p)), some (.int (nI g)), some (.int (nI k)), some (.int (nI (O.chair k) - nI (O.chair p))), some (.int (nI b))]) (st' := [.int (((nI x) + ((nI 21) * (nI k))) + (nI 1)), .ref 1]) (w1 := (KM, I, J, GM)) rfl ?_
          refine mjT_ial (v := nI (O.str k)) ((x + (21 * k)) + 1) 1840 rfl (pc' := 133) rfl rfl (by simp only [nI_add, pk_mul]) (by omega) (by omega) (mo_at (hO.str k (show k < O.n by omega)) rfl (by omega)) ?_
          refine mjT_go 9 (pc' := 145) (L' := [some (.ref 0), some (.int (nI x)), some (.int (nI p)), some (.int (nI g)), some (.int (nI k)), some (.int (nI (O.chair k) - nI (O.chair p))), some (.int (nI b))]) (st' := [.int (((nI x) + ((nI 21) * (nI g))) + (nI 1)), .ref 1, .int (nI (O.str k))]) (w1 := (KM, I, J, GM)) rfl ?_
          refine mjT_ial (v := nI (O.str g)) ((x + (21 * g)) + 1) 1840 rfl (pc' := 146) rfl rfl (by simp only [nI_add, pk_mul]) (by omega) (by omega) (mo_at (hO.str g (show g < O.n by omega)) rfl (by omega)) ?_
          refine mjT_go 1 (pc' := if nI (O.str k) ≤ nI (O.str g) then 154 else 149) (L' := [some (.ref 0), some (.int (nI x)), some (.int (nI p)), some (.int (nI g)), some (.int (nI k)), some (.int (nI (O.chair k) - nI (O.chair p))), some (.int (nI b))]) (st' := []) (w1 := (KM, I, J, GM)) rfl ?_
          refine mjT_if_le (u := O.str k) (v := O.str g) rfl rfl (by omega) (by omega) (fun hs => ?_) (fun hs => ?_)
          · refine mjT_go 4 (pc' := 6) (L' := [some (.ref 0), some (.int (nI x)), some (.int (nI p)), some (.int (nI g)), some (.int ((nI k) + (nI 1))), some (.int (nI (O.chair k) - nI (O.chair p))), some (.int (nI b))]) (st' := []) (w1 := (KM, I, J, GM)) rfl ?_
            rw [nI_add, ← show tI (looksN O p (k + 1)) = nI g by simp only [looksN, hg, if_neg (show ¬ (mayN O p k ∧ (g + 1 = 0 ∨ O.str (g + 1 - 1) < O.str k)) from fun q => by rw [Nat.add_sub_cancel] at q; omega), tI_s]]
            exact hc _ _ ⟨_, _, rfl, rfl⟩
          · refine mjT_go 5 (pc' := 6) (L' := [some (.ref 0), some (.int (nI x)), some (.int (nI p)), some (.int (nI k)), some (.int ((nI k) + (nI 1))), some (.int (nI (O.chair k) - nI (O.chair p))), some (.int (nI b))]) (st' := []) (w1 := (KM, I, J, GM)) rfl ?_
            rw [nI_add, ← show tI (looksN O p (k + 1)) = nI k by simp only [looksN, hg, if_pos (show mayN O p k ∧ (g + 1 = 0 ∨ O.str (g + 1 - 1) < O.str k) from ⟨hm', Or.inr (by rw [Nat.add_sub_cancel]; omega)⟩), tI_s]]
            exact hc _ _ ⟨_, _, rfl, rfl⟩
    · refine mjT_go 9 (pc' := 34) (L' := [some (.ref 0), some (.int (nI x)), some (.int (nI p)), some (.int (tI (looksN O p k))), some (.int (nI k)), d, e]) (st' := [.int (((nI x) + ((nI 21) * (nI k))) + (nI 2)), .ref 1]) (w1 := (KM, I, J, GM)) rfl ?_
      refine mjT_ial (v := nI (O.chair k)) ((x + (21 * k)) + 2) 1840 rfl (pc' := 35) rfl rfl (by simp only [nI_add, pk_mul]) (by omega) (by omega) (mo_at (hO.chair k (show k < O.n by omega)) rfl (by omega)) ?_
      refine mjT_go 9 (pc' := 47) (L' := [some (.ref 0), some (.int (nI x)), some (.int (nI p)), some (.int (tI (looksN O p k))), some (.int (nI k)), d, e]) (st' := [.int (((nI x) + ((nI 21) * (nI p))) + (nI 2)), .ref 1, .int (nI (O.chair k))]) (w1 := (KM, I, J, GM)) rfl ?_
      refine mjT_ial (v := nI (O.chair p)) ((x + (21 * p)) + 2) 1840 rfl (pc' := 48) rfl rfl (by simp only [nI_add, pk_mul]) (by omega) (by omega) (mo_at (hO.chair p (show p < O.n by omega)) rfl (by omega)) ?_
      refine mjT_go 5 (pc' := if (nI (O.chair k)) - (nI (O.chair p)) = nI 1 then 63 else 57) (L' := [some (.ref 0), some (.int (nI x)), some (.int (nI p)), some (.int (tI (looksN O p k))), some (.int (nI k)), some (.int ((nI (O.chair k)) - (nI (O.chair p)))), e]) (st' := []) (w1 := (KM, I, J, GM)) rfl ?_
      refine mjT_cut (P := fun b => b = 0 ∧ (O.chair k = O.chair p + 1 ∨ O.chair p = O.chair k + 1)) (pc1 := 63) (L1 := fun b => [some (.ref 0), some (.int (nI x)), some (.int (nI p)), some (.int (tI (looksN O p k))), some (.int (nI k)), some (.int (nI (O.chair k) - nI (O.chair p))), e]) (st1 := fun b => []) (w1 := fun _ => (KM, I, J, GM)) (fun b hb => ?_) (fun h63 => ?_)
      · obtain ⟨rfl, hf⟩ := hb
        refine mjT_go 3 (pc' := 67) (L' := [some (.ref 0), some (.int (nI x)), some (.int (nI p)), some (.int (tI (looksN O p k))), some (.int (nI k)), some (.int (nI (O.chair k) - nI (O.chair p))), e]) (st' := [.int (nI k), .int (nI x), .ref 0]) (w1 := (KM, I, J, GM)) rfl ?_
        refine mjT_callE (as := [.ref 0, .int (nI x), .int (nI k)]) (rest := []) rfl rfl rfl rfl rfl ⟨rfl, rfl⟩ (m_isDry hV hO hx hk) ?_
        refine mjT_go 1 (pc' := if ¬ nI (bitN O.dry (O.chair k)) = 0 then 107 else 73) (L' := [some (.ref 0), some (.int (nI x)), some (.int (nI p)), some (.int (tI (looksN O p k))), some (.int (nI k)), some (.int (nI (O.chair k) - nI (O.chair p))), e]) (st' := []) (w1 := (KM, I, J, GM)) rfl ?_
        refine mjT_if_ne (u := bitN O.dry (O.chair k)) (v := 0) rfl nI_0.symm (by omega) (by omega) (fun hd => ?_) (fun hd => ?_)
        · refine mjT_go 1 (pc' := 108) (L' := [some (.ref 0), some (.int (nI x)), some (.int (nI p)), some (.int (tI (looksN O p k))), some (.int (nI k)), some (.int (nI (O.chair k) - nI (O.chair p))), e]) (st' := [.int (nI 0)]) (w1 := (KM, I, J, GM)) rfl ?_
          exact h108 0 (by rw [if_neg (fun q => hd q.2.1)])
        · refine mjT_go 9 (pc' := 86) (L' := [some (.ref 0), some (.int (nI x)), some (.int (nI p)), some (.int (tI (looksN O p k))), some (.int (nI k)), some (.int (nI (O.chair k) - nI (O.chair p))), e]) (st' := [.int (((nI x) + ((nI 21) * (nI k))) + (nI 1)), .ref 1]) (w1 := (KM, I, J, GM)) rfl ?_
          refine mjT_ial (v := nI (O.str k)) ((x + (21 * k)) + 1) 1840 rfl (pc' := 87) rfl rfl (by simp only [nI_add, pk_mul]) (by omega) (by omega) (mo_at (hO.str k (show k < O.n by omega)) rfl (by omega)) ?_
          refine mjT_go 9 (pc' := 99) (L' := [some (.ref 0), some (.int (nI x)), some (.int (nI p)), some (.int (tI (looksN O p k))), some (.int (nI k)), some (.int (nI (O.chair k) - nI (O.chair p))), e]) (st' := [.int (((nI x) + ((nI 21) * (nI p))) + (nI 1)), .ref 1, .int (nI (O.str k))]) (w1 := (KM, I, J, GM)) rfl ?_
          refine mjT_ial (v := nI (O.str p)) ((x + (21 * p)) + 1) 1840 rfl (pc' := 100) rfl rfl (by simp only [nI_add, pk_mul]) (by omega) (by omega) (mo_at (hO.str p (show p < O.n by omega)) rfl (by omega)) ?_
          refine mjT_go 1 (pc' := if nI (O.str k) ≤ nI (O.str p) then 107 else 103) (L' := [some (.ref 0), some (.int (nI x)), some (.int (nI p)), some (.int (tI (looksN O p k))), some (.int (nI k)), some (.int (nI (O.chair k) - nI (O.chair p))), e]) (st' := []) (w1 := (KM, I, J, GM)) rfl ?_
          refine mjT_if_le (u := O.str k) (v := O.str p) rfl rfl (by omega) (by omega) (fun hs => ?_) (fun hs => ?_)
          · refine mjT_go 1 (pc' := 108) (L' := [some (.ref 0), some (.int (nI x)), some (.int (nI p)), some (.int (tI (looksN O p k))), some (.int (nI k)), some (.int (nI (O.chair k) - nI (O.chair p))), e]) (st' := [.int (nI 0)]) (w1 := (KM, I, J, GM)) rfl ?_
            exact h108 0 (by rw [if_neg (fun q => by have := q.2.2; omega)])
          · refine mjT_go 2 (pc' := 108) (L' := [some (.ref 0), some (.int (nI x)), some (.int (nI p)), some (.int (tI (looksN O p k))), some (.int (nI k)), some (.int (nI (O.chair k) - nI (O.chair p))), e]) (st' := [.int (nI 1)]) (w1 := (KM, I, J, GM)) rfl ?_
            exact h108 1 (by rw [if_pos ⟨hf, hd, hs⟩])
      · refine mjT_if (fun h1 => ?_) (fun h1 => ?_)
        · exact h63 0 ⟨rfl, Or.inl ((far_1 _ hck _ hcp).mp h1)⟩
        · rw [far_1 _ hck _ hcp] at h1
          refine mjT_go 3 (pc' := if ¬ (nI (O.chair k)) - (nI (O.chair p)) = (-1) then 107 else 63) (L' := [some (.ref 0), some (.int (nI x)), some (.int (nI p)), some (.int (tI (looksN O p k))), some (.int (nI k)), some (.int ((nI (O.chair k)) - (nI (O.chair p)))), e]) (st' := []) (w1 := (KM, I, J, GM)) rfl ?_
          refine mjT_if (fun h2 => ?_) (fun h2 => ?_)
          · rw [far_m _ hck _ hcp] at h2
            refine mjT_go 1 (pc' := 108) (L' := [some (.ref 0), some (.int (nI x)), some (.int (nI p)), some (.int (tI (looksN O p k))), some (.int (nI k)), some (.int ((nI (O.chair k)) - (nI (O.chair p)))), e]) (st' := [.int (nI 0)]) (w1 := (KM, I, J, GM)) rfl ?_
            exact h108 0 (by rw [if_neg (fun q => q.1.elim h1 h2)])
          · have h2 := Decidable.not_not.mp h2
            rw [far_m _ hck _ hcp] at h2
            exact h63 0 ⟨rfl, Or.inr h2⟩
  · rintro _ _ ⟨d, e, rfl, rfl⟩
    refine mjT_go 6 (pc' := 17) (L' := [some (.ref 0), some (.int (nI x)), some (.int (nI p)), some (.int (tI (looksN O p O.n))), some (.int (nI O.n)), d, e]) (st' := [.int ((nI x) + (nI 147)), .ref 1, .int (nI O.n)]) (w1 := (KM, I, J, GM)) rfl ?_
    refine mjT_ial (v := nI O.n) (x + 147) 1840 rfl (pc' := 18) rfl rfl (by simp only [nI_add, pk_mul]) (by omega) (by omega) (mo_at hO.n rfl (by omega)) ?_
    refine mjT_go 1 (pc' := if nI O.n ≤ nI O.n then 162 else 21) (L' := [some (.ref 0), some (.int (nI x)), some (.int (nI p)), some (.int (tI (looksN O p O.n))), some (.int (nI O.n)), d, e]) (st' := []) (w1 := (KM, I, J, GM)) rfl ?_
    refine mjT_ifT (Int32.le_refl _) ?_
    refine mjT_go 1 (pc' := 163) (L' := [some (.ref 0), some (.int (nI x)), some (.int (nI p)), some (.int (tI (looksN O p O.n))), some (.int (nI O.n)), d, e]) (st' := [.int (tI (looksN O p O.n))]) (w1 := (KM, I, J, GM)) rfl ?_
    refine mjT_ret rfl rfl rfl ?_
    exact ⟨rfl, rfl⟩
end M1
