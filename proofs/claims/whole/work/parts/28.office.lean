section O1
variable {I : Nat → Nat → Int32} {J : Nat → Nat → Int64} {o : Nat} {O : Off} {P : Nat → Prop}
theorem c_has (hV : VO O) (hG : OfG o) (hO : RO I o O P) {x : Int32} : mj_Ev 12 [.ref o, .int x] (KC, I, J, GC) (KC, I, J, GC) (some (.int (nI (iP x O.n)))) := by
  refine mj_ev_of ?_
  have hn := hV.n
  unfold iP
  refine mjT_go 2 (pc' := if x < 0 then 22 else 4) (L' := [some (.ref o), some (.int x)]) (st' := []) (w1 := (KC, I, J, GC)) rfl ?_
  refine mjT_if (fun h1 => ?_) (fun h1 => ?_)
  · rw [if_neg (fun q => i32_nlt.mpr q.1 h1)]
    refine mjT_go 1 (pc' := 23) (L' := [some (.ref o), some (.int x)]) (st' := [.int (nI 0)]) (w1 := (KC, I, J, GC)) rfl ?_
    refine mjT_retb rfl rfl (by decide) ?_
    exact ⟨rfl, rfl⟩
  · rw [i32_nlt] at h1
    refine mjT_go 2 (pc' := 6) (L' := [some (.ref o), some (.int x)]) (st' := [.ref o, .int x]) (w1 := (KC, I, J, GC)) rfl ?_
    refine mjT_gfi (v := nI O.n) rfl (Or.inl rfl) (pc' := 9) rfl hG.k0 (mo_at (hO.n) (by omega) (by omega)) ?_
    refine mjT_go 1 (pc' := if nI O.n ≤ x then 22 else 12) (L' := [some (.ref o), some (.int x)]) (st' := []) (w1 := (KC, I, J, GC)) rfl ?_
    refine mjT_if (fun h2 => ?_) (fun h2 => ?_)
    · rw [if_neg (fun q => i32_nlt.mpr h2 q.2)]
      refine mjT_go 1 (pc' := 23) (L' := [some (.ref o), some (.int x)]) (st' := [.int (nI 0)]) (w1 := (KC, I, J, GC)) rfl ?_
      refine mjT_retb rfl rfl (by decide) ?_
      exact ⟨rfl, rfl⟩
    · rw [i32_nle] at h2
      rw [if_pos ⟨h1, h2⟩]
      refine mjT_go 3 (pc' := if nI 7 ≤ x then 22 else 18) (L' := [some (.ref o), some (.int x)]) (st' := []) (w1 := (KC, I, J, GC)) rfl ?_
      have h3 : ¬ nI 7 ≤ x := by
        rw [i32_nle]
        have := nI_toInt (n := O.n) (by omega)
        have h7 := nI_toInt (n := 7) (by omega)
        rw [Int32.lt_iff_toInt_lt] at h2 ⊢
        omega
      refine mjT_ifF h3 ?_
      refine mjT_go 2 (pc' := 23) (L' := [some (.ref o), some (.int x)]) (st' := [.int (nI 1)]) (w1 := (KC, I, J, GC)) rfl ?_
      refine mjT_retb rfl rfl (by decide) ?_
      exact ⟨rfl, rfl⟩
theorem c_isDry (hV : VO O) (hG : OfG o) (hO : RO I o O P) {c : Nat} (hc : c < 8) : mj_Ev 20 [.ref o, .int (nI c)] (KC, I, J, GC) (KC, I, J, GC) (some (.int (nI (bitN O.dry c)))) := by
  refine mj_ev_of ?_
  have hd := hV.dry
  have hb := bitN_lt O.dry c
  refine mjT_go 1 (pc' := 1) (L' := [some (.ref o), some (.int (nI c))]) (st' := [.ref o]) (w1 := (KC, I, J, GC)) rfl ?_
  refine mjT_gfi (v := nI O.dry) rfl (Or.inl rfl) (pc' := 4) rfl hG.k0 (mo_at (hO.dry) (by omega) (by omega)) ?_
  refine mjT_go 4 (pc' := 8) (L' := [some (.ref o), some (.int (nI c))]) (st' := [.int (((nI O.dry) >>> ((nI c) &&& 31)) &&& (nI 1))]) (w1 := (KC, I, J, GC)) rfl ?_
  rw [bit_at (by omega) (by omega)]
  refine mjT_go 2 (pc' := if ¬ nI (bitN O.dry c) = nI 1 then 16 else 12) (L' := [some (.ref o), some (.int (nI c))]) (st' := []) (w1 := (KC, I, J, GC)) rfl ?_
  refine mjT_if_ne (u := bitN O.dry c) (v := 1) rfl rfl (by omega) (by omega) (fun hc => ?_) (fun hc => ?_)
  · refine mjT_go 1 (pc' := 17) (L' := [some (.ref o), some (.int (nI c))]) (st' := [.int (nI 0)]) (w1 := (KC, I, J, GC)) rfl ?_
    rw [show bitN O.dry c = 0 by omega]
    refine mjT_retb rfl rfl (by decide) ?_
    exact ⟨rfl, rfl⟩
  · refine mjT_go 2 (pc' := 17) (L' := [some (.ref o), some (.int (nI c))]) (st' := [.int (nI 1)]) (w1 := (KC, I, J, GC)) rfl ?_
    rw [hc]
    refine mjT_retb rfl rfl (by decide) ?_
    exact ⟨rfl, rfl⟩
theorem c_isWet (hV : VO O) (hG : OfG o) (hO : RO I o O P) : mj_Ev 21 [.ref o] (KC, I, J, GC) (KC, I, J, GC) (some (.int (nI (wetN O)))) := by
  refine mj_ev_of ?_
  have hd := hV.wet
  have hdy := hV.day
  have hm : O.day % 30 < 30 := Nat.mod_lt _ (by omega)
  have hb := bitN_lt O.wet (O.day % 30)
  unfold wetN
  refine mjT_go 1 (pc' := 1) (L' := [some (.ref o)]) (st' := [.ref o]) (w1 := (KC, I, J, GC)) rfl ?_
  refine mjT_gfi (v := nI O.wet) rfl (Or.inl rfl) (pc' := 4) rfl hG.k0 (mo_at (hO.wet) (by omega) (by omega)) ?_
  refine mjT_go 1 (pc' := 5) (L' := [some (.ref o)]) (st' := [.ref o, .int (nI O.wet)]) (w1 := (KC, I, J, GC)) rfl ?_
  refine mjT_gfr (h' := (o + 1)) rfl (pc' := 8) rfl hG.k0 hG.r1 ?_
  refine mjT_gfi (v := nI O.day) rfl (Or.inl rfl) (pc' := 11) rfl hG.k1 (mo_at (hO.day) (by omega) (by omega)) ?_
  refine mjT_go 1 (pc' := 13) (L' := [some (.ref o)]) (st' := [.int (nI 30), .int (nI O.day), .int (nI O.wet)]) (w1 := (KC, I, J, GC)) rfl ?_
  refine mjT_remN (u := O.day) (v := 30) rfl (pc' := 14) rfl rfl rfl (by omega) (by omega) (by omega) ?_
  refine mjT_go 3 (pc' := 17) (L' := [some (.ref o)]) (st' := [.int (((nI O.wet) >>> ((nI (O.day % 30)) &&& 31)) &&& (nI 1))]) (w1 := (KC, I, J, GC)) rfl ?_
  rw [bit_at (by omega) (by omega)]
  refine mjT_go 2 (pc' := if ¬ nI (bitN O.wet (O.day % 30)) = nI 1 then 25 else 21) (L' := [some (.ref o)]) (st' := []) (w1 := (KC, I, J, GC)) rfl ?_
  refine mjT_if_ne (u := bitN O.wet (O.day % 30)) (v := 1) rfl rfl (by omega) (by omega) (fun hc => ?_) (fun hc => ?_)
  · refine mjT_go 1 (pc' := 26) (L' := [some (.ref o)]) (st' := [.int (nI 0)]) (w1 := (KC, I, J, GC)) rfl ?_
    rw [show bitN O.wet (O.day % 30) = 0 by omega]
    refine mjT_retb rfl rfl (by decide) ?_
    exact ⟨rfl, rfl⟩
  · refine mjT_go 2 (pc' := 26) (L' := [some (.ref o)]) (st' := [.int (nI 1)]) (w1 := (KC, I, J, GC)) rfl ?_
    rw [hc]
    refine mjT_retb rfl rfl (by decide) ?_
    exact ⟨rfl, rfl⟩
theorem c_chairOf (hV : VO O) (hG : OfG o) (hO : RO I o O P) {p : Nat} (hp : p < O.n) : mj_Ev 18 [.ref o, .int (nI p)] (KC, I, J, GC) (KC, I, J, GC) (some (.int (nI (O.chair p)))) := by
  refine mj_ev_of ?_
  have hn := hV.n
  have hcp := hV.chair p hp
  refine mjT_go 2 (pc' := 2) (L' := [some (.ref o), some (.int (nI p)), some (.int (nI 0))]) (st' := []) (w1 := (KC, I, J, GC)) rfl ?_
  refine mj_loop (fun k L w => L = [some (.ref o), some (.int (nI p)), some (.int (nI k))] ∧ w = (KC, I, J, GC)) (O.chair p) (k0 := 0) (Nat.zero_le _) ?_ ?_ ?_
  · exact ⟨rfl, rfl⟩
  · rintro k _ _ hk ⟨rfl, rfl⟩ hc
    have hs := sitr_le O k
    refine mjT_go 3 (pc' := if nI 8 ≤ nI k then 26 else 8) (L' := [some (.ref o), some (.int (nI p)), some (.int (nI k))]) (st' := []) (w1 := (KC, I, J, GC)) rfl ?_
    refine mjT_ifF (nI_ge (by omega) (by omega)) ?_
    refine mjT_go 1 (pc' := 9) (L' := [some (.ref o), some (.int (nI p)), some (.int (nI k))]) (st' := [.ref o]) (w1 := (KC, I, J, GC)) rfl ?_
    refine mjT_gfr (h' := (o + 7)) rfl (pc' := 12) rfl hG.k0 hG.r7 ?_
    refine mjT_go 1 (pc' := 13) (L' := [some (.ref o), some (.int (nI p)), some (.int (nI k))]) (st' := [.int (nI k), .ref (o + 7)]) (w1 := (KC, I, J, GC)) rfl ?_
    refine mjT_ial (v := sI (sitr O k)) k 8 rfl (pc' := 14) rfl hG.k7 rfl (by omega) (by omega) (mo_at (hO.sit k (by omega)) (by omega) (by omega)) ?_
    refine mjT_go 2 (pc' := if ¬ sI (sitr O k) = nI p then 20 else 18) (L' := [some (.ref o), some (.int (nI p)), some (.int (nI k))]) (st' := []) (w1 := (KC, I, J, GC)) rfl ?_
    refine mjT_if (fun h1 => ?_) (fun h1 => ?_)
    · refine mjT_go 2 (pc' := 2) (L' := [some (.ref o), some (.int (nI p)), some (.int ((nI k) + (nI 1)))]) (st' := []) (w1 := (KC, I, J, GC)) rfl ?_
      rw [nI_add]
      exact hc _ _ ⟨rfl, rfl⟩
    · have h1 := Decidable.not_not.mp h1
      rw [sI_eq (by omega) (by omega), sitr_iff hV] at h1
      omega
  · rintro _ _ ⟨rfl, rfl⟩
    refine mjT_go 3 (pc' := if nI 8 ≤ nI (O.chair p) then 26 else 8) (L' := [some (.ref o), some (.int (nI p)), some (.int (nI (O.chair p)))]) (st' := []) (w1 := (KC, I, J, GC)) rfl ?_
    refine mjT_ifF (nI_ge (by omega) (by omega)) ?_
    refine mjT_go 1 (pc' := 9) (L' := [some (.ref o), some (.int (nI p)), some (.int (nI (O.chair p)))]) (st' := [.ref o]) (w1 := (KC, I, J, GC)) rfl ?_
    refine mjT_gfr (h' := (o + 7)) rfl (pc' := 12) rfl hG.k0 hG.r7 ?_
    refine mjT_go 1 (pc' := 13) (L' := [some (.ref o), some (.int (nI p)), some (.int (nI (O.chair p)))]) (st' := [.int (nI (O.chair p)), .ref (o + 7)]) (w1 := (KC, I, J, GC)) rfl ?_
    refine mjT_ial (v := sI (sitr O (O.chair p))) (O.chair p) 8 rfl (pc' := 14) rfl hG.k7 rfl (by omega) (by omega) (mo_at (hO.sit (O.chair p) (by omega)) (by omega) (by omega)) ?_
    refine mjT_go 2 (pc' := if ¬ sI (sitr O (O.chair p)) = nI p then 20 else 18) (L' := [some (.ref o), some (.int (nI p)), some (.int (nI (O.chair p)))]) (st' := []) (w1 := (KC, I, J, GC)) rfl ?_
    rw [sitr_at hV hp, sI_s]
    refine mjT_ifF (fun q => q rfl) ?_
    refine mjT_go 1 (pc' := 19) (L' := [some (.ref o), some (.int (nI p)), some (.int (nI (O.chair p)))]) (st' := [.int (nI (O.chair p))]) (w1 := (KC, I, J, GC)) rfl ?_
    refine mjT_ret rfl rfl rfl ?_
    exact ⟨rfl, rfl⟩
theorem c_lastsFrom (hV : VO O) (hG : OfG o) (hO : RO I o O P) {p : Nat} (hp : p < O.n) : mj_Ev 23 [.ref o, .int (nI p)] (KC, I, J, GC) (KC, I, J, GC) (some (.int (nI (lastsN O p)))) := by
  refine mj_ev_of ?_
  have hn := hV.n
  have hk := hV.kind p hp
  have hl := hV.las
  unfold lastsN
  refine mjT_go 1 (pc' := 1) (L' := [some (.ref o), some (.int (nI p))]) (st' := [.ref o]) (w1 := (KC, I, J, GC)) rfl ?_
  refine mjT_gfr (h' := (o + 4)) rfl (pc' := 4) rfl hG.k0 hG.r4 ?_
  refine mjT_go 1 (pc' := 5) (L' := [some (.ref o), some (.int (nI p))]) (st' := [.int (nI p), .ref (o + 4)]) (w1 := (KC, I, J, GC)) rfl ?_
  refine mjT_ial (v := nI (O.kind p)) p 7 rfl (pc' := 6) rfl hG.k4 rfl (by omega) (by omega) (mo_at (hO.kind p (show p < O.n by omega)) (by omega) (by omega)) ?_
  refine mjT_go 1 (pc' := (if nI (O.kind p) = nI 1 then 32 else (if nI (O.kind p) = nI 3 then 39 else 49))) (L' := [some (.ref o), some (.int (nI p))]) (st' := []) (w1 := (KC, I, J, GC)) rfl ?_
  refine mjT_if_eq (u := O.kind p) (v := 1) rfl rfl (by omega) (by omega) (fun h1 => ?_) (fun h1 => ?_)
  · rw [if_pos h1]
    refine mjT_go 2 (pc' := 34) (L' := [some (.ref o), some (.int (nI p))]) (st' := [.ref o, .int (nI 2)]) (w1 := (KC, I, J, GC)) rfl ?_
    refine mjT_gfi (v := nI O.las) rfl (Or.inl rfl) (pc' := 37) rfl hG.k0 (mo_at (hO.las) (by omega) (by omega)) ?_
    refine mjT_go 1 (pc' := 38) (L' := [some (.ref o), some (.int (nI p))]) (st' := [.int ((nI 2) * (nI O.las))]) (w1 := (KC, I, J, GC)) rfl ?_
    refine mjT_ret rfl rfl rfl ?_
    exact ⟨rfl, by simp only [pk_mul]⟩
  · rw [if_neg h1]
    refine mjT_if_eq (u := O.kind p) (v := 3) rfl rfl (by omega) (by omega) (fun h3 => ?_) (fun h3 => ?_)
    · rw [if_pos h3]
      refine mjT_go 2 (pc' := 41) (L' := [some (.ref o), some (.int (nI p))]) (st' := [.ref o, .int (nI 2)]) (w1 := (KC, I, J, GC)) rfl ?_
      refine mjT_gfi (v := nI O.las) rfl (Or.inl rfl) (pc' := 44) rfl hG.k0 (mo_at (hO.las) (by omega) (by omega)) ?_
      refine mjT_go 3 (pc' := 48) (L' := [some (.ref o), some (.int (nI p))]) (st' := [.int (((nI 2) * (nI O.las)) + (nI 7))]) (w1 := (KC, I, J, GC)) rfl ?_
      refine mjT_ret rfl rfl rfl ?_
      exact ⟨rfl, by simp only [nI_add, pk_mul]⟩
    · rw [if_neg h3]
      refine mjT_go 1 (pc' := 50) (L' := [some (.ref o), some (.int (nI p))]) (st' := [.ref o]) (w1 := (KC, I, J, GC)) rfl ?_
      refine mjT_gfi (v := nI O.las) rfl (Or.inl rfl) (pc' := 53) rfl hG.k0 (mo_at (hO.las) (by omega) (by omega)) ?_
      refine mjT_ret rfl rfl rfl ?_
      exact ⟨rfl, rfl⟩
theorem c_sitterOn (hV : VO O) (hG : OfG o) (hO : RO I o O P) {c : Nat} (hc : c < 8) : mj_Ev 17 [.ref o, .int (nI c)] (KC, I, J, GC) (KC, I, J, GC) (some (.int (sI (sitr O c)))) := by
  refine mj_ev_of ?_
  have hn := hV.n
  refine mjT_go 2 (pc' := if nI c < 0 then 19 else 4) (L' := [some (.ref o), some (.int (nI c))]) (st' := []) (w1 := (KC, I, J, GC)) rfl ?_
  refine mjT_ifF (nI_pos (by omega)) ?_
  refine mjT_go 3 (pc' := if nI 8 ≤ nI c then 19 else 10) (L' := [some (.ref o), some (.int (nI c))]) (st' := []) (w1 := (KC, I, J, GC)) rfl ?_
  refine mjT_ifF (nI_ge (by omega) (by omega)) ?_
  refine mjT_go 1 (pc' := 11) (L' := [some (.ref o), some (.int (nI c))]) (st' := [.ref o]) (w1 := (KC, I, J, GC)) rfl ?_
  refine mjT_gfr (h' := (o + 7)) rfl (pc' := 14) rfl hG.k0 hG.r7 ?_
  refine mjT_go 1 (pc' := 15) (L' := [some (.ref o), some (.int (nI c))]) (st' := [.int (nI c), .ref (o + 7)]) (w1 := (KC, I, J, GC)) rfl ?_
  refine mjT_ial (v := sI (sitr O c)) c 8 rfl (pc' := 16) rfl hG.k7 rfl (by omega) (by omega) (mo_at (hO.sit c (by omega)) (by omega) (by omega)) ?_
  refine mjT_go 1 (pc' := 20) (L' := [some (.ref o), some (.int (nI c))]) (st' := [.int (sI (sitr O c))]) (w1 := (KC, I, J, GC)) rfl ?_
  refine mjT_ret rfl rfl rfl ?_
  exact ⟨rfl, rfl⟩
theorem iP_s {s n : Nat} (hs : s ≤ n) (hn : n ≤ 7) : iP (sI s) n = if s = 0 then 0 else 1 := by
  unfold iP
  cases s with
  | zero => rw [if_pos rfl, if_neg (fun q => absurd q.1 (by decide))]
  | succ p =>
    have h : 0 ≤ sI (p + 1) ∧ sI (p + 1) < nI n := ⟨by rw [sI_s]; exact nI_pos' (by omega), by rw [sI_s]; exact nI_lt (by omega) (by omega)⟩
    rw [if_pos h, if_neg (show ¬ p + 1 = 0 by omega)]
theorem c_strongerOn (hV : VO O) (hG : OfG o) (hO : RO I o O P) {c p : Nat} (hc : c ≤ 9) (hp : p < O.n) : mj_Ev 31 [.ref o, .int (sI c), .int (nI p)] (KC, I, J, GC) (KC, I, J, GC) (some (.int (sI (stN O p c)))) := by
  refine mj_ev_of ?_
  have hn := hV.n
  have hsp := hV.str p hp
  unfold stN
  obtain hc0 | ⟨k, rfl⟩ : c = 0 ∨ ∃ k, c = k + 1 := by
    rcases Nat.eq_zero_or_pos c with h | h
    · exact Or.inl h
    · exact Or.inr ⟨c - 1, by omega⟩
  · subst hc0
    rw [if_pos (Or.inl rfl), sI_0]
    refine mjT_go 2 (pc' := if (-1) < 0 then 18 else 4) (L' := [some (.ref o), some (.int (-1)), some (.int (nI p)), none]) (st' := []) (w1 := (KC, I, J, GC)) rfl ?_
    refine mjT_ifT (by decide) ?_
    refine mjT_go 1 (pc' := 19) (L' := [some (.ref o), some (.int (-1)), some (.int (nI p)), none]) (st' := [.int (-1)]) (w1 := (KC, I, J, GC)) rfl ?_
    refine mjT_ret rfl rfl rfl ?_
    exact ⟨rfl, rfl⟩
  · rw [sI_s]
    refine mjT_go 2 (pc' := if nI k < 0 then 18 else 4) (L' := [some (.ref o), some (.int (nI k)), some (.int (nI p)), none]) (st' := []) (w1 := (KC, I, J, GC)) rfl ?_
    refine mjT_ifF (nI_pos (by omega)) ?_
    refine mjT_go 3 (pc' := if nI 8 ≤ nI k then 18 else 10) (L' := [some (.ref o), some (.int (nI k)), some (.int (nI p)), none]) (st' := []) (w1 := (KC, I, J, GC)) rfl ?_
    refine mjT_if_le (u := 8) (v := k) rfl rfl (by omega) (by omega) (fun h8 => ?_) (fun h8 => ?_)
    · rw [if_pos (by omega)]
      refine mjT_go 1 (pc' := 19) (L' := [some (.ref o), some (.int (nI k)), some (.int (nI p)), none]) (st' := [.int (-1)]) (w1 := (KC, I, J, GC)) rfl ?_
      refine mjT_ret rfl rfl rfl ?_
      exact ⟨rfl, rfl⟩
    · rw [if_neg (by omega), Nat.add_sub_cancel]
      have hb := bitN_lt O.dry k
      have hs := sitr_le O k
      refine mjT_go 2 (pc' := 12) (L' := [some (.ref o), some (.int (nI k)), some (.int (nI p)), none]) (st' := [.int (nI k), .ref o]) (w1 := (KC, I, J, GC)) rfl ?_
      refine mjT_callE (as := [.ref o, .int (nI k)]) (rest := []) rfl rfl rfl (mj_callI rfl rfl hG.k0) rfl ⟨rfl, rfl⟩ (c_isDry hV hG hO h8) ?_
      refine mjT_go 1 (pc' := if nI (bitN O.dry k) = 0 then 20 else 18) (L' := [some (.ref o), some (.int (nI k)), some (.int (nI p)), none]) (st' := []) (w1 := (KC, I, J, GC)) rfl ?_
      refine mjT_if_eq (u := bitN O.dry k) (v := 0) rfl nI_0.symm (by omega) (by omega) (fun hd => ?_) (fun hd => ?_)
      · rw [if_neg (by omega)]
        refine mjT_go 1 (pc' := 21) (L' := [some (.ref o), some (.int (nI k)), some (.int (nI p)), none]) (st' := [.ref o]) (w1 := (KC, I, J, GC)) rfl ?_
        refine mjT_gfr (h' := (o + 7)) rfl (pc' := 24) rfl hG.k0 hG.r7 ?_
        refine mjT_go 1 (pc' := 25) (L' := [some (.ref o), some (.int (nI k)), some (.int (nI p)), none]) (st' := [.int (nI k), .ref (o + 7)]) (w1 := (KC, I, J, GC)) rfl ?_
        refine mjT_ial (v := sI (sitr O k)) k 8 rfl (pc' := 26) rfl hG.k7 rfl (by omega) (by omega) (mo_at (hO.sit k (by omega)) (by omega) (by omega)) ?_
        refine mjT_go 3 (pc' := 29) (L' := [some (.ref o), some (.int (nI k)), some (.int (nI p)), some (.int (sI (sitr O k)))]) (st' := [.int (sI (sitr O k)), .ref o]) (w1 := (KC, I, J, GC)) rfl ?_
        refine mjT_callE (as := [.ref o, .int (sI (sitr O k))]) (rest := []) rfl rfl rfl (mj_callI rfl rfl hG.k0) rfl ⟨rfl, rfl⟩ (c_has hV hG hO) ?_
        rw [iP_s hs hn]
        refine mjT_go 1 (pc' := if nI (if sitr O k = 0 then 0 else 1) = 0 then 54 else 35) (L' := [some (.ref o), some (.int (nI k)), some (.int (nI p)), some (.int (sI (sitr O k)))]) (st' := []) (w1 := (KC, I, J, GC)) rfl ?_
        refine mjT_if (fun hz => ?_) (fun hz => ?_)
        · have hz0 : sitr O k = 0 := by
            by_cases q : sitr O k = 0
            · exact q
            · rw [if_neg q] at hz; exact absurd hz (by decide)
          rw [if_neg (fun q => q.1 hz0)]
          refine mjT_go 1 (pc' := 55) (L' := [some (.ref o), some (.int (nI k)), some (.int (nI p)), some (.int (sI (sitr O k)))]) (st' := [.int (-1)]) (w1 := (KC, I, J, GC)) rfl ?_
          refine mjT_ret rfl rfl rfl ?_
          exact ⟨rfl, rfl⟩
        · have hz0 : sitr O k ≠ 0 := fun q => hz (by rw [if_pos q]; exact nI_0)
          obtain ⟨s, hs2⟩ : ∃ s, sitr O k = s + 1 := ⟨sitr O k - 1, by omega⟩
          have hss := hV.str s (by omega)
          rw [hs2, sI_s, Nat.add_sub_cancel]
          refine mjT_go 1 (pc' := 36) (L' := [some (.ref o), some (.int (nI k)), some (.int (nI p)), some (.int (nI s))]) (st' := [.ref o]) (w1 := (KC, I, J, GC)) rfl ?_
          refine mjT_gfr (h' := (o + 5)) rfl (pc' := 39) rfl hG.k0 hG.r5 ?_
          refine mjT_go 1 (pc' := 40) (L' := [some (.ref o), some (.int (nI k)), some (.int (nI p)), some (.int (nI s))]) (st' := [.int (nI s), .ref (o + 5)]) (w1 := (KC, I, J, GC)) rfl ?_
          refine mjT_ial (v := nI (O.str s)) s 7 rfl (pc' := 41) rfl hG.k5 rfl (by omega) (by omega) (mo_at (hO.str s (show s < O.n by omega)) (by omega) (by omega)) ?_
          refine mjT_go 1 (pc' := 42) (L' := [some (.ref o), some (.int (nI k)), some (.int (nI p)), some (.int (nI s))]) (st' := [.ref o, .int (nI (O.str s))]) (w1 := (KC, I, J, GC)) rfl ?_
          refine mjT_gfr (h' := (o + 5)) rfl (pc' := 45) rfl hG.k0 hG.r5 ?_
          refine mjT_go 1 (pc' := 46) (L' := [some (.ref o), some (.int (nI k)), some (.int (nI p)), some (.int (nI s))]) (st' := [.int (nI p), .ref (o + 5), .int (nI (O.str s))]) (w1 := (KC, I, J, GC)) rfl ?_
          refine mjT_ial (v := nI (O.str p)) p 7 rfl (pc' := 47) rfl hG.k5 rfl (by omega) (by omega) (mo_at (hO.str p (show p < O.n by omega)) (by omega) (by omega)) ?_
          refine mjT_go 1 (pc' := if nI (O.str s) ≤ nI (O.str p) then 54 else 50) (L' := [some (.ref o), some (.int (nI k)), some (.int (nI p)), some (.int (nI s))]) (st' := []) (w1 := (KC, I, J, GC)) rfl ?_
          refine mjT_if_le (u := O.str s) (v := O.str p) rfl rfl (by omega) (by omega) (fun hq => ?_) (fun hq => ?_)
          · rw [if_neg (by omega)]
            refine mjT_go 1 (pc' := 55) (L' := [some (.ref o), some (.int (nI k)), some (.int (nI p)), some (.int (nI s))]) (st' := [.int (-1)]) (w1 := (KC, I, J, GC)) rfl ?_
            refine mjT_ret rfl rfl rfl ?_
            exact ⟨rfl, rfl⟩
          · rw [if_pos ⟨by omega, hq⟩]
            refine mjT_go 2 (pc' := 55) (L' := [some (.ref o), some (.int (nI k)), some (.int (nI p)), some (.int (nI s))]) (st' := [.int (nI s)]) (w1 := (KC, I, J, GC)) rfl ?_
            refine mjT_ret rfl rfl rfl ?_
            exact ⟨rfl, rfl⟩
      · rw [if_pos (by omega)]
        refine mjT_go 1 (pc' := 19) (L' := [some (.ref o), some (.int (nI k)), some (.int (nI p)), none]) (st' := [.int (-1)]) (w1 := (KC, I, J, GC)) rfl ?_
        refine mjT_ret rfl rfl rfl ?_
        exact ⟨rfl, rfl⟩
theorem sub_1 : ∀ c, c < 8 → nI c - nI 1 = sI c := by decide
theorem c_modelOf (hV : VO O) (hG : OfG o) (hO : RO I o O P) {p : Nat} (hp : p < O.n) : mj_Ev 30 [.ref o, .int (nI p)] (KC, I, J, GC) (KC, I, J, GC) (some (.int (sI (modelN O p)))) := by
  refine mj_ev_of ?_
  have hn := hV.n
  have hcp := hV.chair p hp
  have hkp := hV.kind p hp
  have hbd := bitN_lt O.dry (O.chair p)
  have hbl := stN_le O p (O.chair p)
  have hab := stN_le O p (O.chair p + 2)
  unfold modelN
  refine mjT_go 2 (pc' := 2) (L' := [some (.ref o), some (.int (nI p)), none, none, none]) (st' := [.int (nI p), .ref o]) (w1 := (KC, I, J, GC)) rfl ?_
  refine mjT_callE (as := [.ref o, .int (nI p)]) (rest := []) rfl rfl rfl (mj_callI rfl rfl hG.k0) rfl ⟨rfl, rfl⟩ (c_chairOf hV hG hO hp) ?_
  refine mjT_go 4 (pc' := if nI (O.chair p) = (-1) then 29 else 11) (L' := [some (.ref o), some (.int (nI p)), some (.int (nI (O.chair p))), none, none]) (st' := []) (w1 := (KC, I, J, GC)) rfl ?_
  refine mjT_ifF (fun q => nI_pos (n := O.chair p) (by omega) (by rw [q]; decide)) ?_
  refine mjT_go 2 (pc' := 13) (L' := [some (.ref o), some (.int (nI p)), some (.int (nI (O.chair p))), none, none]) (st' := [.int (nI (O.chair p)), .ref o]) (w1 := (KC, I, J, GC)) rfl ?_
  refine mjT_callE (as := [.ref o, .int (nI (O.chair p))]) (rest := []) rfl rfl rfl (mj_callI rfl rfl hG.k0) rfl ⟨rfl, rfl⟩ (c_isDry hV hG hO hcp) ?_
  refine mjT_go 1 (pc' := if ¬ nI (bitN O.dry (O.chair p)) = 0 then 29 else 19) (L' := [some (.ref o), some (.int (nI p)), some (.int (nI (O.chair p))), none, none]) (st' := []) (w1 := (KC, I, J, GC)) rfl ?_
  refine mjT_if_ne (u := bitN O.dry (O.chair p)) (v := 0) rfl nI_0.symm (by omega) (by omega) (fun hd => ?_) (fun hd => ?_)
  · rw [if_pos (Or.inr (by omega))]
    refine mjT_go 1 (pc' := 30) (L' := [some (.ref o), some (.int (nI p)), some (.int (nI (O.chair p))), none, none]) (st' := [.int (-1)]) (w1 := (KC, I, J, GC)) rfl ?_
    refine mjT_ret rfl rfl rfl ?_
    exact ⟨rfl, rfl⟩
  · refine mjT_go 1 (pc' := 20) (L' := [some (.ref o), some (.int (nI p)), some (.int (nI (O.chair p))), none, none]) (st' := [.ref o]) (w1 := (KC, I, J, GC)) rfl ?_
    refine mjT_gfr (h' := (o + 4)) rfl (pc' := 23) rfl hG.k0 hG.r4 ?_
    refine mjT_go 1 (pc' := 24) (L' := [some (.ref o), some (.int (nI p)), some (.int (nI (O.chair p))), none, none]) (st' := [.int (nI p), .ref (o + 4)]) (w1 := (KC, I, J, GC)) rfl ?_
    refine mjT_ial (v := nI (O.kind p)) p 7 rfl (pc' := 25) rfl hG.k4 rfl (by omega) (by omega) (mo_at (hO.kind p (show p < O.n by omega)) (by omega) (by omega)) ?_
    refine mjT_go 2 (pc' := if ¬ nI (O.kind p) = nI 3 then 31 else 29) (L' := [some (.ref o), some (.int (nI p)), some (.int (nI (O.chair p))), none, none]) (st' := []) (w1 := (KC, I, J, GC)) rfl ?_
    refine mjT_if_ne (u := O.kind p) (v := 3) rfl rfl (by omega) (by omega) (fun hk => ?_) (fun hk => ?_)
    · rw [if_neg (by omega), looks_both hV]
      refine mjT_go 3 (pc' := 34) (L' := [some (.ref o), some (.int (nI p)), some (.int (nI (O.chair p))), none, none]) (st' := [.int (nI 1), .int (nI (O.chair p)), .ref o]) (w1 := (KC, I, J, GC)) rfl ?_
      refine mjT_go 1 (pc' := 35) (L' := [some (.ref o), some (.int (nI p)), some (.int (nI (O.chair p))), none, none]) (st' := [.int ((nI (O.chair p)) - (nI 1)), .ref o]) (w1 := (KC, I, J, GC)) rfl ?_
      refine mjT_go 1 (pc' := 36) (L' := [some (.ref o), some (.int (nI p)), some (.int (nI (O.chair p))), none, none]) (st' := [.int (nI p), .int ((nI (O.chair p)) - (nI 1)), .ref o]) (w1 := (KC, I, J, GC)) rfl ?_
      rw [sub_1 _ hcp]
      refine mjT_callE (as := [.ref o, .int (sI (O.chair p)), .int (nI p)]) (rest := []) rfl rfl rfl (mj_callI rfl rfl hG.k0) rfl ⟨rfl, rfl⟩ (c_strongerOn hV hG hO (by omega) hp) ?_
      refine mjT_go 5 (pc' := 44) (L' := [some (.ref o), some (.int (nI p)), some (.int (nI (O.chair p))), some (.int (sI (stN O p (O.chair p)))), none]) (st' := [.int ((nI (O.chair p)) + (nI 1)), .ref o]) (w1 := (KC, I, J, GC)) rfl ?_
      refine mjT_go 1 (pc' := 45) (L' := [some (.ref o), some (.int (nI p)), some (.int (nI (O.chair p))), some (.int (sI (stN O p (O.chair p)))), none]) (st' := [.int (nI p), .int ((nI (O.chair p)) + (nI 1)), .ref o]) (w1 := (KC, I, J, GC)) rfl ?_
      rw [nI_add, show nI (O.chair p + 1) = sI (O.chair p + 2) from rfl]
      refine mjT_callE (as := [.ref o, .int (sI (O.chair p + 2)), .int (nI p)]) (rest := []) rfl rfl rfl (mj_callI rfl rfl hG.k0) rfl ⟨rfl, rfl⟩ (c_strongerOn hV hG hO (by omega) hp) ?_
      unfold bothN
      generalize stN O p (O.chair p) = b at *
      generalize stN O p (O.chair p + 2) = a at *
      have cas : ∀ s, s = 0 ∨ ∃ k, s = k + 1 := fun s => by
        rcases Nat.eq_zero_or_pos s with h | h
        · exact Or.inl h
        · exact Or.inr ⟨s - 1, by omega⟩
      have nm1 : ∀ k, k < 7 → ¬ nI k = -1 := by decide
      rcases cas b with rfl | ⟨b, rfl⟩
      · rw [if_pos rfl, sI_0]
        refine mjT_go 4 (pc' := if (-1) = (-1) then 61 else 55) (L' := [some (.ref o), some (.int (nI p)), some (.int (nI (O.chair p))), some (.int (-1)), some (.int (sI a))]) (st' := []) (w1 := (KC, I, J, GC)) rfl ?_
        refine mjT_ifT rfl ?_
        refine mjT_go 3 (pc' := if ¬ (-1) = (-1) then 71 else 66) (L' := [some (.ref o), some (.int (nI p)), some (.int (nI (O.chair p))), some (.int (-1)), some (.int (sI a))]) (st' := []) (w1 := (KC, I, J, GC)) rfl ?_
        refine mjT_ifF (fun q => q rfl) ?_
        refine mjT_go 2 (pc' := 72) (L' := [some (.ref o), some (.int (nI p)), some (.int (nI (O.chair p))), some (.int (-1)), some (.int (sI a))]) (st' := [.int (sI a)]) (w1 := (KC, I, J, GC)) rfl ?_
        refine mjT_ret rfl rfl rfl ?_
        exact ⟨rfl, rfl⟩
      · rw [if_neg (show ¬ b + 1 = 0 by omega), sI_s]
        rcases cas a with rfl | ⟨a, rfl⟩
        · rw [if_pos rfl, sI_0, sI_s]
          refine mjT_go 4 (pc' := if nI b = (-1) then 61 else 55) (L' := [some (.ref o), some (.int (nI p)), some (.int (nI (O.chair p))), some (.int (nI b)), some (.int (-1))]) (st' := []) (w1 := (KC, I, J, GC)) rfl ?_
          refine mjT_ifF (nm1 b (by omega)) ?_
          refine mjT_go 3 (pc' := if ¬ (-1) = (-1) then 73 else 61) (L' := [some (.ref o), some (.int (nI p)), some (.int (nI (O.chair p))), some (.int (nI b)), some (.int (-1))]) (st' := []) (w1 := (KC, I, J, GC)) rfl ?_
          refine mjT_ifF (fun q => q rfl) ?_
          refine mjT_go 3 (pc' := if ¬ nI b = (-1) then 71 else 66) (L' := [some (.ref o), some (.int (nI p)), some (.int (nI (O.chair p))), some (.int (nI b)), some (.int (-1))]) (st' := []) (w1 := (KC, I, J, GC)) rfl ?_
          refine mjT_ifT (nm1 b (by omega)) ?_
          refine mjT_go 1 (pc' := 72) (L' := [some (.ref o), some (.int (nI p)), some (.int (nI (O.chair p))), some (.int (nI b)), some (.int (-1))]) (st' := [.int (nI b)]) (w1 := (KC, I, J, GC)) rfl ?_
          refine mjT_ret rfl rfl rfl ?_
          exact ⟨rfl, rfl⟩
        · rw [if_neg (show ¬ a + 1 = 0 by omega), sI_s, Nat.add_sub_cancel, Nat.add_sub_cancel]
          have hsa := hV.str a (by omega)
          have hsb := hV.str b (by omega)
          refine mjT_go 4 (pc' := if nI b = (-1) then 61 else 55) (L' := [some (.ref o), some (.int (nI p)), some (.int (nI (O.chair p))), some (.int (nI b)), some (.int (nI a))]) (st' := []) (w1 := (KC, I, J, GC)) rfl ?_
          refine mjT_ifF (nm1 b (by omega)) ?_
          refine mjT_go 3 (pc' := if ¬ nI a = (-1) then 73 else 61) (L' := [some (.ref o), some (.int (nI p)), some (.int (nI (O.chair p))), some (.int (nI b)), some (.int (nI a))]) (st' := []) (w1 := (KC, I, J, GC)) rfl ?_
          refine mjT_ifT (nm1 a (by omega)) ?_
          refine mjT_go 1 (pc' := 74) (L' := [some (.ref o), some (.int (nI p)), some (.int (nI (O.chair p))), some (.int (nI b)), some (.int (nI a))]) (st' := [.ref o]) (w1 := (KC, I, J, GC)) rfl ?_
          refine mjT_gfr (h' := (o + 5)) rfl (pc' := 77) rfl hG.k0 hG.r5 ?_
          refine mjT_go 1 (pc' := 78) (L' := [some (.ref o), some (.int (nI p)), some (.int (nI (O.chair p))), some (.int (nI b)), some (.int (nI a))]) (st' := [.int (nI b), .ref (o + 5)]) (w1 := (KC, I, J, GC)) rfl ?_
          refine mjT_ial (v := nI (O.str b)) b 7 rfl (pc' := 79) rfl hG.k5 rfl (by omega) (by omega) (mo_at (hO.str b (show b < O.n by omega)) (by omega) (by omega)) ?_
          refine mjT_go 1 (pc' := 80) (L' := [some (.ref o), some (.int (nI p)), some (.int (nI (O.chair p))), some (.int (nI b)), some (.int (nI a))]) (st' := [.ref o, .int (nI (O.str b))]) (w1 := (KC, I, J, GC)) rfl ?_
          refine mjT_gfr (h' := (o + 5)) rfl (pc' := 83) rfl hG.k0 hG.r5 ?_
          refine mjT_go 1 (pc' := 85) (L' := [some (.ref o), some (.int (nI p)), some (.int (nI (O.chair p))), some (.int (nI b)), some (.int (nI a))]) (st' := [.int (nI a), .ref (o + 5), .int (nI (O.str b))]) (w1 := (KC, I, J, GC)) rfl ?_
          refine mjT_ial (v := nI (O.str a)) a 7 rfl (pc' := 86) rfl hG.k5 rfl (by omega) (by omega) (mo_at (hO.str a (show a < O.n by omega)) (by omega) (by omega)) ?_
          refine mjT_go 1 (pc' := if ¬ nI (O.str b) = nI (O.str a) then 96 else 89) (L' := [some (.ref o), some (.int (nI p)), some (.int (nI (O.chair p))), some (.int (nI b)), some (.int (nI a))]) (st' := []) (w1 := (KC, I, J, GC)) rfl ?_
          refine mjT_if_ne (u := O.str b) (v := O.str a) rfl rfl (by omega) (by omega) (fun he => ?_) (fun he => ?_)
          · rw [if_neg he]
            refine mjT_go 1 (pc' := 97) (L' := [some (.ref o), some (.int (nI p)), some (.int (nI (O.chair p))), some (.int (nI b)), some (.int (nI a))]) (st' := [.ref o]) (w1 := (KC, I, J, GC)) rfl ?_
            refine mjT_gfr (h' := (o + 5)) rfl (pc' := 100) rfl hG.k0 hG.r5 ?_
            refine mjT_go 1 (pc' := 101) (L' := [some (.ref o), some (.int (nI p)), some (.int (nI (O.chair p))), some (.int (nI b)), some (.int (nI a))]) (st' := [.int (nI b), .ref (o + 5)]) (w1 := (KC, I, J, GC)) rfl ?_
            refine mjT_ial (v := nI (O.str b)) b 7 rfl (pc' := 102) rfl hG.k5 rfl (by omega) (by omega) (mo_at (hO.str b (show b < O.n by omega)) (by omega) (by omega)) ?_
            refine mjT_go 1 (pc' := 103) (L' := [some (.ref o), some (.int (nI p)), some (.int (nI (O.chair p))), some (.int (nI b)), some (.int (nI a))]) (st' := [.ref o, .int (nI (O.str b))]) (w1 := (KC, I, J, GC)) rfl ?_
            refine mjT_gfr (h' := (o + 5)) rfl (pc' := 106) rfl hG.k0 hG.r5 ?_
            refine mjT_go 1 (pc' := 108) (L' := [some (.ref o), some (.int (nI p)), some (.int (nI (O.chair p))), some (.int (nI b)), some (.int (nI a))]) (st' := [.int (nI a), .ref (o + 5), .int (nI (O.str b))]) (w1 := (KC, I, J, GC)) rfl ?_
            refine mjT_ial (v := nI (O.str a)) a 7 rfl (pc' := 109) rfl hG.k5 rfl (by omega) (by omega) (mo_at (hO.str a (show a < O.n by omega)) (by omega) (by omega)) ?_
            refine mjT_go 1 (pc' := if nI (O.str b) ≤ nI (O.str a) then 116 else 112) (L' := [some (.ref o), some (.int (nI p)), some (.int (nI (O.chair p))), some (.int (nI b)), some (.int (nI a))]) (st' := []) (w1 := (KC, I, J, GC)) rfl ?_
            refine mjT_if_le (u := O.str b) (v := O.str a) rfl rfl (by omega) (by omega) (fun hl => ?_) (fun hl => ?_)
            · rw [if_neg (by omega)]
              refine mjT_go 1 (pc' := 118) (L' := [some (.ref o), some (.int (nI p)), some (.int (nI (O.chair p))), some (.int (nI b)), some (.int (nI a))]) (st' := [.int (nI a)]) (w1 := (KC, I, J, GC)) rfl ?_
              refine mjT_ret rfl rfl rfl ?_
              exact ⟨rfl, rfl⟩
            · rw [if_pos hl]
              refine mjT_go 2 (pc' := 118) (L' := [some (.ref o), some (.int (nI p)), some (.int (nI (O.chair p))), some (.int (nI b)), some (.int (nI a))]) (st' := [.int (nI b)]) (w1 := (KC, I, J, GC)) rfl ?_
              refine mjT_ret rfl rfl rfl ?_
              exact ⟨rfl, rfl⟩
          · rw [if_pos he]
            refine mjT_go 3 (pc' := 95) (L' := [some (.ref o), some (.int (nI p)), some (.int (nI (O.chair p))), some (.int (nI b)), some (.int (nI a))]) (st' := [.int (if nI a < nI b then nI a else nI b)]) (w1 := (KC, I, J, GC)) rfl ?_
            refine mjT_ret rfl rfl rfl ?_
            refine ⟨rfl, ?_⟩
            by_cases hab : a < b
            · rw [if_pos (nI_lt hab (by omega)), Nat.min_eq_right (by omega), sI_s]
            · rw [if_neg (nI_nlt (by omega) (by omega)), Nat.min_eq_left (by omega), sI_s]
    · rw [if_pos (Or.inl hk)]
      refine mjT_go 1 (pc' := 30) (L' := [some (.ref o), some (.int (nI p)), some (.int (nI (O.chair p))), none, none]) (st' := [.int (-1)]) (w1 := (KC, I, J, GC)) rfl ?_
      refine mjT_ret rfl rfl rfl ?_
      exact ⟨rfl, rfl⟩
end O1
