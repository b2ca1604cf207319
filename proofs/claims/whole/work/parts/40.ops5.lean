section OP5
variable {I : Nat → Nat → Int32} {J : Nat → Nat → Int64} {S : Sta} {o q : Nat} {O : Off} {P : Nat → Prop}
def allN (O : Off) : Nat → Nat
  | 0 => 0
  | p + 1 => allN O p + tillsN O p 6
theorem allN_le (O : Off) : ∀ p, allN O p ≤ 6 * p
  | 0 => Nat.le_refl _
  | p + 1 => by have := allN_le O p; have := tillsN_le O p 6; unfold allN; omega
theorem m_allTills (hV : VO O) (hO : MO I 0 O) : mj_Ev 161 [.ref 0] (KM, I, J, GM) (KM, I, J, GM) (some (.int (nI (allN O O.n)))) := by
  refine mj_ev_of ?_
  have hn := hV.n
  refine mjT_go 4 (pc' := 4) (L' := [some (.ref 0), some (.int (nI 0)), some (.int (nI 0))]) (st' := []) (w1 := (KM, I, J, GM)) rfl ?_
  refine mj_loop (fun k L w => L = [some (.ref 0), some (.int (nI (allN O k))), some (.int (nI k))] ∧ w = (KM, I, J, GM)) O.n (k0 := 0) (Nat.zero_le _) ?_ ?_ ?_
  · exact ⟨rfl, rfl⟩
  · rintro k _ _ hk ⟨rfl, rfl⟩ hc
    refine mjT_go 4 (pc' := 12) (L' := [some (.ref 0), some (.int (nI (allN O k))), some (.int (nI k))]) (st' := [.int (nI 147), .ref 1, .int (nI k)]) (w1 := (KM, I, J, GM)) rfl ?_
    refine mjT_ial (v := nI O.n) 147 1840 rfl (pc' := 13) rfl rfl rfl (by omega) (by omega) (mo_at hO.n rfl (by omega)) ?_
    refine mjT_go 1 (pc' := if nI O.n ≤ nI k then 30 else 16) (L' := [some (.ref 0), some (.int (nI (allN O k))), some (.int (nI k))]) (st' := []) (w1 := (KM, I, J, GM)) rfl ?_
    refine mjT_ifF (nI_ge (by omega) (by omega)) ?_
    refine mjT_go 3 (pc' := 19) (L' := [some (.ref 0), some (.int (nI (allN O k))), some (.int (nI k))]) (st' := [.int (nI k), .ref 0, .int (nI (allN O k))]) (w1 := (KM, I, J, GM)) rfl ?_
    refine mjT_callE (as := [.ref 0, .int (nI k)]) (rest := [.int (nI (allN O k))]) (r1 := some (.int (nI (tillsN O k 6)))) rfl rfl rfl rfl rfl ⟨rfl, rfl⟩ (m_tills hV hO hk) ?_
    refine mjT_go 4 (pc' := 4) (L' := [some (.ref 0), some (.int ((nI (allN O k)) + (nI (tillsN O k 6)))), some (.int ((nI k) + (nI 1)))]) (st' := []) (w1 := (KM, I, J, GM)) rfl ?_
    rw [nI_add, nI_add]
    exact hc _ _ ⟨rfl, rfl⟩
  · rintro _ _ ⟨rfl, rfl⟩
    refine mjT_go 4 (pc' := 12) (L' := [some (.ref 0), some (.int (nI (allN O O.n))), some (.int (nI O.n))]) (st' := [.int (nI 147), .ref 1, .int (nI O.n)]) (w1 := (KM, I, J, GM)) rfl ?_
    refine mjT_ial (v := nI O.n) 147 1840 rfl (pc' := 13) rfl rfl rfl (by omega) (by omega) (mo_at hO.n rfl (by omega)) ?_
    refine mjT_go 1 (pc' := if nI O.n ≤ nI O.n then 30 else 16) (L' := [some (.ref 0), some (.int (nI (allN O O.n))), some (.int (nI O.n))]) (st' := []) (w1 := (KM, I, J, GM)) rfl ?_
    refine mjT_ifT (Int32.le_refl _) ?_
    refine mjT_go 1 (pc' := 31) (L' := [some (.ref 0), some (.int (nI (allN O O.n))), some (.int (nI O.n))]) (st' := [.int (nI (allN O O.n))]) (w1 := (KM, I, J, GM)) rfl ?_
    refine mjT_ret rfl rfl rfl ?_
    exact ⟨rfl, rfl⟩
theorem c_takenByAll (hV : VO O) (hG : OfG o) (hO : RO I o O TT) : mj_Ev 24 [.ref o] (KC, I, J, GC) (KC, I, J, GC) (some (.int (nI (allN O O.n)))) := by
  refine mj_ev_of ?_
  have hn := hV.n
  refine mjT_go 4 (pc' := 4) (L' := [some (.ref o), some (.int (nI 0)), some (.int (nI 0))]) (st' := []) (w1 := (KC, I, J, GC)) rfl ?_
  refine mj_loop (fun k L w => L = [some (.ref o), some (.int (nI (allN O k))), some (.int (nI k))] ∧ w = (KC, I, J, GC)) O.n (k0 := 0) (Nat.zero_le _) ?_ ?_ ?_
  · exact ⟨rfl, rfl⟩
  · rintro k _ _ hk ⟨rfl, rfl⟩ hc
    refine mjT_go 2 (pc' := 6) (L' := [some (.ref o), some (.int (nI (allN O k))), some (.int (nI k))]) (st' := [.ref o, .int (nI k)]) (w1 := (KC, I, J, GC)) rfl ?_
    refine mjT_gfi (v := nI O.n) rfl (Or.inl rfl) (pc' := 9) rfl hG.k0 (mo_at (hO.n) (by omega) (by omega)) ?_
    refine mjT_go 1 (pc' := if nI O.n ≤ nI k then 29 else 12) (L' := [some (.ref o), some (.int (nI (allN O k))), some (.int (nI k))]) (st' := []) (w1 := (KC, I, J, GC)) rfl ?_
    refine mjT_ifF (nI_ge (by omega) (by omega)) ?_
    refine mjT_go 2 (pc' := 14) (L' := [some (.ref o), some (.int (nI (allN O k))), some (.int (nI k))]) (st' := [.ref o, .int (nI (allN O k))]) (w1 := (KC, I, J, GC)) rfl ?_
    refine mjT_gfr (h' := (o + 1)) rfl (pc' := 17) rfl hG.k0 hG.r1 ?_
    refine mjT_go 1 (pc' := 18) (L' := [some (.ref o), some (.int (nI (allN O k))), some (.int (nI k))]) (st' := [.int (nI k), .ref (o + 1), .int (nI (allN O k))]) (w1 := (KC, I, J, GC)) rfl ?_
    refine mjT_callE (as := [.ref (o + 1), .int (nI k)]) (rest := [.int (nI (allN O k))]) (r1 := some (.int (nI (tillsN O k 6)))) rfl rfl rfl (mj_callI rfl rfl hG.k1) rfl ⟨rfl, rfl⟩ (c_takenBy hV (ha_of hG) (ho_of hO) hk trivial) ?_
    refine mjT_go 4 (pc' := 4) (L' := [some (.ref o), some (.int ((nI (allN O k)) + (nI (tillsN O k 6)))), some (.int ((nI k) + (nI 1)))]) (st' := []) (w1 := (KC, I, J, GC)) rfl ?_
    rw [nI_add, nI_add]
    exact hc _ _ ⟨rfl, rfl⟩
  · rintro _ _ ⟨rfl, rfl⟩
    refine mjT_go 2 (pc' := 6) (L' := [some (.ref o), some (.int (nI (allN O O.n))), some (.int (nI O.n))]) (st' := [.ref o, .int (nI O.n)]) (w1 := (KC, I, J, GC)) rfl ?_
    refine mjT_gfi (v := nI O.n) rfl (Or.inl rfl) (pc' := 9) rfl hG.k0 (mo_at (hO.n) (by omega) (by omega)) ?_
    refine mjT_go 1 (pc' := if nI O.n ≤ nI O.n then 29 else 12) (L' := [some (.ref o), some (.int (nI (allN O O.n))), some (.int (nI O.n))]) (st' := []) (w1 := (KC, I, J, GC)) rfl ?_
    refine mjT_ifT (Int32.le_refl _) ?_
    refine mjT_go 1 (pc' := 30) (L' := [some (.ref o), some (.int (nI (allN O O.n))), some (.int (nI O.n))]) (st' := [.int (nI (allN O O.n))]) (w1 := (KC, I, J, GC)) rfl ?_
    refine mjT_ret rfl rfl rfl ?_
    exact ⟨rfl, rfl⟩
def countN (S : Sta) : Nat → Nat
  | 0 => S.o.n
  | 1 => S.o.day
  | 2 => wetN S.o
  | 3 => S.o.dry
  | 4 => S.o.las
  | 5 => S.kn
  | _ => allN S.o S.o.n
def aCount (S : Sta) (y : Int32) : Int32 := if iR y 0 6 = 1 then nI (countN S (nn y)) else -1
theorem cc_count (hV : VS S) (hC : CW I J S) {y : Int32} : mj_E 82 [.ref 0, .int y] (KC, I, J, GC) (fun w' r => r = some (.int (aCount S y)) ∧ ∃ I' J', w' = (KC, I', J', GC) ∧ CW I' J' S) := by
  have hn := hV.o.n
  have hwet := hV.o.wet
  have hmd : S.o.day % 30 < 30 := Nat.mod_lt _ (by omega)
  have hdd := hV.o.day
  have hb := wetN_lt S.o
  have hr01 := ir01 y 0 6
  unfold aCount
  have hkn : I 12 2 = nI S.kn := by obtain ⟨_, _, _, h, _⟩ := hC.past; exact h
  refine mjT_go 2 (pc' := (if y = nI 0 then 44 else (if y = nI 1 then 52 else (if y = nI 2 then 63 else (if y = nI 3 then 79 else (if y = nI 4 then 87 else (if y = nI 5 then 95 else (if y = nI 6 then 103 else 111)))))))) (L' := [some (.ref 0), some (.int y)]) (st' := []) (w1 := (KC, I, J, GC)) rfl ?_
  by_cases h2 : iR y 0 6 = 1
  · rw [if_pos h2]
    obtain ⟨k, _, hk, rfl⟩ := iR_1 h2 (by omega) (by omega)
    rw [nn_N (by omega)]
    rcases lt7 hk with rfl | rfl | rfl | rfl | rfl | rfl | rfl
    · refine mjT_ifT rfl ?_
      refine mjT_go 2 (pc' := 48) (L' := [some (.ref 0), some (.int (nI 0))]) (st' := [.ref 1]) (w1 := (KC, I, J, GC)) rfl ?_
      refine mjT_gfi (v := nI S.o.n) rfl (Or.inl rfl) (pc' := 51) rfl rfl (mo_at (hC.o.n) (by omega) (by omega)) ?_
      refine mjT_ret rfl rfl rfl ?_
      exact ⟨rfl, _, _, rfl, hC⟩
    · refine mjT_ifF (by decide) ?_
      refine mjT_ifT rfl ?_
      refine mjT_go 3 (pc' := 59) (L' := [some (.ref 0), some (.int (nI 1))]) (st' := [.ref 2]) (w1 := (KC, I, J, GC)) rfl ?_
      refine mjT_gfi (v := nI S.o.day) rfl (Or.inl rfl) (pc' := 62) rfl rfl (mo_at (hC.o.day) (by omega) (by omega)) ?_
      refine mjT_ret rfl rfl rfl ?_
      exact ⟨rfl, _, _, rfl, hC⟩
    · refine mjT_ifF (by decide) ?_
      refine mjT_ifF (by decide) ?_
      refine mjT_ifT rfl ?_
      refine mjT_go 2 (pc' := 67) (L' := [some (.ref 0), some (.int (nI 2))]) (st' := [.ref 1]) (w1 := (KC, I, J, GC)) rfl ?_
      refine mjT_callE (as := [.ref 1]) (rest := []) (r1 := some (.int (nI (wetN S.o)))) rfl rfl rfl rfl rfl ⟨rfl, rfl⟩ (c_isWet hV.o og_1 hC.o) ?_
      refine mjT_go 1 (pc' := if nI (wetN S.o) = 0 then 77 else 73) (L' := [some (.ref 0), some (.int (nI 2))]) (st' := []) (w1 := (KC, I, J, GC)) rfl ?_
      refine mjT_if_eq (u := wetN S.o) (v := 0) rfl nI_0.symm (by omega) (by omega) (fun hz => ?_) (fun hz => ?_)
      · refine mjT_go 1 (pc' := 78) (L' := [some (.ref 0), some (.int (nI 2))]) (st' := [.int (nI 0)]) (w1 := (KC, I, J, GC)) rfl ?_
        refine mjT_ret rfl rfl rfl ?_
        exact ⟨by show _ = some (Value.int (nI (wetN S.o))); rw [hz], _, _, rfl, hC⟩
      · refine mjT_go 2 (pc' := 78) (L' := [some (.ref 0), some (.int (nI 2))]) (st' := [.int (nI 1)]) (w1 := (KC, I, J, GC)) rfl ?_
        refine mjT_ret rfl rfl rfl ?_
        exact ⟨by show _ = some (Value.int (nI (wetN S.o))); rw [show wetN S.o = 1 by omega], _, _, rfl, hC⟩
    · refine mjT_ifF (by decide) ?_
      refine mjT_ifF (by decide) ?_
      refine mjT_ifF (by decide) ?_
      refine mjT_ifT rfl ?_
      refine mjT_go 2 (pc' := 83) (L' := [some (.ref 0), some (.int (nI 3))]) (st' := [.ref 1]) (w1 := (KC, I, J, GC)) rfl ?_
      refine mjT_gfi (v := nI S.o.dry) rfl (Or.inl rfl) (pc' := 86) rfl rfl (mo_at (hC.o.dry) (by omega) (by omega)) ?_
      refine mjT_ret rfl rfl rfl ?_
      exact ⟨rfl, _, _, rfl, hC⟩
    · refine mjT_ifF (by decide) ?_
      refine mjT_ifF (by decide) ?_
      refine mjT_ifF (by decide) ?_
      refine mjT_ifF (by decide) ?_
      refine mjT_ifT rfl ?_
      refine mjT_go 2 (pc' := 91) (L' := [some (.ref 0), some (.int (nI 4))]) (st' := [.ref 1]) (w1 := (KC, I, J, GC)) rfl ?_
      refine mjT_gfi (v := nI S.o.las) rfl (Or.inl rfl) (pc' := 94) rfl rfl (mo_at (hC.o.las) (by omega) (by omega)) ?_
      refine mjT_ret rfl rfl rfl ?_
      exact ⟨rfl, _, _, rfl, hC⟩
    · refine mjT_ifF (by decide) ?_
      refine mjT_ifF (by decide) ?_
      refine mjT_ifF (by decide) ?_
      refine mjT_ifF (by decide) ?_
      refine mjT_ifF (by decide) ?_
      refine mjT_ifT rfl ?_
      refine mjT_go 2 (pc' := 99) (L' := [some (.ref 0), some (.int (nI 5))]) (st' := [.ref 12]) (w1 := (KC, I, J, GC)) rfl ?_
      refine mjT_gfi (v := nI S.kn) rfl (Or.inl rfl) (pc' := 102) rfl rfl (show I 12 2 = nI S.kn from hkn) ?_
      refine mjT_ret rfl rfl rfl ?_
      exact ⟨rfl, _, _, rfl, hC⟩
    · refine mjT_ifF (by decide) ?_
      refine mjT_ifF (by decide) ?_
      refine mjT_ifF (by decide) ?_
      refine mjT_ifF (by decide) ?_
      refine mjT_ifF (by decide) ?_
      refine mjT_ifF (by decide) ?_
      refine mjT_ifT rfl ?_
      refine mjT_go 2 (pc' := 107) (L' := [some (.ref 0), some (.int (nI 6))]) (st' := [.ref 1]) (w1 := (KC, I, J, GC)) rfl ?_
      refine mjT_callE (as := [.ref 1]) (rest := []) (r1 := some (.int (nI (allN S.o S.o.n)))) rfl rfl rfl rfl rfl ⟨rfl, rfl⟩ (c_takenByAll hV.o og_1 hC.o) ?_
      refine mjT_ret rfl rfl rfl ?_
      exact ⟨rfl, _, _, rfl, hC⟩
  · rw [if_neg h2]
    refine mjT_ifF (iR_no (b := 6) (by omega) (by omega) (by omega)) ?_
    refine mjT_ifF (iR_no (b := 6) (by omega) (by omega) (by omega)) ?_
    refine mjT_ifF (iR_no (b := 6) (by omega) (by omega) (by omega)) ?_
    refine mjT_ifF (iR_no (b := 6) (by omega) (by omega) (by omega)) ?_
    refine mjT_ifF (iR_no (b := 6) (by omega) (by omega) (by omega)) ?_
    refine mjT_ifF (iR_no (b := 6) (by omega) (by omega) (by omega)) ?_
    refine mjT_ifF (iR_no (b := 6) (by omega) (by omega) (by omega)) ?_
    refine mjT_go 1 (pc' := 112) (L' := [some (.ref 0), some (.int y)]) (st' := [.int (-1)]) (w1 := (KC, I, J, GC)) rfl ?_
    refine mjT_ret rfl rfl rfl ?_
    exact ⟨rfl, _, _, rfl, hC⟩
theorem mm_count (hV : VS S) (hM : MW I J S) {y : Int32} : mj_E 162 [.ref 0, .int y] (KM, I, J, GM) (fun w' r => r = some (.int (aCount S y)) ∧ ∃ I' J', w' = (KM, I', J', GM) ∧ MW I' J' S) := by
  have hn := hV.o.n
  have hwet := hV.o.wet
  have hmd : S.o.day % 30 < 30 := Nat.mod_lt _ (by omega)
  have hdd := hV.o.day
  have hb := wetN_lt S.o
  have hr01 := ir01 y 0 6
  unfold aCount
  refine mjT_go 2 (pc' := (if y = nI 0 then 44 else (if y = nI 1 then 53 else (if y = nI 2 then 62 else (if y = nI 3 then 85 else (if y = nI 4 then 94 else (if y = nI 5 then 103 else (if y = nI 6 then 112 else 117)))))))) (L' := [some (.ref 0), some (.int y)]) (st' := []) (w1 := (KM, I, J, GM)) rfl ?_
  by_cases h2 : iR y 0 6 = 1
  · rw [if_pos h2]
    obtain ⟨k, _, hk, rfl⟩ := iR_1 h2 (by omega) (by omega)
    rw [nn_N (by omega)]
    rcases lt7 hk with rfl | rfl | rfl | rfl | rfl | rfl | rfl
    · refine mjT_ifT rfl ?_
      refine mjT_go 3 (pc' := 51) (L' := [some (.ref 0), some (.int (nI 0))]) (st' := [.int (nI 147), .ref 1]) (w1 := (KM, I, J, GM)) rfl ?_
      refine mjT_ial (v := nI S.o.n) 147 1840 rfl (pc' := 52) rfl rfl rfl (by omega) (by omega) (mo_at hM.o.n rfl (by omega)) ?_
      refine mjT_ret rfl rfl rfl ?_
      exact ⟨rfl, _, _, rfl, hM⟩
    · refine mjT_ifF (by decide) ?_
      refine mjT_ifT rfl ?_
      refine mjT_go 3 (pc' := 60) (L' := [some (.ref 0), some (.int (nI 1))]) (st' := [.int (nI 148), .ref 1]) (w1 := (KM, I, J, GM)) rfl ?_
      refine mjT_ial (v := nI S.o.day) 148 1840 rfl (pc' := 61) rfl rfl rfl (by omega) (by omega) (mo_at hM.o.day rfl (by omega)) ?_
      refine mjT_ret rfl rfl rfl ?_
      exact ⟨rfl, _, _, rfl, hM⟩
    · refine mjT_ifF (by decide) ?_
      refine mjT_ifF (by decide) ?_
      refine mjT_ifT rfl ?_
      refine mjT_go 3 (pc' := 69) (L' := [some (.ref 0), some (.int (nI 2))]) (st' := [.int (nI 149), .ref 1]) (w1 := (KM, I, J, GM)) rfl ?_
      refine mjT_ial (v := nI S.o.wet) 149 1840 rfl (pc' := 70) rfl rfl rfl (by omega) (by omega) (mo_at hM.o.wet rfl (by omega)) ?_
      refine mjT_go 3 (pc' := 77) (L' := [some (.ref 0), some (.int (nI 2))]) (st' := [.int (nI 148), .ref 1, .int (nI S.o.wet)]) (w1 := (KM, I, J, GM)) rfl ?_
      refine mjT_ial (v := nI S.o.day) 148 1840 rfl (pc' := 78) rfl rfl rfl (by omega) (by omega) (mo_at hM.o.day rfl (by omega)) ?_
      refine mjT_go 1 (pc' := 80) (L' := [some (.ref 0), some (.int (nI 2))]) (st' := [.int (nI 30), .int (nI S.o.day), .int (nI S.o.wet)]) (w1 := (KM, I, J, GM)) rfl ?_
      refine mjT_remN (u := S.o.day) (v := 30) rfl (pc' := 81) rfl rfl rfl (by omega) (by omega) (by omega) ?_
      refine mjT_go 3 (pc' := 84) (L' := [some (.ref 0), some (.int (nI 2))]) (st' := [.int (((nI S.o.wet) >>> ((nI (S.o.day % 30)) &&& 31)) &&& (nI 1))]) (w1 := (KM, I, J, GM)) rfl ?_
      rw [bit_at (by omega) (by omega)]
      refine mjT_ret rfl rfl rfl ?_
      exact ⟨rfl, _, _, rfl, hM⟩
    · refine mjT_ifF (by decide) ?_
      refine mjT_ifF (by decide) ?_
      refine mjT_ifF (by decide) ?_
      refine mjT_ifT rfl ?_
      refine mjT_go 3 (pc' := 92) (L' := [some (.ref 0), some (.int (nI 3))]) (st' := [.int (nI 150), .ref 1]) (w1 := (KM, I, J, GM)) rfl ?_
      refine mjT_ial (v := nI S.o.dry) 150 1840 rfl (pc' := 93) rfl rfl rfl (by omega) (by omega) (mo_at hM.o.dry rfl (by omega)) ?_
      refine mjT_ret rfl rfl rfl ?_
      exact ⟨rfl, _, _, rfl, hM⟩
    · refine mjT_ifF (by decide) ?_
      refine mjT_ifF (by decide) ?_
      refine mjT_ifF (by decide) ?_
      refine mjT_ifF (by decide) ?_
      refine mjT_ifT rfl ?_
      refine mjT_go 3 (pc' := 101) (L' := [some (.ref 0), some (.int (nI 4))]) (st' := [.int (nI 151), .ref 1]) (w1 := (KM, I, J, GM)) rfl ?_
      refine mjT_ial (v := nI S.o.las) 151 1840 rfl (pc' := 102) rfl rfl rfl (by omega) (by omega) (mo_at hM.o.las rfl (by omega)) ?_
      refine mjT_ret rfl rfl rfl ?_
      exact ⟨rfl, _, _, rfl, hM⟩
    · refine mjT_ifF (by decide) ?_
      refine mjT_ifF (by decide) ?_
      refine mjT_ifF (by decide) ?_
      refine mjT_ifF (by decide) ?_
      refine mjT_ifF (by decide) ?_
      refine mjT_ifT rfl ?_
      refine mjT_go 3 (pc' := 110) (L' := [some (.ref 0), some (.int (nI 5))]) (st' := [.int (nI 153), .ref 1]) (w1 := (KM, I, J, GM)) rfl ?_
      refine mjT_ial (v := nI S.kn) 153 1840 rfl (pc' := 111) rfl rfl rfl (by omega) (by omega) (show I 1 153 = nI S.kn from (mo_at hM.past.1 rfl (by omega))) ?_
      refine mjT_ret rfl rfl rfl ?_
      exact ⟨rfl, _, _, rfl, hM⟩
    · refine mjT_ifF (by decide) ?_
      refine mjT_ifF (by decide) ?_
      refine mjT_ifF (by decide) ?_
      refine mjT_ifF (by decide) ?_
      refine mjT_ifF (by decide) ?_
      refine mjT_ifF (by decide) ?_
      refine mjT_ifT rfl ?_
      refine mjT_go 1 (pc' := 113) (L' := [some (.ref 0), some (.int (nI 6))]) (st' := [.ref 0]) (w1 := (KM, I, J, GM)) rfl ?_
      refine mjT_callE (as := [.ref 0]) (rest := []) (r1 := some (.int (nI (allN S.o S.o.n)))) rfl rfl rfl rfl rfl ⟨rfl, rfl⟩ (m_allTills hV.o hM.o) ?_
      refine mjT_ret rfl rfl rfl ?_
      exact ⟨rfl, _, _, rfl, hM⟩
  · rw [if_neg h2]
    refine mjT_ifF (iR_no (b := 6) (by omega) (by omega) (by omega)) ?_
    refine mjT_ifF (iR_no (b := 6) (by omega) (by omega) (by omega)) ?_
    refine mjT_ifF (iR_no (b := 6) (by omega) (by omega) (by omega)) ?_
    refine mjT_ifF (iR_no (b := 6) (by omega) (by omega) (by omega)) ?_
    refine mjT_ifF (iR_no (b := 6) (by omega) (by omega) (by omega)) ?_
    refine mjT_ifF (iR_no (b := 6) (by omega) (by omega) (by omega)) ?_
    refine mjT_ifF (iR_no (b := 6) (by omega) (by omega) (by omega)) ?_
    refine mjT_go 1 (pc' := 118) (L' := [some (.ref 0), some (.int y)]) (st' := [.int (-1)]) (w1 := (KM, I, J, GM)) rfl ?_
    refine mjT_ret rfl rfl rfl ?_
    exact ⟨rfl, _, _, rfl, hM⟩
theorem sim_count {x : Int32} : SimO 82 162 [.int x] := fun S _ _ _ _ hV hC hM => ⟨S, aCount S x, hV, cc_count hV hC, mm_count hV hM⟩
/-! seed -/
noncomputable def aSeed (S : Sta) (x : Int32) : Int32 := if x < 0 then -1 else nI S.o.draw
noncomputable def sSeed (S : Sta) (x : Int32) : Sta := if x < 0 then S else setO S (drawO S.o (nn x))
theorem cc_seed (hV : VS S) (hC : CW I J S) {x : Int32} : mj_E 86 [.ref 0, .int x] (KC, I, J, GC) (fun w' r => r = some (.int (aSeed S x)) ∧ ∃ I' J', w' = (KC, I', J', GC) ∧ CW I' J' (sSeed S x)) := by
  unfold aSeed sSeed
  by_cases hok : x < 0
  · rw [if_pos hok, if_pos hok]
    refine mjT_go 2 (pc' := if 0 ≤ x then 6 else 4) (L' := [some (.ref 0), some (.int x), none]) (st' := []) (w1 := (KC, I, J, GC)) rfl ?_
    refine mjT_ifF (fun q => i32_nlt.mpr q hok) ?_
    refine mjT_go 1 (pc' := 5) (L' := [some (.ref 0), some (.int x), none]) (st' := [.int (-1)]) (w1 := (KC, I, J, GC)) rfl ?_
    refine mjT_ret rfl rfl rfl ?_
    exact ⟨rfl, _, _, rfl, hC⟩
  · rw [if_neg hok, if_neg hok]
    obtain ⟨k, hk, rfl⟩ := nI_of hok
    rw [nn_N hk]
    refine mjT_go 2 (pc' := if 0 ≤ nI k then 6 else 4) (L' := [some (.ref 0), some (.int (nI k)), none]) (st' := []) (w1 := (KC, I, J, GC)) rfl ?_
    refine mjT_ifT (nI_pos' hk) ?_
    refine mjT_go 2 (pc' := 10) (L' := [some (.ref 0), some (.int (nI k)), none]) (st' := [.ref 1]) (w1 := (KC, I, J, GC)) rfl ?_
    refine mjT_gfi (v := nI S.o.draw) rfl (Or.inl rfl) (pc' := 13) rfl rfl (mo_at (hC.o.draw) (by omega) (by omega)) ?_
    refine mjT_go 4 (pc' := 19) (L' := [some (.ref 0), some (.int (nI k)), some (.int (nI S.o.draw))]) (st' := [.int (nI k), .ref 1]) (w1 := (KC, I, J, GC)) rfl ?_
    obtain ⟨V1, eV1⟩ : ∃ z, z = mj_row I 1 (va_up (I 1) 4 (nI k)) := ⟨_, rfl⟩
    refine mjT_pfi (I' := V1) rfl (pc' := 22) rfl rfl eV1.symm ?_
    refine mjT_go 1 (pc' := 23) (L' := [some (.ref 0), some (.int (nI k)), some (.int (nI S.o.draw))]) (st' := [.int (nI S.o.draw)]) (w1 := (KC, V1, J, GC)) rfl ?_
    refine mjT_ret rfl rfl rfl ?_
    exact ⟨rfl, _, _, rfl, cw_o hC (ro_draw hC.o eV1) (fun h hh => st_h eV1 (by omega))⟩
theorem mm_seed (hV : VS S) (hM : MW I J S) {x : Int32} : mj_E 174 [.ref 0, .int x] (KM, I, J, GM) (fun w' r => r = some (.int (aSeed S x)) ∧ ∃ I' J', w' = (KM, I', J', GM) ∧ MW I' J' (sSeed S x)) := by
  have hn := hV.o.n
  unfold aSeed sSeed
  by_cases hok : x < 0
  · rw [if_pos hok, if_pos hok]
    refine mjT_go 2 (pc' := if 0 ≤ x then 8 else 4) (L' := [some (.ref 0), some (.int x)]) (st' := []) (w1 := (KM, I, J, GM)) rfl ?_
    refine mjT_ifF (fun q => i32_nlt.mpr q hok) ?_
    refine mjT_go 2 (pc' := 16) (L' := [some (.ref 0), some (.int x)]) (st' := [.int (-1)]) (w1 := (KM, I, J, GM)) rfl ?_
    refine mjT_ret rfl rfl rfl ?_
    exact ⟨rfl, _, _, rfl, hM⟩
  · rw [if_neg hok, if_neg hok]
    obtain ⟨k, hk, rfl⟩ := nI_of hok
    rw [nn_N hk]
    refine mjT_go 2 (pc' := if 0 ≤ nI k then 8 else 4) (L' := [some (.ref 0), some (.int (nI k))]) (st' := []) (w1 := (KM, I, J, GM)) rfl ?_
    refine mjT_ifT (nI_pos' hk) ?_
    refine mjT_go 3 (pc' := 13) (L' := [some (.ref 0), some (.int (nI k))]) (st' := [.int (nI k), .int (nI 152), .ref 0]) (w1 := (KM, I, J, GM)) rfl ?_
    refine mjT_call (as := [.ref 0, .int (nI 152), .int (nI k)]) (rest := []) rfl rfl rfl rfl rfl ⟨rfl, rfl⟩ (m_become (by omega) (mo_at hM.o.draw rfl (by omega))) ?_
    rintro _ _ ⟨rfl, I2, rfl, e2⟩
    refine mjT_ret rfl rfl rfl ?_
    exact ⟨rfl, _, _, rfl, mw_o hM hV (mo_draw e2 (by omega) hM.o hn) (fun h a _ => st_h e2 a) (fun k hk => st_ne e2 (by omega))⟩
theorem vs_seed (hV : VS S) {x : Int32} : VS (sSeed S x) := by
  unfold sSeed
  by_cases hok : x < 0
  · rw [if_pos hok]; exact hV
  · rw [if_neg hok]
    obtain ⟨k, hk, rfl⟩ := nI_of hok
    rw [nn_N hk]
    exact vs_o hV (v_draw hV.o hk) hV.day rfl
theorem sim_seed {x : Int32} : SimO 86 174 [.int x] := fun S _ _ _ _ hV hC hM => ⟨_, _, vs_seed hV, cc_seed hV hC, mm_seed hV hM⟩
end OP5
