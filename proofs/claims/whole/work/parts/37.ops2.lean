section OP2
variable {I : Nat → Nat → Int32} {J : Nat → Nat → Int64} {S : Sta} {o : Nat} {O : Off} {P : Nat → Prop}
theorem alk_comm (d e : Nat → Nat) : ∀ k, alk d e k = alk e d k
  | 0 => rfl
  | k + 1 => by
    unfold alk; rw [alk_comm d e k]
    by_cases h : d k = e k
    · rw [if_pos h, if_pos h.symm]
    · rw [if_neg h, if_neg (fun q => h q.symm)]
theorem alk_s6 (d e : Nat → Nat) : alk d e 6 < 7 := by have := alk_le d e 6; omega
theorem m_like {O2 : Off} (hV : VO O) (hO : MO I 1680 O2) (hn2 : O2.n = O.n) (hV2 : VO O2) (hO0 : MO I 0 O) {p r : Nat} (hp : p < O.n) (hr : r < O.n) : mj_Ev 182 [.ref 0, .int (nI p), .int (nI r)] (KM, I, J, GM) (KM, I, J, GM) (some (.int (nI (alk (O2.wr p) (O.own r) 6)))) := by
  refine mj_ev_of ?_
  have hn := hV.n
  have hw := hV2.wr p (by omega)
  have hw2 := hV.own r hr
  refine mjT_go 4 (pc' := 5) (L' := [some (.ref 0), some (.int (nI p)), some (.int (nI r)), some (.int (nI 0)), some (.int (nI 0))]) (st' := []) (w1 := (KM, I, J, GM)) rfl ?_
  refine mj_loop (fun k L w => L = [some (.ref 0), some (.int (nI p)), some (.int (nI r)), some (.int (nI (alk (O2.wr p) (O.own r) k))), some (.int (nI k))] ∧ w = (KM, I, J, GM)) 6 (k0 := 0) (Nat.zero_le _) ?_ ?_ ?_
  · exact ⟨rfl, rfl⟩
  · rintro k _ _ hk ⟨rfl, rfl⟩ hc
    have h1 := hw k hk
    have h2 := hw2 k hk
    refine mjT_go 3 (pc' := if nI 6 ≤ nI k then 65 else 12) (L' := [some (.ref 0), some (.int (nI p)), some (.int (nI r)), some (.int (nI (alk (O2.wr p) (O.own r) k))), some (.int (nI k))]) (st' := []) (w1 := (KM, I, J, GM)) rfl ?_
    refine mjT_ifF (nI_ge (by omega) (by omega)) ?_
    refine mjT_go 12 (pc' := 31) (L' := [some (.ref 0), some (.int (nI p)), some (.int (nI r)), some (.int (nI (alk (O2.wr p) (O.own r) k))), some (.int (nI k))]) (st' := [.int ((((nI 1680) + ((nI 21) * (nI p))) + (nI 9)) + (nI k)), .ref 1, .int (nI (alk (O2.wr p) (O.own r) k))]) (w1 := (KM, I, J, GM)) rfl ?_
    refine mjT_ial (v := nI (O2.wr p k)) (((1680 + (21 * p)) + 9) + k) 1840 rfl (pc' := 32) rfl rfl (by simp only [nI_add, pk_mul]) (by omega) (by omega) (mo_at (show I 1 (1680 + 21 * p + 9 + k) = nI (O2.wr p k) from (hO.wr p (by omega) k hk)) (by omega) (by omega)) ?_
    refine mjT_go 9 (pc' := 45) (L' := [some (.ref 0), some (.int (nI p)), some (.int (nI r)), some (.int (nI (alk (O2.wr p) (O.own r) k))), some (.int (nI k))]) (st' := [.int ((((nI 21) * (nI r)) + (nI 3)) + (nI k)), .ref 1, .int (nI (O2.wr p k)), .int (nI (alk (O2.wr p) (O.own r) k))]) (w1 := (KM, I, J, GM)) rfl ?_
    refine mjT_ial (v := nI (O.own r k)) (((21 * r) + 3) + k) 1840 rfl (pc' := 46) rfl rfl (by simp only [nI_add, pk_mul]) (by omega) (by omega) (mo_at (show I 1 (21 * r + 3 + k) = nI (O.own r k) from (mo_at (hO0.own r hr k hk) rfl (by omega))) (by omega) (by omega)) ?_
    refine mjT_go 1 (pc' := if ¬ nI (O2.wr p k) = nI (O.own r k) then 53 else 49) (L' := [some (.ref 0), some (.int (nI p)), some (.int (nI r)), some (.int (nI (alk (O2.wr p) (O.own r) k))), some (.int (nI k))]) (st' := [.int (nI (alk (O2.wr p) (O.own r) k))]) (w1 := (KM, I, J, GM)) rfl ?_
    refine mjT_if_ne (u := O2.wr p k) (v := O.own r k) rfl rfl (by omega) (by omega) (fun hq => ?_) (fun hq => ?_)
    · refine mjT_go 1 (pc' := 54) (L' := [some (.ref 0), some (.int (nI p)), some (.int (nI r)), some (.int (nI (alk (O2.wr p) (O.own r) k))), some (.int (nI k))]) (st' := [.int (nI 0), .int (nI (alk (O2.wr p) (O.own r) k))]) (w1 := (KM, I, J, GM)) rfl ?_
      refine mjT_callE (as := [.int (nI 0)]) (rest := [.int (nI (alk (O2.wr p) (O.own r) k))]) (r1 := some (.int (nI 0))) rfl rfl rfl rfl rfl ⟨rfl, rfl⟩ (m_one (by omega) _) ?_
      refine mjT_go 4 (pc' := 5) (L' := [some (.ref 0), some (.int (nI p)), some (.int (nI r)), some (.int ((nI (alk (O2.wr p) (O.own r) k)) + (nI 0))), some (.int ((nI k) + (nI 1)))]) (st' := []) (w1 := (KM, I, J, GM)) rfl ?_
      rw [nI_add, nI_add, show alk (O2.wr p) (O.own r) k + 0 = alk (O2.wr p) (O.own r) (k + 1) by rw [alk_s, if_neg hq]]
      exact hc _ _ ⟨rfl, rfl⟩
    · refine mjT_go 2 (pc' := 54) (L' := [some (.ref 0), some (.int (nI p)), some (.int (nI r)), some (.int (nI (alk (O2.wr p) (O.own r) k))), some (.int (nI k))]) (st' := [.int (nI 1), .int (nI (alk (O2.wr p) (O.own r) k))]) (w1 := (KM, I, J, GM)) rfl ?_
      refine mjT_callE (as := [.int (nI 1)]) (rest := [.int (nI (alk (O2.wr p) (O.own r) k))]) (r1 := some (.int (nI 1))) rfl rfl rfl rfl rfl ⟨rfl, rfl⟩ (m_one (by omega) _) ?_
      refine mjT_go 4 (pc' := 5) (L' := [some (.ref 0), some (.int (nI p)), some (.int (nI r)), some (.int ((nI (alk (O2.wr p) (O.own r) k)) + (nI 1))), some (.int ((nI k) + (nI 1)))]) (st' := []) (w1 := (KM, I, J, GM)) rfl ?_
      rw [nI_add, nI_add, show alk (O2.wr p) (O.own r) k + 1 = alk (O2.wr p) (O.own r) (k + 1) by rw [alk_s, if_pos hq]]
      exact hc _ _ ⟨rfl, rfl⟩
  · rintro _ _ ⟨rfl, rfl⟩
    refine mjT_go 3 (pc' := if nI 6 ≤ nI 6 then 65 else 12) (L' := [some (.ref 0), some (.int (nI p)), some (.int (nI r)), some (.int (nI (alk (O2.wr p) (O.own r) 6))), some (.int (nI 6))]) (st' := []) (w1 := (KM, I, J, GM)) rfl ?_
    refine mjT_ifT (Int32.le_refl _) ?_
    refine mjT_go 1 (pc' := 66) (L' := [some (.ref 0), some (.int (nI p)), some (.int (nI r)), some (.int (nI (alk (O2.wr p) (O.own r) 6))), some (.int (nI 6))]) (st' := [.int (nI (alk (O2.wr p) (O.own r) 6))]) (w1 := (KM, I, J, GM)) rfl ?_
    refine mjT_ret rfl rfl rfl ?_
    exact ⟨rfl, rfl⟩
/-- whether nobody writes so many strokes -/
def outN (O2 : Off) (d : Nat → Nat) (q : Nat) : Nat → Nat
  | 0 => 1
  | k + 1 => if alk (O2.wr k) d 6 < q then outN O2 d q k else 0
theorem outN_lt (O2 : Off) (d : Nat → Nat) (q : Nat) : ∀ k, outN O2 d q k < 2
  | 0 => Nat.one_lt_two
  | k + 1 => by have := outN_lt O2 d q k; unfold outN; split <;> omega
theorem outN_0 {O2 : Off} {d : Nat → Nat} {q j : Nat} (h : ¬ alk (O2.wr j) d 6 < q) : ∀ {k}, j < k → outN O2 d q k = 0
  | 0, hk => absurd hk (by omega)
  | k + 1, hk => by
    unfold outN
    by_cases e : j = k
    · subst e; rw [if_neg h]
    · rw [outN_0 h (k := k) (by omega), ite_self]
def aOut (S : Sta) (x y z : Int32) : Int32 := if iP x S.o.n = 1 ∧ iR y 1 6 = 1 ∧ iR z 0 60 = 1 then nI (outN (goO S.o (nn z)) (S.o.own (nn x)) (nn y) S.o.n) else -1
theorem cc_out (hV : VS S) (hC : CW I J S) {x y z : Int32} : mj_E 90 [.ref 0, .int x, .int y, .int z] (KC, I, J, GC) (fun w' r => r = some (.int (aOut S x y z)) ∧ ∃ I' J', w' = (KC, I', J', GC) ∧ CW I' J' S) := by
  have hn := hV.o.n
  have hd := hV.day
  unfold aOut
  have hp01 := ip01 x S.o.n
  have hr01 := ir01 y 1 6
  have hs01 := ir01 z 0 60
  refine mjT_go 3 (pc' := 5) (L' := [some (.ref 0), some (.int x), some (.int y), some (.int z), none, none]) (st' := [.int x, .ref 1]) (w1 := (KC, I, J, GC)) rfl ?_
  refine mjT_callE (as := [.ref 1, .int x]) (rest := []) (r1 := some (.int (nI (iP x S.o.n)))) rfl rfl rfl rfl rfl ⟨rfl, rfl⟩ (c_has hV.o og_1 hC.o) ?_
  refine mjT_go 1 (pc' := if nI (iP x S.o.n) = 0 then 28 else 11) (L' := [some (.ref 0), some (.int x), some (.int y), some (.int z), none, none]) (st' := []) (w1 := (KC, I, J, GC)) rfl ?_
  refine mjT_if_eq (u := iP x S.o.n) (v := 0) rfl nI_0.symm (by omega) (by omega) (fun h1 => ?_) (fun h1 => ?_)
  · rw [if_neg (by omega)]
    refine mjT_go 1 (pc' := 29) (L' := [some (.ref 0), some (.int x), some (.int y), some (.int z), none, none]) (st' := [.int (-1)]) (w1 := (KC, I, J, GC)) rfl ?_
    refine mjT_ret rfl rfl rfl ?_
    exact ⟨rfl, _, _, rfl, hC⟩
  refine mjT_go 3 (pc' := 15) (L' := [some (.ref 0), some (.int x), some (.int y), some (.int z), none, none]) (st' := [.int (nI 6), .int (nI 1), .int y]) (w1 := (KC, I, J, GC)) rfl ?_
  refine mjT_callE (as := [.int y, .int (nI 1), .int (nI 6)]) (rest := []) (r1 := some (.int (nI (iR y 1 6)))) rfl rfl rfl rfl rfl ⟨rfl, rfl⟩ c_within ?_
  refine mjT_go 1 (pc' := if nI (iR y 1 6) = 0 then 28 else 21) (L' := [some (.ref 0), some (.int x), some (.int y), some (.int z), none, none]) (st' := []) (w1 := (KC, I, J, GC)) rfl ?_
  refine mjT_if_eq (u := iR y 1 6) (v := 0) rfl nI_0.symm (by omega) (by omega) (fun h2 => ?_) (fun h2 => ?_)
  · rw [if_neg (by omega)]
    refine mjT_go 1 (pc' := 29) (L' := [some (.ref 0), some (.int x), some (.int y), some (.int z), none, none]) (st' := [.int (-1)]) (w1 := (KC, I, J, GC)) rfl ?_
    refine mjT_ret rfl rfl rfl ?_
    exact ⟨rfl, _, _, rfl, hC⟩
  refine mjT_go 1 (pc' := 22) (L' := [some (.ref 0), some (.int x), some (.int y), some (.int z), none, none]) (st' := [.int z]) (w1 := (KC, I, J, GC)) rfl ?_
  refine mjT_callE (as := [.int z]) (rest := []) (r1 := some (.int (nI (iR z 0 60)))) rfl rfl rfl rfl rfl ⟨rfl, rfl⟩ c_isForetold ?_
  refine mjT_go 1 (pc' := if ¬ nI (iR z 0 60) = 0 then 30 else 28) (L' := [some (.ref 0), some (.int x), some (.int y), some (.int z), none, none]) (st' := []) (w1 := (KC, I, J, GC)) rfl ?_
  refine mjT_if_ne (u := iR z 0 60) (v := 0) rfl nI_0.symm (by omega) (by omega) (fun h3 => ?_) (fun h3 => ?_)
  rotate_left
  · rw [if_neg (by omega)]
    refine mjT_go 1 (pc' := 29) (L' := [some (.ref 0), some (.int x), some (.int y), some (.int z), none, none]) (st' := [.int (-1)]) (w1 := (KC, I, J, GC)) rfl ?_
    refine mjT_ret rfl rfl rfl ?_
    exact ⟨rfl, _, _, rfl, hC⟩
  rw [if_pos (by omega)]
  obtain ⟨p, hp, rfl⟩ := iP_1 (x := x) (n := S.o.n) (by omega) (by omega)
  obtain ⟨q, hq1, hq6, rfl⟩ := iR_1 (x := y) (a := 1) (b := 6) (by omega) (by omega) (by omega)
  obtain ⟨n, _, hn60, rfl⟩ := iR_1 (x := z) (a := 0) (b := 60) (by omega) (by omega) (by omega)
  rw [nn_N (by omega), nn_N (by omega), nn_N (by omega)]
  refine mjT_go 2 (pc' := 32) (L' := [some (.ref 0), some (.int (nI p)), some (.int (nI q)), some (.int (nI n)), none, none]) (st' := [.int (nI n), .ref 0]) (w1 := (KC, I, J, GC)) rfl ?_
  refine mjT_call (as := [.ref 0, .int (nI n)]) (rest := []) rfl rfl rfl rfl rfl ⟨rfl, rfl⟩ (c_foretellAll hV.o hC.o (by omega)) ?_
  rintro _ _ ⟨rfl, I2, rfl, hO2, hf2⟩
  have hC2 := cw_fx hC hV hf2
  have hoL := hC2.o
  have hVg := v_go hV.o n (by omega)
  have hgn := go_n S.o n
  generalize goO S.o n = G at *
  refine mjT_go 3 (pc' := 40) (L' := [some (.ref 0), some (.int (nI p)), some (.int (nI q)), some (.int (nI n)), none, none]) (st' := [.int (nI p), .ref 1]) (w1 := (KC, I2, J, GC)) rfl ?_
  refine mjT_callE (as := [.ref 1, .int (nI p)]) (rest := []) (r1 := some (.int (nI (rw6 (S.o.own p))))) rfl rfl rfl rfl rfl ⟨rfl, rfl⟩ (c_ownOf hn og_1 hoL hp) ?_
  refine mjT_go 3 (pc' := 48) (L' := [some (.ref 0), some (.int (nI p)), some (.int (nI q)), some (.int (nI n)), some (.int (nI (rw6 (S.o.own p)))), some (.int (nI 0))]) (st' := []) (w1 := (KC, I2, J, GC)) rfl ?_
  refine mj_loop (fun k L w => L = [some (.ref 0), some (.int (nI p)), some (.int (nI q)), some (.int (nI n)), some (.int (nI (rw6 (S.o.own p)))), some (.int (nI k))] ∧ w = (KC, I2, J, GC) ∧ outN G (S.o.own p) q k = 1) S.o.n (k0 := 0) (Nat.zero_le _) ?_ ?_ ?_
  · exact ⟨rfl, rfl, rfl⟩
  · rintro k _ _ hk ⟨rfl, rfl, h1k⟩ hc
    have hal := alk_s6 (G.wr k) (S.o.own p)
    refine mjT_go 3 (pc' := 54) (L' := [some (.ref 0), some (.int (nI p)), some (.int (nI q)), some (.int (nI n)), some (.int (nI (rw6 (S.o.own p)))), some (.int (nI k))]) (st' := [.ref 1, .int (nI k)]) (w1 := (KC, I2, J, GC)) rfl ?_
    refine mjT_gfi (v := nI S.o.n) rfl (Or.inl rfl) (pc' := 57) rfl rfl (mo_at (hoL.n) (by omega) (by omega)) ?_
    refine mjT_go 1 (pc' := if nI S.o.n ≤ nI k then 86 else 60) (L' := [some (.ref 0), some (.int (nI p)), some (.int (nI q)), some (.int (nI n)), some (.int (nI (rw6 (S.o.own p)))), some (.int (nI k))]) (st' := []) (w1 := (KC, I2, J, GC)) rfl ?_
    refine mjT_ifF (nI_ge (by omega) (by omega)) ?_
    refine mjT_go 4 (pc' := 68) (L' := [some (.ref 0), some (.int (nI p)), some (.int (nI q)), some (.int (nI n)), some (.int (nI (rw6 (S.o.own p)))), some (.int (nI k))]) (st' := [.int (nI k), .ref 75, .int (nI (rw6 (S.o.own p)))]) (w1 := (KC, I2, J, GC)) rfl ?_
    refine mjT_callE (as := [.ref 75, .int (nI k)]) (rest := [.int (nI (rw6 (S.o.own p)))]) (r1 := some (.int (nI (rw6 (G.wr k))))) rfl rfl rfl rfl rfl ⟨rfl, rfl⟩ (c_writtenBy hVg.n og_75 hO2 (by omega) trivial) ?_
    refine mjT_callE (as := [.int (nI (rw6 (S.o.own p))), .int (nI (rw6 (G.wr k)))]) (rest := []) (r1 := some (.int (nI (alk (G.wr k) (S.o.own p) 6)))) rfl rfl rfl rfl rfl ⟨rfl, rfl⟩ (alk_comm _ _ _ ▸ e_alike (hV.o.own p hp) (hVg.wr k (by omega))) ?_
    refine mjT_go 2 (pc' := if nI (alk (G.wr k) (S.o.own p) 6) < nI q then 80 else 78) (L' := [some (.ref 0), some (.int (nI p)), some (.int (nI q)), some (.int (nI n)), some (.int (nI (rw6 (S.o.own p)))), some (.int (nI k))]) (st' := []) (w1 := (KC, I2, J, GC)) rfl ?_
    refine mjT_if_lt (u := alk (G.wr k) (S.o.own p) 6) (v := q) rfl rfl (by omega) (by omega) (fun hlt => ?_) (fun hlt => ?_)
    · refine mjT_go 2 (pc' := 48) (L' := [some (.ref 0), some (.int (nI p)), some (.int (nI q)), some (.int (nI n)), some (.int (nI (rw6 (S.o.own p)))), some (.int ((nI k) + (nI 1)))]) (st' := []) (w1 := (KC, I2, J, GC)) rfl ?_
      rw [nI_add]
      exact hc _ _ ⟨rfl, rfl, by unfold outN; rw [if_pos hlt]; exact h1k⟩
    · refine mjT_go 1 (pc' := 79) (L' := [some (.ref 0), some (.int (nI p)), some (.int (nI q)), some (.int (nI n)), some (.int (nI (rw6 (S.o.own p)))), some (.int (nI k))]) (st' := [.int (nI 0)]) (w1 := (KC, I2, J, GC)) rfl ?_
      refine mjT_ret rfl rfl rfl ?_
      exact ⟨by rw [outN_0 (by omega) hk], _, _, rfl, hC2⟩
  · rintro _ _ ⟨rfl, rfl, h1k⟩
    refine mjT_go 3 (pc' := 54) (L' := [some (.ref 0), some (.int (nI p)), some (.int (nI q)), some (.int (nI n)), some (.int (nI (rw6 (S.o.own p)))), some (.int (nI S.o.n))]) (st' := [.ref 1, .int (nI S.o.n)]) (w1 := (KC, I2, J, GC)) rfl ?_
    refine mjT_gfi (v := nI S.o.n) rfl (Or.inl rfl) (pc' := 57) rfl rfl (mo_at (hoL.n) (by omega) (by omega)) ?_
    refine mjT_go 1 (pc' := if nI S.o.n ≤ nI S.o.n then 86 else 60) (L' := [some (.ref 0), some (.int (nI p)), some (.int (nI q)), some (.int (nI n)), some (.int (nI (rw6 (S.o.own p)))), some (.int (nI S.o.n))]) (st' := []) (w1 := (KC, I2, J, GC)) rfl ?_
    refine mjT_ifT (Int32.le_refl _) ?_
    refine mjT_go 1 (pc' := 87) (L' := [some (.ref 0), some (.int (nI p)), some (.int (nI q)), some (.int (nI n)), some (.int (nI (rw6 (S.o.own p)))), some (.int (nI S.o.n))]) (st' := [.int (nI 1)]) (w1 := (KC, I2, J, GC)) rfl ?_
    refine mjT_ret rfl rfl rfl ?_
    exact ⟨by rw [h1k], _, _, rfl, hC2⟩
theorem mm_out (hV : VS S) (hM : MW I J S) {x y z : Int32} : mj_E 183 [.ref 0, .int x, .int y, .int z] (KM, I, J, GM) (fun w' r => r = some (.int (aOut S x y z)) ∧ ∃ I' J', w' = (KM, I', J', GM) ∧ MW I' J' S) := by
  have hn := hV.o.n
  have hd := hV.day
  unfold aOut
  have hp01 := ip01 x S.o.n
  have hr01 := ir01 y 1 6
  have hs01 := ir01 z 0 60
  refine mjT_go 2 (pc' := 2) (L' := [some (.ref 0), some (.int x), some (.int y), some (.int z), none, none]) (st' := [.int x, .ref 0]) (w1 := (KM, I, J, GM)) rfl ?_
  refine mjT_callE (as := [.ref 0, .int x]) (rest := []) (r1 := some (.int (nI (iP x S.o.n)))) rfl rfl rfl rfl rfl ⟨rfl, rfl⟩ (m_isPerson hV.o hM.o) ?_
  refine mjT_go 1 (pc' := if nI (iP x S.o.n) = 0 then 27 else 8) (L' := [some (.ref 0), some (.int x), some (.int y), some (.int z), none, none]) (st' := []) (w1 := (KM, I, J, GM)) rfl ?_
  refine mjT_if_eq (u := iP x S.o.n) (v := 0) rfl nI_0.symm (by omega) (by omega) (fun h1 => ?_) (fun h1 => ?_)
  · rw [if_neg (by omega)]
    refine mjT_go 1 (pc' := 28) (L' := [some (.ref 0), some (.int x), some (.int y), some (.int z), none, none]) (st' := [.int (-1)]) (w1 := (KM, I, J, GM)) rfl ?_
    refine mjT_ret rfl rfl rfl ?_
    exact ⟨rfl, _, _, rfl, hM⟩
  refine mjT_go 4 (pc' := 14) (L' := [some (.ref 0), some (.int x), some (.int y), some (.int z), none, none]) (st' := [.long (lN 6), .long (lN 1), .long y.toInt64]) (w1 := (KM, I, J, GM)) rfl ?_
  refine mjT_callE (as := [.long y.toInt64, .long (lN 1), .long (lN 6)]) (rest := []) (r1 := some (.int (nI (iR y 1 6)))) rfl rfl rfl rfl rfl ⟨rfl, rfl⟩ (m_inR (by decide) (by decide)) ?_
  refine mjT_go 1 (pc' := if nI (iR y 1 6) = 0 then 27 else 20) (L' := [some (.ref 0), some (.int x), some (.int y), some (.int z), none, none]) (st' := []) (w1 := (KM, I, J, GM)) rfl ?_
  refine mjT_if_eq (u := iR y 1 6) (v := 0) rfl nI_0.symm (by omega) (by omega) (fun h2 => ?_) (fun h2 => ?_)
  · rw [if_neg (by omega)]
    refine mjT_go 1 (pc' := 28) (L' := [some (.ref 0), some (.int x), some (.int y), some (.int z), none, none]) (st' := [.int (-1)]) (w1 := (KM, I, J, GM)) rfl ?_
    refine mjT_ret rfl rfl rfl ?_
    exact ⟨rfl, _, _, rfl, hM⟩
  refine mjT_go 1 (pc' := 21) (L' := [some (.ref 0), some (.int x), some (.int y), some (.int z), none, none]) (st' := [.int z]) (w1 := (KM, I, J, GM)) rfl ?_
  refine mjT_callE (as := [.int z]) (rest := []) (r1 := some (.int (nI (iR z 0 60)))) rfl rfl rfl rfl rfl ⟨rfl, rfl⟩ m_isLong ?_
  refine mjT_go 1 (pc' := if ¬ nI (iR z 0 60) = 0 then 29 else 27) (L' := [some (.ref 0), some (.int x), some (.int y), some (.int z), none, none]) (st' := []) (w1 := (KM, I, J, GM)) rfl ?_
  refine mjT_if_ne (u := iR z 0 60) (v := 0) rfl nI_0.symm (by omega) (by omega) (fun h3 => ?_) (fun h3 => ?_)
  rotate_left
  · rw [if_neg (by omega)]
    refine mjT_go 1 (pc' := 28) (L' := [some (.ref 0), some (.int x), some (.int y), some (.int z), none, none]) (st' := [.int (-1)]) (w1 := (KM, I, J, GM)) rfl ?_
    refine mjT_ret rfl rfl rfl ?_
    exact ⟨rfl, _, _, rfl, hM⟩
  rw [if_pos (by omega)]
  obtain ⟨p, hp, rfl⟩ := iP_1 (x := x) (n := S.o.n) (by omega) (by omega)
  obtain ⟨q, hq1, hq6, rfl⟩ := iR_1 (x := y) (a := 1) (b := 6) (by omega) (by omega) (by omega)
  obtain ⟨n, _, hn60, rfl⟩ := iR_1 (x := z) (a := 0) (b := 60) (by omega) (by omega) (by omega)
  rw [nn_N (by omega), nn_N (by omega), nn_N (by omega)]
  refine mjT_go 1 (pc' := 30) (L' := [some (.ref 0), some (.int (nI p)), some (.int (nI q)), some (.int (nI n)), none, none]) (st' := [.ref 0]) (w1 := (KM, I, J, GM)) rfl ?_
  refine mjT_call (as := [.ref 0]) (rest := []) rfl rfl rfl rfl rfl ⟨rfl, rfl⟩ (m_begin hV.o hM.o) ?_
  rintro _ _ ⟨rfl, I2, rfl, hO2, hf2⟩
  refine mjT_go 2 (pc' := 35) (L' := [some (.ref 0), some (.int (nI p)), some (.int (nI q)), some (.int (nI n)), none, none]) (st' := [.int (nI n), .ref 0]) (w1 := (KM, I2, J, GM)) rfl ?_
  refine mjT_call (as := [.ref 0, .int (nI n)]) (rest := []) rfl rfl rfl rfl rfl ⟨rfl, rfl⟩ (m_goOn hV.o hO2 (by omega)) ?_
  rintro _ _ ⟨rfl, I3, rfl, hO3, hf3⟩
  have hM3 := mw_ft hM hV (ft_tr hf2 (ft_of hf3))
  have hoL := hM3.o
  have hVg := v_go hV.o n (by omega)
  have hgn := go_n S.o n
  generalize goO S.o n = G at *
  refine mjT_go 4 (pc' := 44) (L' := [some (.ref 0), some (.int (nI p)), some (.int (nI q)), some (.int (nI n)), some (.int (nI 1)), some (.int (nI 0))]) (st' := []) (w1 := (KM, I3, J, GM)) rfl ?_
  refine mj_loop (fun k L w => L = [some (.ref 0), some (.int (nI p)), some (.int (nI q)), some (.int (nI n)), some (.int (nI (outN G (S.o.own p) q k))), some (.int (nI k))] ∧ w = (KM, I3, J, GM)) S.o.n (k0 := 0) (Nat.zero_le _) ?_ ?_ ?_
  · exact ⟨rfl, rfl⟩
  · rintro k _ _ hk ⟨rfl, rfl⟩ hc
    have hal := alk_s6 (G.wr k) (S.o.own p)
    have ho := outN_lt G (S.o.own p) q k
    refine mjT_go 4 (pc' := 53) (L' := [some (.ref 0), some (.int (nI p)), some (.int (nI q)), some (.int (nI n)), some (.int (nI (outN G (S.o.own p) q k))), some (.int (nI k))]) (st' := [.int (nI 147), .ref 1, .int (nI k)]) (w1 := (KM, I3, J, GM)) rfl ?_
    refine mjT_ial (v := nI S.o.n) 147 1840 rfl (pc' := 54) rfl rfl rfl (by omega) (by omega) (mo_at hoL.n rfl (by omega)) ?_
    refine mjT_go 1 (pc' := if nI S.o.n ≤ nI k then 86 else 57) (L' := [some (.ref 0), some (.int (nI p)), some (.int (nI q)), some (.int (nI n)), some (.int (nI (outN G (S.o.own p) q k))), some (.int (nI k))]) (st' := []) (w1 := (KM, I3, J, GM)) rfl ?_
    refine mjT_ifF (nI_ge (by omega) (by omega)) ?_
    refine mjT_go 2 (pc' := if nI (outN G (S.o.own p) q k) = 0 then 77 else 62) (L' := [some (.ref 0), some (.int (nI p)), some (.int (nI q)), some (.int (nI n)), some (.int (nI (outN G (S.o.own p) q k))), some (.int (nI k))]) (st' := []) (w1 := (KM, I3, J, GM)) rfl ?_
    refine mjT_if_eq (u := outN G (S.o.own p) q k) (v := 0) rfl nI_0.symm (by omega) (by omega) (fun h0 => ?_) (fun h0 => ?_)
    · refine mjT_go 4 (pc' := 44) (L' := [some (.ref 0), some (.int (nI p)), some (.int (nI q)), some (.int (nI n)), some (.int (nI 0)), some (.int ((nI k) + (nI 1)))]) (st' := []) (w1 := (KM, I3, J, GM)) rfl ?_
      rw [nI_add, show nI 0 = nI (outN G (S.o.own p) q (k + 1)) by unfold outN; rw [h0, ite_self]]
      exact hc _ _ ⟨rfl, rfl⟩
    · refine mjT_go 3 (pc' := 66) (L' := [some (.ref 0), some (.int (nI p)), some (.int (nI q)), some (.int (nI n)), some (.int (nI (outN G (S.o.own p) q k))), some (.int (nI k))]) (st' := [.int (nI p), .int (nI k), .ref 0]) (w1 := (KM, I3, J, GM)) rfl ?_
      refine mjT_callE (as := [.ref 0, .int (nI k), .int (nI p)]) (rest := []) (r1 := some (.int (nI (alk (G.wr k) (S.o.own p) 6)))) rfl rfl rfl rfl rfl ⟨rfl, rfl⟩ (m_like hV.o hO3 hgn hVg hoL hk hp) ?_
      refine mjT_go 2 (pc' := if nI q ≤ nI (alk (G.wr k) (S.o.own p) 6) then 77 else 73) (L' := [some (.ref 0), some (.int (nI p)), some (.int (nI q)), some (.int (nI n)), some (.int (nI (outN G (S.o.own p) q k))), some (.int (nI k))]) (st' := []) (w1 := (KM, I3, J, GM)) rfl ?_
      refine mjT_if_le (u := q) (v := alk (G.wr k) (S.o.own p) 6) rfl rfl (by omega) (by omega) (fun hlt => ?_) (fun hlt => ?_)
      · refine mjT_go 4 (pc' := 44) (L' := [some (.ref 0), some (.int (nI p)), some (.int (nI q)), some (.int (nI n)), some (.int (nI 0)), some (.int ((nI k) + (nI 1)))]) (st' := []) (w1 := (KM, I3, J, GM)) rfl ?_
        rw [nI_add, show nI 0 = nI (outN G (S.o.own p) q (k + 1)) by unfold outN; rw [if_neg (by omega)]]
        exact hc _ _ ⟨rfl, rfl⟩
      · refine mjT_go 5 (pc' := 44) (L' := [some (.ref 0), some (.int (nI p)), some (.int (nI q)), some (.int (nI n)), some (.int (nI 1)), some (.int ((nI k) + (nI 1)))]) (st' := []) (w1 := (KM, I3, J, GM)) rfl ?_
        rw [nI_add, show nI 1 = nI (outN G (S.o.own p) q (k + 1)) by unfold outN; rw [if_pos hlt, show outN G (S.o.own p) q k = 1 by omega]]
        exact hc _ _ ⟨rfl, rfl⟩
  · rintro _ _ ⟨rfl, rfl⟩
    have ho := outN_lt G (S.o.own p) q S.o.n
    refine mjT_go 4 (pc' := 53) (L' := [some (.ref 0), some (.int (nI p)), some (.int (nI q)), some (.int (nI n)), some (.int (nI (outN G (S.o.own p) q S.o.n))), some (.int (nI S.o.n))]) (st' := [.int (nI 147), .ref 1, .int (nI S.o.n)]) (w1 := (KM, I3, J, GM)) rfl ?_
    refine mjT_ial (v := nI S.o.n) 147 1840 rfl (pc' := 54) rfl rfl rfl (by omega) (by omega) (mo_at hoL.n rfl (by omega)) ?_
    refine mjT_go 1 (pc' := if nI S.o.n ≤ nI S.o.n then 86 else 57) (L' := [some (.ref 0), some (.int (nI p)), some (.int (nI q)), some (.int (nI n)), some (.int (nI (outN G (S.o.own p) q S.o.n))), some (.int (nI S.o.n))]) (st' := []) (w1 := (KM, I3, J, GM)) rfl ?_
    refine mjT_ifT (Int32.le_refl _) ?_
    refine mjT_go 1 (pc' := 88) (L' := [some (.ref 0), some (.int (nI p)), some (.int (nI q)), some (.int (nI n)), some (.int (nI (outN G (S.o.own p) q S.o.n))), some (.int (nI S.o.n))]) (st' := [.int (nI (outN G (S.o.own p) q S.o.n))]) (w1 := (KM, I3, J, GM)) rfl ?_
    refine mjT_callE (as := [.int (nI (outN G (S.o.own p) q S.o.n))]) (rest := []) (r1 := some (.int (nI (outN G (S.o.own p) q S.o.n)))) rfl rfl rfl rfl rfl ⟨rfl, rfl⟩ (m_one ho _) ?_
    refine mjT_ret rfl rfl rfl ?_
    exact ⟨rfl, _, _, rfl, hM3⟩
theorem sim_out {x y z : Int32} : SimO 90 183 [.int x, .int y, .int z] := fun S _ _ _ _ hV hC hM => ⟨S, aOut S x y z, hV, cc_out hV hC, mm_out hV hM⟩
end OP2
