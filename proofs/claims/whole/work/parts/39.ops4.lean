section OP4
variable {I : Nat → Nat → Int32} {J : Nat → Nat → Int64} {S : Sta} {o q : Nat} {O : Off} {P : Nat → Prop}
theorem iR_no {x : Int32} {b : Nat} (h : iR x 0 b = 0) (hb : b < 2 ^ 31) {k : Nat} (hk : k ≤ b) : ¬ x = nI k := fun e => by
  subst e
  rw [iR_N (by omega) (by omega) hb, if_pos ⟨by omega, hk⟩] at h
  omega
theorem c_takenBy (hV : VO O) (hG : HaG q) (hO : HO I q O P) {p : Nat} (hp : p < O.n) (hP : P p) : mj_Ev 4 [.ref q, .int (nI p)] (KC, I, J, GC) (KC, I, J, GC) (some (.int (nI (tillsN O p 6)))) := by
  refine mj_ev_of ?_
  have hn := hV.n
  refine mjT_go 4 (pc' := 4) (L' := [some (.ref q), some (.int (nI p)), some (.int (nI 0)), some (.int (nI 0))]) (st' := []) (w1 := (KC, I, J, GC)) rfl ?_
  refine mj_loop (fun k L w => L = [some (.ref q), some (.int (nI p)), some (.int (nI (tillsN O p k))), some (.int (nI k))] ∧ w = (KC, I, J, GC)) 6 (k0 := 0) (Nat.zero_le _) ?_ ?_ ?_
  · exact ⟨rfl, rfl⟩
  · rintro k _ _ hk ⟨rfl, rfl⟩ hc
    have ht := hV.till p hp k hk
    refine mjT_go 3 (pc' := if nI 6 ≤ nI k then 30 else 10) (L' := [some (.ref q), some (.int (nI p)), some (.int (nI (tillsN O p k))), some (.int (nI k))]) (st' := []) (w1 := (KC, I, J, GC)) rfl ?_
    refine mjT_ifF (nI_ge (by omega) (by omega)) ?_
    refine mjT_go 3 (pc' := 13) (L' := [some (.ref q), some (.int (nI p)), some (.int (nI (tillsN O p k))), some (.int (nI k))]) (st' := [.int (nI k), .int (nI p), .ref q]) (w1 := (KC, I, J, GC)) rfl ?_
    refine mjT_callE (as := [.ref q, .int (nI p), .int (nI k)]) (rest := []) (r1 := some (.int (tI (O.till p k)))) rfl rfl rfl (mj_callI rfl rfl hG.k0) rfl ⟨rfl, rfl⟩ (c_endOf hV hG hO hp hP hk) ?_
    refine mjT_go 2 (pc' := if tI (O.till p k) = (-4) then 24 else 21) (L' := [some (.ref q), some (.int (nI p)), some (.int (nI (tillsN O p k))), some (.int (nI k))]) (st' := []) (w1 := (KC, I, J, GC)) rfl ?_
    refine mjT_if (fun hz => ?_) (fun hz => ?_)
    · rw [tI_m4 (by omega)] at hz
      refine mjT_go 2 (pc' := 4) (L' := [some (.ref q), some (.int (nI p)), some (.int (nI (tillsN O p k))), some (.int ((nI k) + (nI 1)))]) (st' := []) (w1 := (KC, I, J, GC)) rfl ?_
      rw [nI_add, ← show tillsN O p (k + 1) = tillsN O p k by unfold tillsN; rw [if_pos hz]; cases k <;> rfl]
      exact hc _ _ ⟨rfl, rfl⟩
    · rw [tI_m4 (by omega)] at hz
      refine mjT_go 3 (pc' := 4) (L' := [some (.ref q), some (.int (nI p)), some (.int ((nI (tillsN O p k)) + (nI 1))), some (.int ((nI k) + (nI 1)))]) (st' := []) (w1 := (KC, I, J, GC)) rfl ?_
      rw [nI_add, nI_add, ← show tillsN O p (k + 1) = tillsN O p k + 1 by show _ + (if _ then _ else _) = _; rw [if_neg hz]]
      exact hc _ _ ⟨rfl, rfl⟩
  · rintro _ _ ⟨rfl, rfl⟩
    refine mjT_go 3 (pc' := if nI 6 ≤ nI 6 then 30 else 10) (L' := [some (.ref q), some (.int (nI p)), some (.int (nI (tillsN O p 6))), some (.int (nI 6))]) (st' := []) (w1 := (KC, I, J, GC)) rfl ?_
    refine mjT_ifT (Int32.le_refl _) ?_
    refine mjT_go 1 (pc' := 31) (L' := [some (.ref q), some (.int (nI p)), some (.int (nI (tillsN O p 6))), some (.int (nI 6))]) (st' := [.int (nI (tillsN O p 6))]) (w1 := (KC, I, J, GC)) rfl ?_
    refine mjT_ret rfl rfl rfl ?_
    exact ⟨rfl, rfl⟩
theorem c_kindOf (hn : O.n ≤ 7) (hG : OfG o) (hO : RO I o O P) {p : Nat} (hp : p < O.n) : mj_Ev 13 [.ref o, .int (nI p)] (KC, I, J, GC) (KC, I, J, GC) (some (.int (nI (O.kind p)))) := by
  refine mj_ev_of ?_
  refine mjT_go 1 (pc' := 1) (L' := [some (.ref o), some (.int (nI p))]) (st' := [.ref o]) (w1 := (KC, I, J, GC)) rfl ?_
  refine mjT_gfr (h' := (o + 4)) rfl (pc' := 4) rfl hG.k0 hG.r4 ?_
  refine mjT_go 1 (pc' := 5) (L' := [some (.ref o), some (.int (nI p))]) (st' := [.int (nI p), .ref (o + 4)]) (w1 := (KC, I, J, GC)) rfl ?_
  refine mjT_ial (v := nI (O.kind p)) p 7 rfl (pc' := 6) rfl hG.k4 rfl (by omega) (by omega) (mo_at (hO.kind p (show p < O.n by omega)) (by omega) (by omega)) ?_
  refine mjT_ret rfl rfl rfl ?_
  exact ⟨rfl, rfl⟩
theorem c_strengthOf (hn : O.n ≤ 7) (hG : OfG o) (hO : RO I o O P) {p : Nat} (hp : p < O.n) : mj_Ev 14 [.ref o, .int (nI p)] (KC, I, J, GC) (KC, I, J, GC) (some (.int (nI (O.str p)))) := by
  refine mj_ev_of ?_
  refine mjT_go 1 (pc' := 1) (L' := [some (.ref o), some (.int (nI p))]) (st' := [.ref o]) (w1 := (KC, I, J, GC)) rfl ?_
  refine mjT_gfr (h' := (o + 5)) rfl (pc' := 4) rfl hG.k0 hG.r5 ?_
  refine mjT_go 1 (pc' := 5) (L' := [some (.ref o), some (.int (nI p))]) (st' := [.int (nI p), .ref (o + 5)]) (w1 := (KC, I, J, GC)) rfl ?_
  refine mjT_ial (v := nI (O.str p)) p 7 rfl (pc' := 6) rfl hG.k5 rfl (by omega) (by omega) (mo_at (hO.str p (show p < O.n by omega)) (by omega) (by omega)) ?_
  refine mjT_ret rfl rfl rfl ?_
  exact ⟨rfl, rfl⟩
def ofN (O : Off) (p : Nat) : Nat → Nat
  | 0 => O.kind p
  | 1 => O.str p
  | 2 => fg (O.own p) 6
  | 3 => O.chair p
  | 4 => fg (O.wr p) 6
  | 5 => tillsN O p 6
  | _ => lastsN O p
def aOf (S : Sta) (x y : Int32) : Int32 := if iP x S.o.n = 1 ∧ iR y 0 6 = 1 then nI (ofN S.o (nn x) (nn y)) else -1
theorem lt7 {k : Nat} (h : k ≤ 6) : k = 0 ∨ k = 1 ∨ k = 2 ∨ k = 3 ∨ k = 4 ∨ k = 5 ∨ k = 6 := by omega
theorem cc_of (hV : VS S) (hC : CW I J S) {x y : Int32} : mj_E 73 [.ref 0, .int x, .int y] (KC, I, J, GC) (fun w' r => r = some (.int (aOf S x y)) ∧ ∃ I' J', w' = (KC, I', J', GC) ∧ CW I' J' S) := by
  have hn := hV.o.n
  have hp01 := ip01 x S.o.n
  have hr01 := ir01 y 0 6
  unfold aOf
  refine mjT_go 3 (pc' := 5) (L' := [some (.ref 0), some (.int x), some (.int y)]) (st' := [.int x, .ref 1]) (w1 := (KC, I, J, GC)) rfl ?_
  refine mjT_callE (as := [.ref 1, .int x]) (rest := []) (r1 := some (.int (nI (iP x S.o.n)))) rfl rfl rfl rfl rfl ⟨rfl, rfl⟩ (c_has hV.o og_1 hC.o) ?_
  refine mjT_go 1 (pc' := if ¬ nI (iP x S.o.n) = 0 then 13 else 11) (L' := [some (.ref 0), some (.int x), some (.int y)]) (st' := []) (w1 := (KC, I, J, GC)) rfl ?_
  refine mjT_if_ne (u := iP x S.o.n) (v := 0) rfl nI_0.symm (by omega) (by omega) (fun h1 => ?_) (fun h1 => ?_)
  rotate_left
  · rw [if_neg (by omega)]
    refine mjT_go 1 (pc' := 12) (L' := [some (.ref 0), some (.int x), some (.int y)]) (st' := [.int (-1)]) (w1 := (KC, I, J, GC)) rfl ?_
    refine mjT_ret rfl rfl rfl ?_
    exact ⟨rfl, _, _, rfl, hC⟩
  obtain ⟨p, hp, rfl⟩ := iP_1 (x := x) (n := S.o.n) (by omega) (by omega)
  refine mjT_go 2 (pc' := (if y = nI 0 then 56 else (if y = nI 1 then 65 else (if y = nI 2 then 74 else (if y = nI 3 then 86 else (if y = nI 4 then 95 else (if y = nI 5 then 107 else (if y = nI 6 then 119 else 128)))))))) (L' := [some (.ref 0), some (.int (nI p)), some (.int y)]) (st' := []) (w1 := (KC, I, J, GC)) rfl ?_
  by_cases h2 : iR y 0 6 = 1
  · rw [if_pos (show iP (nI p) S.o.n = 1 ∧ iR y 0 6 = 1 from ⟨by omega, h2⟩)]
    obtain ⟨k, _, hk, rfl⟩ := iR_1 h2 (by omega) (by omega)
    rw [nn_N (by omega), nn_N (by omega)]
    rcases lt7 hk with rfl | rfl | rfl | rfl | rfl | rfl | rfl
    · refine mjT_ifT rfl ?_
      refine mjT_go 3 (pc' := 61) (L' := [some (.ref 0), some (.int (nI p)), some (.int (nI 0))]) (st' := [.int (nI p), .ref 1]) (w1 := (KC, I, J, GC)) rfl ?_
      refine mjT_callE (as := [.ref 1, .int (nI p)]) (rest := []) (r1 := some (.int (nI (S.o.kind p)))) rfl rfl rfl rfl rfl ⟨rfl, rfl⟩ (c_kindOf hn og_1 hC.o hp) ?_
      refine mjT_ret rfl rfl rfl ?_
      exact ⟨rfl, _, _, rfl, hC⟩
    · refine mjT_ifF (by decide) ?_
      refine mjT_ifT rfl ?_
      refine mjT_go 3 (pc' := 70) (L' := [some (.ref 0), some (.int (nI p)), some (.int (nI 1))]) (st' := [.int (nI p), .ref 1]) (w1 := (KC, I, J, GC)) rfl ?_
      refine mjT_callE (as := [.ref 1, .int (nI p)]) (rest := []) (r1 := some (.int (nI (S.o.str p)))) rfl rfl rfl rfl rfl ⟨rfl, rfl⟩ (c_strengthOf hn og_1 hC.o hp) ?_
      refine mjT_ret rfl rfl rfl ?_
      exact ⟨rfl, _, _, rfl, hC⟩
    · refine mjT_ifF (by decide) ?_
      refine mjT_ifF (by decide) ?_
      refine mjT_ifT rfl ?_
      refine mjT_go 3 (pc' := 79) (L' := [some (.ref 0), some (.int (nI p)), some (.int (nI 2))]) (st' := [.int (nI p), .ref 1]) (w1 := (KC, I, J, GC)) rfl ?_
      refine mjT_callE (as := [.ref 1, .int (nI p)]) (rest := []) (r1 := some (.int (nI (rw6 (S.o.own p))))) rfl rfl rfl rfl rfl ⟨rfl, rfl⟩ (c_ownOf hn og_1 hC.o hp) ?_
      refine mjT_callE (as := [.int (nI (rw6 (S.o.own p)))]) (rest := []) (r1 := some (.int (nI (fg (S.o.own p) 6)))) rfl rfl rfl rfl rfl ⟨rfl, rfl⟩ (e_figures (hV.o.own p hp)) ?_
      refine mjT_ret rfl rfl rfl ?_
      exact ⟨rfl, _, _, rfl, hC⟩
    · refine mjT_ifF (by decide) ?_
      refine mjT_ifF (by decide) ?_
      refine mjT_ifF (by decide) ?_
      refine mjT_ifT rfl ?_
      refine mjT_go 3 (pc' := 91) (L' := [some (.ref 0), some (.int (nI p)), some (.int (nI 3))]) (st' := [.int (nI p), .ref 1]) (w1 := (KC, I, J, GC)) rfl ?_
      refine mjT_callE (as := [.ref 1, .int (nI p)]) (rest := []) (r1 := some (.int (nI (S.o.chair p)))) rfl rfl rfl rfl rfl ⟨rfl, rfl⟩ (c_chairOf hV.o og_1 hC.o hp) ?_
      refine mjT_ret rfl rfl rfl ?_
      exact ⟨rfl, _, _, rfl, hC⟩
    · refine mjT_ifF (by decide) ?_
      refine mjT_ifF (by decide) ?_
      refine mjT_ifF (by decide) ?_
      refine mjT_ifF (by decide) ?_
      refine mjT_ifT rfl ?_
      refine mjT_go 3 (pc' := 100) (L' := [some (.ref 0), some (.int (nI p)), some (.int (nI 4))]) (st' := [.int (nI p), .ref 1]) (w1 := (KC, I, J, GC)) rfl ?_
      refine mjT_callE (as := [.ref 1, .int (nI p)]) (rest := []) (r1 := some (.int (nI (rw6 (S.o.wr p))))) rfl rfl rfl rfl rfl ⟨rfl, rfl⟩ (c_writtenBy hn og_1 hC.o hp trivial) ?_
      refine mjT_callE (as := [.int (nI (rw6 (S.o.wr p)))]) (rest := []) (r1 := some (.int (nI (fg (S.o.wr p) 6)))) rfl rfl rfl rfl rfl ⟨rfl, rfl⟩ (e_figures (hV.o.wr p hp)) ?_
      refine mjT_ret rfl rfl rfl ?_
      exact ⟨rfl, _, _, rfl, hC⟩
    · refine mjT_ifF (by decide) ?_
      refine mjT_ifF (by decide) ?_
      refine mjT_ifF (by decide) ?_
      refine mjT_ifF (by decide) ?_
      refine mjT_ifF (by decide) ?_
      refine mjT_ifT rfl ?_
      refine mjT_go 4 (pc' := 115) (L' := [some (.ref 0), some (.int (nI p)), some (.int (nI 5))]) (st' := [.int (nI p), .ref 2]) (w1 := (KC, I, J, GC)) rfl ?_
      refine mjT_callE (as := [.ref 2, .int (nI p)]) (rest := []) (r1 := some (.int (nI (tillsN S.o p 6)))) rfl rfl rfl rfl rfl ⟨rfl, rfl⟩ (c_takenBy hV.o (ha_of og_1) (ho_of hC.o) hp trivial) ?_
      refine mjT_ret rfl rfl rfl ?_
      exact ⟨rfl, _, _, rfl, hC⟩
    · refine mjT_ifF (by decide) ?_
      refine mjT_ifF (by decide) ?_
      refine mjT_ifF (by decide) ?_
      refine mjT_ifF (by decide) ?_
      refine mjT_ifF (by decide) ?_
      refine mjT_ifF (by decide) ?_
      refine mjT_ifT rfl ?_
      refine mjT_go 3 (pc' := 124) (L' := [some (.ref 0), some (.int (nI p)), some (.int (nI 6))]) (st' := [.int (nI p), .ref 1]) (w1 := (KC, I, J, GC)) rfl ?_
      refine mjT_callE (as := [.ref 1, .int (nI p)]) (rest := []) (r1 := some (.int (nI (lastsN S.o p)))) rfl rfl rfl rfl rfl ⟨rfl, rfl⟩ (c_lastsFrom hV.o og_1 hC.o hp) ?_
      refine mjT_ret rfl rfl rfl ?_
      exact ⟨rfl, _, _, rfl, hC⟩
  · rw [if_neg (show ¬ (iP (nI p) S.o.n = 1 ∧ iR y 0 6 = 1) from fun q => h2 q.2)]
    refine mjT_ifF (iR_no (b := 6) (by omega) (by omega) (by omega)) ?_
    refine mjT_ifF (iR_no (b := 6) (by omega) (by omega) (by omega)) ?_
    refine mjT_ifF (iR_no (b := 6) (by omega) (by omega) (by omega)) ?_
    refine mjT_ifF (iR_no (b := 6) (by omega) (by omega) (by omega)) ?_
    refine mjT_ifF (iR_no (b := 6) (by omega) (by omega) (by omega)) ?_
    refine mjT_ifF (iR_no (b := 6) (by omega) (by omega) (by omega)) ?_
    refine mjT_ifF (iR_no (b := 6) (by omega) (by omega) (by omega)) ?_
    refine mjT_go 1 (pc' := 129) (L' := [some (.ref 0), some (.int (nI p)), some (.int y)]) (st' := [.int (-1)]) (w1 := (KC, I, J, GC)) rfl ?_
    refine mjT_ret rfl rfl rfl ?_
    exact ⟨rfl, _, _, rfl, hC⟩
theorem mm_of (hV : VS S) (hM : MW I J S) {x y : Int32} : mj_E 144 [.ref 0, .int x, .int y] (KM, I, J, GM) (fun w' r => r = some (.int (aOf S x y)) ∧ ∃ I' J', w' = (KM, I', J', GM) ∧ MW I' J' S) := by
  have hn := hV.o.n
  have hp01 := ip01 x S.o.n
  have hr01 := ir01 y 0 6
  unfold aOf
  refine mjT_go 2 (pc' := 2) (L' := [some (.ref 0), some (.int x), some (.int y), none]) (st' := [.int x, .ref 0]) (w1 := (KM, I, J, GM)) rfl ?_
  refine mjT_callE (as := [.ref 0, .int x]) (rest := []) (r1 := some (.int (nI (iP x S.o.n)))) rfl rfl rfl rfl rfl ⟨rfl, rfl⟩ (m_isPerson hV.o hM.o) ?_
  refine mjT_go 1 (pc' := if ¬ nI (iP x S.o.n) = 0 then 10 else 8) (L' := [some (.ref 0), some (.int x), some (.int y), none]) (st' := []) (w1 := (KM, I, J, GM)) rfl ?_
  refine mjT_if_ne (u := iP x S.o.n) (v := 0) rfl nI_0.symm (by omega) (by omega) (fun h1 => ?_) (fun h1 => ?_)
  rotate_left
  · rw [if_neg (by omega)]
    refine mjT_go 1 (pc' := 9) (L' := [some (.ref 0), some (.int x), some (.int y), none]) (st' := [.int (-1)]) (w1 := (KM, I, J, GM)) rfl ?_
    refine mjT_ret rfl rfl rfl ?_
    exact ⟨rfl, _, _, rfl, hM⟩
  obtain ⟨p, hp, rfl⟩ := iP_1 (x := x) (n := S.o.n) (by omega) (by omega)
  refine mjT_go 6 (pc' := (if y = nI 0 then 60 else (if y = nI 1 then 69 else (if y = nI 2 then 78 else (if y = nI 3 then 86 else (if y = nI 4 then 95 else (if y = nI 5 then 104 else (if y = nI 6 then 110 else 117)))))))) (L' := [some (.ref 0), some (.int (nI p)), some (.int y), some (.int ((nI 21) * (nI p)))]) (st' := []) (w1 := (KM, I, J, GM)) rfl ?_
  by_cases h2 : iR y 0 6 = 1
  · rw [if_pos (show iP (nI p) S.o.n = 1 ∧ iR y 0 6 = 1 from ⟨by omega, h2⟩)]
    obtain ⟨k, _, hk, rfl⟩ := iR_1 h2 (by omega) (by omega)
    rw [nn_N (by omega), nn_N (by omega)]
    rcases lt7 hk with rfl | rfl | rfl | rfl | rfl | rfl | rfl
    · refine mjT_ifT rfl ?_
      refine mjT_go 5 (pc' := 67) (L' := [some (.ref 0), some (.int (nI p)), some (.int (nI 0)), some (.int ((nI 21) * (nI p)))]) (st' := [.int (((nI 21) * (nI p)) + (nI 0)), .ref 1]) (w1 := (KM, I, J, GM)) rfl ?_
      refine mjT_ial (v := nI (S.o.kind p)) ((21 * p) + 0) 1840 rfl (pc' := 68) rfl rfl (by simp only [nI_add, pk_mul]) (by omega) (by omega) (mo_at (hM.o.kind p (show p < S.o.n by omega)) rfl (by omega)) ?_
      refine mjT_ret rfl rfl rfl ?_
      exact ⟨rfl, _, _, rfl, hM⟩
    · refine mjT_ifF (by decide) ?_
      refine mjT_ifT rfl ?_
      refine mjT_go 5 (pc' := 76) (L' := [some (.ref 0), some (.int (nI p)), some (.int (nI 1)), some (.int ((nI 21) * (nI p)))]) (st' := [.int (((nI 21) * (nI p)) + (nI 1)), .ref 1]) (w1 := (KM, I, J, GM)) rfl ?_
      refine mjT_ial (v := nI (S.o.str p)) ((21 * p) + 1) 1840 rfl (pc' := 77) rfl rfl (by simp only [nI_add, pk_mul]) (by omega) (by omega) (mo_at (hM.o.str p (show p < S.o.n by omega)) rfl (by omega)) ?_
      refine mjT_ret rfl rfl rfl ?_
      exact ⟨rfl, _, _, rfl, hM⟩
    · refine mjT_ifF (by decide) ?_
      refine mjT_ifF (by decide) ?_
      refine mjT_ifT rfl ?_
      refine mjT_go 3 (pc' := 81) (L' := [some (.ref 0), some (.int (nI p)), some (.int (nI 2)), some (.int ((nI 21) * (nI p)))]) (st' := [.int (nI 3), .int ((nI 21) * (nI p)), .ref 0]) (w1 := (KM, I, J, GM)) rfl ?_
      refine mjT_go 1 (pc' := 82) (L' := [some (.ref 0), some (.int (nI p)), some (.int (nI 2)), some (.int ((nI 21) * (nI p)))]) (st' := [.int (((nI 21) * (nI p)) + (nI 3)), .ref 0]) (w1 := (KM, I, J, GM)) rfl ?_
      simp only [nI_add, pk_mul]
      refine mjT_callE (as := [.ref 0, .int (nI (21 * p + 3))]) (rest := []) (r1 := some (.int (nI (fg (S.o.own p) 6)))) rfl rfl rfl rfl rfl ⟨rfl, rfl⟩ (m_written (by omega) (fun k hk => mo_at (hM.o.own p hp k hk) rfl (by omega))) ?_
      refine mjT_ret rfl rfl rfl ?_
      exact ⟨rfl, _, _, rfl, hM⟩
    · refine mjT_ifF (by decide) ?_
      refine mjT_ifF (by decide) ?_
      refine mjT_ifF (by decide) ?_
      refine mjT_ifT rfl ?_
      refine mjT_go 5 (pc' := 93) (L' := [some (.ref 0), some (.int (nI p)), some (.int (nI 3)), some (.int ((nI 21) * (nI p)))]) (st' := [.int (((nI 21) * (nI p)) + (nI 2)), .ref 1]) (w1 := (KM, I, J, GM)) rfl ?_
      refine mjT_ial (v := nI (S.o.chair p)) ((21 * p) + 2) 1840 rfl (pc' := 94) rfl rfl (by simp only [nI_add, pk_mul]) (by omega) (by omega) (mo_at (hM.o.chair p (show p < S.o.n by omega)) rfl (by omega)) ?_
      refine mjT_ret rfl rfl rfl ?_
      exact ⟨rfl, _, _, rfl, hM⟩
    · refine mjT_ifF (by decide) ?_
      refine mjT_ifF (by decide) ?_
      refine mjT_ifF (by decide) ?_
      refine mjT_ifF (by decide) ?_
      refine mjT_ifT rfl ?_
      refine mjT_go 3 (pc' := 99) (L' := [some (.ref 0), some (.int (nI p)), some (.int (nI 4)), some (.int ((nI 21) * (nI p)))]) (st' := [.int (nI 9), .int ((nI 21) * (nI p)), .ref 0]) (w1 := (KM, I, J, GM)) rfl ?_
      refine mjT_go 1 (pc' := 100) (L' := [some (.ref 0), some (.int (nI p)), some (.int (nI 4)), some (.int ((nI 21) * (nI p)))]) (st' := [.int (((nI 21) * (nI p)) + (nI 9)), .ref 0]) (w1 := (KM, I, J, GM)) rfl ?_
      simp only [nI_add, pk_mul]
      refine mjT_callE (as := [.ref 0, .int (nI (21 * p + 9))]) (rest := []) (r1 := some (.int (nI (fg (S.o.wr p) 6)))) rfl rfl rfl rfl rfl ⟨rfl, rfl⟩ (m_written (by omega) (fun k hk => mo_at (hM.o.wr p hp k hk) rfl (by omega))) ?_
      refine mjT_ret rfl rfl rfl ?_
      exact ⟨rfl, _, _, rfl, hM⟩
    · refine mjT_ifF (by decide) ?_
      refine mjT_ifF (by decide) ?_
      refine mjT_ifF (by decide) ?_
      refine mjT_ifF (by decide) ?_
      refine mjT_ifF (by decide) ?_
      refine mjT_ifT rfl ?_
      refine mjT_go 2 (pc' := 106) (L' := [some (.ref 0), some (.int (nI p)), some (.int (nI 5)), some (.int ((nI 21) * (nI p)))]) (st' := [.int (nI p), .ref 0]) (w1 := (KM, I, J, GM)) rfl ?_
      refine mjT_callE (as := [.ref 0, .int (nI p)]) (rest := []) (r1 := some (.int (nI (tillsN S.o p 6)))) rfl rfl rfl rfl rfl ⟨rfl, rfl⟩ (m_tills hV.o hM.o hp) ?_
      refine mjT_ret rfl rfl rfl ?_
      exact ⟨rfl, _, _, rfl, hM⟩
    · refine mjT_ifF (by decide) ?_
      refine mjT_ifF (by decide) ?_
      refine mjT_ifF (by decide) ?_
      refine mjT_ifF (by decide) ?_
      refine mjT_ifF (by decide) ?_
      refine mjT_ifF (by decide) ?_
      refine mjT_ifT rfl ?_
      refine mjT_go 3 (pc' := 113) (L' := [some (.ref 0), some (.int (nI p)), some (.int (nI 6)), some (.int ((nI 21) * (nI p)))]) (st' := [.int (nI p), .int (nI 0), .ref 0]) (w1 := (KM, I, J, GM)) rfl ?_
      refine mjT_callE (as := [.ref 0, .int (nI 0), .int (nI p)]) (rest := []) (r1 := some (.int (nI (lastsN S.o p)))) rfl rfl rfl rfl rfl ⟨rfl, rfl⟩ (m_lastsOf hV.o hM.o (by omega) hp) ?_
      refine mjT_ret rfl rfl rfl ?_
      exact ⟨rfl, _, _, rfl, hM⟩
  · rw [if_neg (show ¬ (iP (nI p) S.o.n = 1 ∧ iR y 0 6 = 1) from fun q => h2 q.2)]
    refine mjT_ifF (iR_no (b := 6) (by omega) (by omega) (by omega)) ?_
    refine mjT_ifF (iR_no (b := 6) (by omega) (by omega) (by omega)) ?_
    refine mjT_ifF (iR_no (b := 6) (by omega) (by omega) (by omega)) ?_
    refine mjT_ifF (iR_no (b := 6) (by omega) (by omega) (by omega)) ?_
    refine mjT_ifF (iR_no (b := 6) (by omega) (by omega) (by omega)) ?_
    refine mjT_ifF (iR_no (b := 6) (by omega) (by omega) (by omega)) ?_
    refine mjT_ifF (iR_no (b := 6) (by omega) (by omega) (by omega)) ?_
    refine mjT_go 1 (pc' := 118) (L' := [some (.ref 0), some (.int (nI p)), some (.int y), some (.int ((nI 21) * (nI p)))]) (st' := [.int (-1)]) (w1 := (KM, I, J, GM)) rfl ?_
    refine mjT_ret rfl rfl rfl ?_
    exact ⟨rfl, _, _, rfl, hM⟩
theorem sim_of {x y : Int32} : SimO 73 144 [.int x, .int y] := fun S _ _ _ _ hV hC hM => ⟨S, aOf S x y, hV, cc_of hV hC, mm_of hV hM⟩
noncomputable def aTill (S : Sta) (x y : Int32) : Int32 := if iP x S.o.n = 1 ∧ iR y 0 5 = 1 then tI (S.o.till (nn x) (nn y)) else -1
theorem cc_till (hV : VS S) (hC : CW I J S) {x y : Int32} : mj_E 74 [.ref 0, .int x, .int y] (KC, I, J, GC) (fun w' r => r = some (.int (aTill S x y)) ∧ ∃ I' J', w' = (KC, I', J', GC) ∧ CW I' J' S) := by
  have hn := hV.o.n
  have hp01 := ip01 x S.o.n
  have hr01 := ir01 y 0 5
  unfold aTill
  refine mjT_go 3 (pc' := 5) (L' := [some (.ref 0), some (.int x), some (.int y)]) (st' := [.int x, .ref 1]) (w1 := (KC, I, J, GC)) rfl ?_
  refine mjT_callE (as := [.ref 1, .int x]) (rest := []) (r1 := some (.int (nI (iP x S.o.n)))) rfl rfl rfl rfl rfl ⟨rfl, rfl⟩ (c_has hV.o og_1 hC.o) ?_
  refine mjT_go 1 (pc' := if nI (iP x S.o.n) = 0 then 18 else 11) (L' := [some (.ref 0), some (.int x), some (.int y)]) (st' := []) (w1 := (KC, I, J, GC)) rfl ?_
  refine mjT_if_eq (u := iP x S.o.n) (v := 0) rfl nI_0.symm (by omega) (by omega) (fun h1 => ?_) (fun h1 => ?_)
  · rw [if_neg (by omega)]
    refine mjT_go 1 (pc' := 19) (L' := [some (.ref 0), some (.int x), some (.int y)]) (st' := [.int (-1)]) (w1 := (KC, I, J, GC)) rfl ?_
    refine mjT_ret rfl rfl rfl ?_
    exact ⟨rfl, _, _, rfl, hC⟩
  refine mjT_go 1 (pc' := 12) (L' := [some (.ref 0), some (.int x), some (.int y)]) (st' := [.int y]) (w1 := (KC, I, J, GC)) rfl ?_
  refine mjT_callE (as := [.int y]) (rest := []) (r1 := some (.int (nI (iR y 0 5)))) rfl rfl rfl rfl rfl ⟨rfl, rfl⟩ c_isPlace ?_
  refine mjT_go 1 (pc' := if ¬ nI (iR y 0 5) = 0 then 20 else 18) (L' := [some (.ref 0), some (.int x), some (.int y)]) (st' := []) (w1 := (KC, I, J, GC)) rfl ?_
  refine mjT_if_ne (u := iR y 0 5) (v := 0) rfl nI_0.symm (by omega) (by omega) (fun h2 => ?_) (fun h2 => ?_)
  rotate_left
  · rw [if_neg (by omega)]
    refine mjT_go 1 (pc' := 19) (L' := [some (.ref 0), some (.int x), some (.int y)]) (st' := [.int (-1)]) (w1 := (KC, I, J, GC)) rfl ?_
    refine mjT_ret rfl rfl rfl ?_
    exact ⟨rfl, _, _, rfl, hC⟩
  rw [if_pos (by omega)]
  obtain ⟨p, hp, rfl⟩ := iP_1 (x := x) (n := S.o.n) (by omega) (by omega)
  obtain ⟨k, _, hk, rfl⟩ := iR_1 (x := y) (a := 0) (b := 5) (by omega) (by omega) (by omega)
  rw [nn_N (by omega), nn_N (by omega)]
  refine mjT_go 5 (pc' := 29) (L' := [some (.ref 0), some (.int (nI p)), some (.int (nI k))]) (st' := [.int (nI k), .int (nI p), .ref 2]) (w1 := (KC, I, J, GC)) rfl ?_
  refine mjT_callE (as := [.ref 2, .int (nI p), .int (nI k)]) (rest := []) (r1 := some (.int (tI (S.o.till p k)))) rfl rfl rfl rfl rfl ⟨rfl, rfl⟩ (c_endOf hV.o (ha_of og_1) (ho_of hC.o) hp trivial (by omega)) ?_
  refine mjT_ret rfl rfl rfl ?_
  exact ⟨rfl, _, _, rfl, hC⟩
theorem mm_till (hV : VS S) (hM : MW I J S) {x y : Int32} : mj_E 145 [.ref 0, .int x, .int y] (KM, I, J, GM) (fun w' r => r = some (.int (aTill S x y)) ∧ ∃ I' J', w' = (KM, I', J', GM) ∧ MW I' J' S) := by
  have hn := hV.o.n
  have hp01 := ip01 x S.o.n
  have hr01 := ir01 y 0 5
  unfold aTill
  refine mjT_go 2 (pc' := 2) (L' := [some (.ref 0), some (.int x), some (.int y)]) (st' := [.int x, .ref 0]) (w1 := (KM, I, J, GM)) rfl ?_
  refine mjT_callE (as := [.ref 0, .int x]) (rest := []) (r1 := some (.int (nI (iP x S.o.n)))) rfl rfl rfl rfl rfl ⟨rfl, rfl⟩ (m_isPerson hV.o hM.o) ?_
  refine mjT_go 1 (pc' := if nI (iP x S.o.n) = 0 then 37 else 8) (L' := [some (.ref 0), some (.int x), some (.int y)]) (st' := []) (w1 := (KM, I, J, GM)) rfl ?_
  refine mjT_if_eq (u := iP x S.o.n) (v := 0) rfl nI_0.symm (by omega) (by omega) (fun h1 => ?_) (fun h1 => ?_)
  · rw [if_neg (by omega)]
    refine mjT_go 1 (pc' := 38) (L' := [some (.ref 0), some (.int x), some (.int y)]) (st' := [.int (-1)]) (w1 := (KM, I, J, GM)) rfl ?_
    refine mjT_ret rfl rfl rfl ?_
    exact ⟨rfl, _, _, rfl, hM⟩
  refine mjT_go 4 (pc' := 14) (L' := [some (.ref 0), some (.int x), some (.int y)]) (st' := [.long (lN 5), .long (lN 0), .long y.toInt64]) (w1 := (KM, I, J, GM)) rfl ?_
  refine mjT_callE (as := [.long y.toInt64, .long (lN 0), .long (lN 5)]) (rest := []) (r1 := some (.int (nI (iR y 0 5)))) rfl rfl rfl rfl rfl ⟨rfl, rfl⟩ (m_inR (by decide) (by decide)) ?_
  refine mjT_go 1 (pc' := if nI (iR y 0 5) = 0 then 37 else 20) (L' := [some (.ref 0), some (.int x), some (.int y)]) (st' := []) (w1 := (KM, I, J, GM)) rfl ?_
  refine mjT_if_eq (u := iR y 0 5) (v := 0) rfl nI_0.symm (by omega) (by omega) (fun h2 => ?_) (fun h2 => ?_)
  · rw [if_neg (by omega)]
    refine mjT_go 1 (pc' := 38) (L' := [some (.ref 0), some (.int x), some (.int y)]) (st' := [.int (-1)]) (w1 := (KM, I, J, GM)) rfl ?_
    refine mjT_ret rfl rfl rfl ?_
    exact ⟨rfl, _, _, rfl, hM⟩
  rw [if_pos (by omega)]
  obtain ⟨p, hp, rfl⟩ := iP_1 (x := x) (n := S.o.n) (by omega) (by omega)
  obtain ⟨k, _, hk, rfl⟩ := iR_1 (x := y) (a := 0) (b := 5) (by omega) (by omega) (by omega)
  rw [nn_N (by omega), nn_N (by omega)]
  refine mjT_go 9 (pc' := 33) (L' := [some (.ref 0), some (.int (nI p)), some (.int (nI k))]) (st' := [.int ((((nI 21) * (nI p)) + (nI 15)) + (nI k)), .ref 1]) (w1 := (KM, I, J, GM)) rfl ?_
  refine mjT_ial (v := tI (S.o.till p k)) (((21 * p) + 15) + k) 1840 rfl (pc' := 34) rfl rfl (by simp only [nI_add, pk_mul]) (by omega) (by omega) (mo_at (hM.o.till p (show p < S.o.n by omega) k (by omega)) rfl (by omega)) ?_
  refine mjT_go 1 (pc' := 38) (L' := [some (.ref 0), some (.int (nI p)), some (.int (nI k))]) (st' := [.int (tI (S.o.till p k))]) (w1 := (KM, I, J, GM)) rfl ?_
  refine mjT_ret rfl rfl rfl ?_
  exact ⟨rfl, _, _, rfl, hM⟩
theorem sim_till {x y : Int32} : SimO 74 145 [.int x, .int y] := fun S _ _ _ _ hV hC hM => ⟨S, aTill S x y, hV, cc_till hV hC, mm_till hV hM⟩
noncomputable def aAt (S : Sta) (x : Int32) : Int32 := if iR x 0 7 = 1 then tI (sitr S.o (nn x)) else -1
theorem cc_at (hV : VS S) (hC : CW I J S) {x : Int32} : mj_E 76 [.ref 0, .int x] (KC, I, J, GC) (fun w' r => r = some (.int (aAt S x)) ∧ ∃ I' J', w' = (KC, I', J', GC) ∧ CW I' J' S) := by
  have hn := hV.o.n
  have hr01 := ir01 x 0 7
  unfold aAt
  refine mjT_go 1 (pc' := 1) (L' := [some (.ref 0), some (.int x), none]) (st' := [.int x]) (w1 := (KC, I, J, GC)) rfl ?_
  refine mjT_callE (as := [.int x]) (rest := []) (r1 := some (.int (nI (iR x 0 7)))) rfl rfl rfl rfl rfl ⟨rfl, rfl⟩ c_isChair ?_
  refine mjT_go 1 (pc' := if ¬ nI (iR x 0 7) = 0 then 9 else 7) (L' := [some (.ref 0), some (.int x), none]) (st' := []) (w1 := (KC, I, J, GC)) rfl ?_
  refine mjT_if_ne (u := iR x 0 7) (v := 0) rfl nI_0.symm (by omega) (by omega) (fun h2 => ?_) (fun h2 => ?_)
  rotate_left
  · rw [if_neg (by omega)]
    refine mjT_go 1 (pc' := 8) (L' := [some (.ref 0), some (.int x), none]) (st' := [.int (-1)]) (w1 := (KC, I, J, GC)) rfl ?_
    refine mjT_ret rfl rfl rfl ?_
    exact ⟨rfl, _, _, rfl, hC⟩
  rw [if_pos (by omega)]
  obtain ⟨c, _, hc, rfl⟩ := iR_1 (x := x) (a := 0) (b := 7) (by omega) (by omega) (by omega)
  rw [nn_N (by omega)]
  have hs := sitr_le S.o c
  refine mjT_go 3 (pc' := 14) (L' := [some (.ref 0), some (.int (nI c)), none]) (st' := [.int (nI c), .ref 1]) (w1 := (KC, I, J, GC)) rfl ?_
  refine mjT_callE (as := [.ref 1, .int (nI c)]) (rest := []) (r1 := some (.int (sI (sitr S.o c)))) rfl rfl rfl rfl rfl ⟨rfl, rfl⟩ (c_sitterOn hV.o og_1 hC.o (by omega)) ?_
  refine mjT_go 4 (pc' := if ¬ sI (sitr S.o c) = (-1) then 28 else 23) (L' := [some (.ref 0), some (.int (nI c)), some (.int (sI (sitr S.o c)))]) (st' := []) (w1 := (KC, I, J, GC)) rfl ?_
  refine mjT_if (fun hz => ?_) (fun hz => ?_)
  · rw [sI_m1 (by omega)] at hz
    obtain ⟨p, hp⟩ : ∃ p, sitr S.o c = p + 1 := ⟨sitr S.o c - 1, by omega⟩
    refine mjT_go 1 (pc' := 29) (L' := [some (.ref 0), some (.int (nI c)), some (.int (sI (sitr S.o c)))]) (st' := [.int (sI (sitr S.o c))]) (w1 := (KC, I, J, GC)) rfl ?_
    refine mjT_ret rfl rfl rfl ?_
    exact ⟨by rw [hp, sI_s, tI_s], _, _, rfl, hC⟩
  · have hz := Decidable.not_not.mp hz
    rw [sI_m1 (by omega)] at hz
    refine mjT_go 2 (pc' := 29) (L' := [some (.ref 0), some (.int (nI c)), some (.int (sI (sitr S.o c)))]) (st' := [.int (-4)]) (w1 := (KC, I, J, GC)) rfl ?_
    refine mjT_ret rfl rfl rfl ?_
    exact ⟨by rw [hz, tI_0], _, _, rfl, hC⟩
theorem mm_at (hV : VS S) (hM : MW I J S) {x : Int32} : mj_E 148 [.ref 0, .int x] (KM, I, J, GM) (fun w' r => r = some (.int (aAt S x)) ∧ ∃ I' J', w' = (KM, I', J', GM) ∧ MW I' J' S) := by
  have hn := hV.o.n
  have hr01 := ir01 x 0 7
  unfold aAt
  refine mjT_go 1 (pc' := 1) (L' := [some (.ref 0), some (.int x)]) (st' := [.int x]) (w1 := (KM, I, J, GM)) rfl ?_
  refine mjT_callE (as := [.int x]) (rest := []) (r1 := some (.int (nI (iR x 0 7)))) rfl rfl rfl rfl rfl ⟨rfl, rfl⟩ m_isChair ?_
  refine mjT_go 1 (pc' := if nI (iR x 0 7) = 0 then 16 else 7) (L' := [some (.ref 0), some (.int x)]) (st' := []) (w1 := (KM, I, J, GM)) rfl ?_
  refine mjT_if_eq (u := iR x 0 7) (v := 0) rfl nI_0.symm (by omega) (by omega) (fun h2 => ?_) (fun h2 => ?_)
  · rw [if_neg (by omega)]
    refine mjT_go 1 (pc' := 17) (L' := [some (.ref 0), some (.int x)]) (st' := [.int (-1)]) (w1 := (KM, I, J, GM)) rfl ?_
    refine mjT_ret rfl rfl rfl ?_
    exact ⟨rfl, _, _, rfl, hM⟩
  rw [if_pos (by omega)]
  obtain ⟨c, _, hc, rfl⟩ := iR_1 (x := x) (a := 0) (b := 7) (by omega) (by omega) (by omega)
  rw [nn_N (by omega)]
  refine mjT_go 3 (pc' := 10) (L' := [some (.ref 0), some (.int (nI c))]) (st' := [.int (nI c), .int (nI 0), .ref 0]) (w1 := (KM, I, J, GM)) rfl ?_
  refine mjT_callE (as := [.ref 0, .int (nI 0), .int (nI c)]) (rest := []) (r1 := some (.int (tI (sitr S.o c)))) rfl rfl rfl rfl rfl ⟨rfl, rfl⟩ (m_sitsOn hV.o hM.o (by omega) (by omega)) ?_
  refine mjT_go 1 (pc' := 17) (L' := [some (.ref 0), some (.int (nI c))]) (st' := [.int (tI (sitr S.o c))]) (w1 := (KM, I, J, GM)) rfl ?_
  refine mjT_ret rfl rfl rfl ?_
  exact ⟨rfl, _, _, rfl, hM⟩
theorem sim_at {x : Int32} : SimO 76 148 [.int x] := fun S _ _ _ _ hV hC hM => ⟨S, aAt S x, hV, cc_at hV hC, mm_at hV hM⟩
end OP4
