/-! calls, one by one -/
def nn (x : Int32) : Nat := x.toNatClampNeg
theorem nn_N {n : Nat} (h : n < 2 ^ 31) : nn (nI n) = n := nI_clamp h
section OP1
variable {I : Nat → Nat → Int32} {J : Nat → Nat → Int64} {S : Sta} {o : Nat} {O : Off} {P : Nat → Prop}
theorem c_writtenBy (hn : O.n ≤ 7) (hG : OfG o) (hO : RO I o O P) {p : Nat} (hp : p < O.n) (hP : P p) : mj_Ev 16 [.ref o, .int (nI p)] (KC, I, J, GC) (KC, I, J, GC) (some (.int (nI (rw6 (O.wr p))))) := by
  refine mj_ev_of ?_
  refine mjT_go 1 (pc' := 1) (L' := [some (.ref o), some (.int (nI p))]) (st' := [.ref o]) (w1 := (KC, I, J, GC)) rfl ?_
  refine mjT_gfr (h' := (o + 1)) rfl (pc' := 4) rfl hG.k0 hG.r1 ?_
  refine mjT_gfr (h' := (o + 2)) rfl (pc' := 7) rfl hG.k1 hG.r2 ?_
  refine mjT_go 1 (pc' := 8) (L' := [some (.ref o), some (.int (nI p))]) (st' := [.int (nI p), .ref (o + 2)]) (w1 := (KC, I, J, GC)) rfl ?_
  refine mjT_ial (v := nI (rw6 (O.wr p))) p 7 rfl (pc' := 9) rfl hG.k2 rfl (by omega) (by omega) (mo_at (hO.wr p (show p < O.n by omega) (by first | trivial | assumption | simp_all)) (by omega) (by omega)) ?_
  refine mjT_ret rfl rfl rfl ?_
  exact ⟨rfl, rfl⟩
theorem c_ownOf (hn : O.n ≤ 7) (hG : OfG o) (hO : RO I o O P) {p : Nat} (hp : p < O.n) : mj_Ev 15 [.ref o, .int (nI p)] (KC, I, J, GC) (KC, I, J, GC) (some (.int (nI (rw6 (O.own p))))) := by
  refine mj_ev_of ?_
  refine mjT_go 1 (pc' := 1) (L' := [some (.ref o), some (.int (nI p))]) (st' := [.ref o]) (w1 := (KC, I, J, GC)) rfl ?_
  refine mjT_gfr (h' := (o + 6)) rfl (pc' := 4) rfl hG.k0 hG.r6 ?_
  refine mjT_go 1 (pc' := 5) (L' := [some (.ref o), some (.int (nI p))]) (st' := [.int (nI p), .ref (o + 6)]) (w1 := (KC, I, J, GC)) rfl ?_
  refine mjT_ial (v := nI (rw6 (O.own p))) p 7 rfl (pc' := 6) rfl hG.k6 rfl (by omega) (by omega) (mo_at (hO.own p (show p < O.n by omega)) (by omega) (by omega)) ?_
  refine mjT_ret rfl rfl rfl ?_
  exact ⟨rfl, rfl⟩
theorem pc_self (O : Off) (p : Nat) : PcN O p p := ⟨0, rfl⟩
theorem go_dgo (hV : VO O) {k : Nat} (hk : O.day + k ≤ 20000) {p : Nat} (hp : p < O.n) : dgo ((goO O k).wr p) := (v_go hV k hk).wr p (by rw [go_n]; exact hp)
def aWrites (S : Sta) (x y : Int32) : Int32 := if iP x S.o.n = 1 ∧ iR y 0 60 = 1 then nI (fg ((goO S.o (nn y)).wr (nn x)) 6) else -1
theorem cc_writes (hV : VS S) (hC : CW I J S) {x y : Int32} : mj_E 88 [.ref 0, .int x, .int y] (KC, I, J, GC) (fun w' r => r = some (.int (aWrites S x y)) ∧ ∃ I' J', w' = (KC, I', J', GC) ∧ CW I' J' S) := by
  have hn := hV.o.n
  have hd := hV.day
  unfold aWrites
  refine mjT_go 3 (pc' := 5) (L' := [some (.ref 0), some (.int x), some (.int y)]) (st' := [.int x, .ref 1]) (w1 := (KC, I, J, GC)) rfl ?_
  refine mjT_callE (as := [.ref 1, .int x]) (rest := []) (r1 := some (.int (nI (iP x S.o.n)))) rfl rfl rfl rfl rfl ⟨rfl, rfl⟩ (c_has hV.o og_1 hC.o) ?_
  refine mjT_go 1 (pc' := if nI (iP x S.o.n) = 0 then 18 else 11) (L' := [some (.ref 0), some (.int x), some (.int y)]) (st' := []) (w1 := (KC, I, J, GC)) rfl ?_
  have hp01 := ip01 x S.o.n
  have hr01 := ir01 y 0 60
  refine mjT_if_eq (u := iP x S.o.n) (v := 0) rfl nI_0.symm (by omega) (by omega) (fun h1 => ?_) (fun h1 => ?_)
  · rw [if_neg (by omega)]
    refine mjT_go 1 (pc' := 19) (L' := [some (.ref 0), some (.int x), some (.int y)]) (st' := [.int (-1)]) (w1 := (KC, I, J, GC)) rfl ?_
    refine mjT_ret rfl rfl rfl ?_
    exact ⟨rfl, _, _, rfl, hC⟩
  · refine mjT_go 1 (pc' := 12) (L' := [some (.ref 0), some (.int x), some (.int y)]) (st' := [.int y]) (w1 := (KC, I, J, GC)) rfl ?_
    refine mjT_callE (as := [.int y]) (rest := []) (r1 := some (.int (nI (iR y 0 60)))) rfl rfl rfl rfl rfl ⟨rfl, rfl⟩ c_isForetold ?_
    refine mjT_go 1 (pc' := if ¬ nI (iR y 0 60) = 0 then 20 else 18) (L' := [some (.ref 0), some (.int x), some (.int y)]) (st' := []) (w1 := (KC, I, J, GC)) rfl ?_
    refine mjT_if_ne (u := iR y 0 60) (v := 0) rfl nI_0.symm (by omega) (by omega) (fun h2 => ?_) (fun h2 => ?_)
    · rw [if_pos (by omega)]
      obtain ⟨p, hp, rfl⟩ := iP_1 (x := x) (n := S.o.n) (by omega) (by omega)
      obtain ⟨n, _, hn60, rfl⟩ := iR_1 (x := y) (a := 0) (b := 60) (by omega) (by omega) (by omega)
      rw [nn_N (by omega), nn_N (by omega)]
      refine mjT_go 3 (pc' := 23) (L' := [some (.ref 0), some (.int (nI p)), some (.int (nI n))]) (st' := [.int (nI n), .int (nI p), .ref 0]) (w1 := (KC, I, J, GC)) rfl ?_
      refine mjT_call (as := [.ref 0, .int (nI p), .int (nI n)]) (rest := []) rfl rfl rfl rfl rfl ⟨rfl, rfl⟩ (c_foretellOne hV.o hC.o (by omega) hp) ?_
      rintro _ _ ⟨rfl, I2, rfl, hO2, hf2⟩
      refine mjT_go 3 (pc' := 31) (L' := [some (.ref 0), some (.int (nI p)), some (.int (nI n))]) (st' := [.int (nI p), .ref 75]) (w1 := (KC, I2, J, GC)) rfl ?_
      refine mjT_callE (as := [.ref 75, .int (nI p)]) (rest := []) (r1 := some (.int (nI (rw6 ((goO S.o n).wr p))))) rfl rfl rfl rfl rfl ⟨rfl, rfl⟩ (c_writtenBy (by rw [go_n]; exact hn) og_75 hO2 (by rw [go_n]; exact hp) (pc_self _ _)) ?_
      refine mjT_callE (as := [.int (nI (rw6 ((goO S.o n).wr p)))]) (rest := []) (r1 := some (.int (nI (fg ((goO S.o n).wr p) 6)))) rfl rfl rfl rfl rfl ⟨rfl, rfl⟩ (e_figures (go_dgo hV.o (by omega) hp)) ?_
      refine mjT_ret rfl rfl rfl ?_
      exact ⟨rfl, _, _, rfl, cw_fx hC hV hf2⟩
    · rw [if_neg (by omega)]
      refine mjT_go 1 (pc' := 19) (L' := [some (.ref 0), some (.int x), some (.int y)]) (st' := [.int (-1)]) (w1 := (KC, I, J, GC)) rfl ?_
      refine mjT_ret rfl rfl rfl ?_
      exact ⟨rfl, _, _, rfl, hC⟩
theorem mm_writes (hV : VS S) (hM : MW I J S) {x y : Int32} : mj_E 180 [.ref 0, .int x, .int y] (KM, I, J, GM) (fun w' r => r = some (.int (aWrites S x y)) ∧ ∃ I' J', w' = (KM, I', J', GM) ∧ MW I' J' S) := by
  have hn := hV.o.n
  have hd := hV.day
  unfold aWrites
  refine mjT_go 2 (pc' := 2) (L' := [some (.ref 0), some (.int x), some (.int y)]) (st' := [.int x, .ref 0]) (w1 := (KM, I, J, GM)) rfl ?_
  refine mjT_callE (as := [.ref 0, .int x]) (rest := []) (r1 := some (.int (nI (iP x S.o.n)))) rfl rfl rfl rfl rfl ⟨rfl, rfl⟩ (m_isPerson hV.o hM.o) ?_
  refine mjT_go 1 (pc' := if nI (iP x S.o.n) = 0 then 15 else 8) (L' := [some (.ref 0), some (.int x), some (.int y)]) (st' := []) (w1 := (KM, I, J, GM)) rfl ?_
  have hp01 := ip01 x S.o.n
  have hr01 := ir01 y 0 60
  refine mjT_if_eq (u := iP x S.o.n) (v := 0) rfl nI_0.symm (by omega) (by omega) (fun h1 => ?_) (fun h1 => ?_)
  · rw [if_neg (by omega)]
    refine mjT_go 1 (pc' := 16) (L' := [some (.ref 0), some (.int x), some (.int y)]) (st' := [.int (-1)]) (w1 := (KM, I, J, GM)) rfl ?_
    refine mjT_ret rfl rfl rfl ?_
    exact ⟨rfl, _, _, rfl, hM⟩
  · refine mjT_go 1 (pc' := 9) (L' := [some (.ref 0), some (.int x), some (.int y)]) (st' := [.int y]) (w1 := (KM, I, J, GM)) rfl ?_
    refine mjT_callE (as := [.int y]) (rest := []) (r1 := some (.int (nI (iR y 0 60)))) rfl rfl rfl rfl rfl ⟨rfl, rfl⟩ m_isLong ?_
    refine mjT_go 1 (pc' := if ¬ nI (iR y 0 60) = 0 then 17 else 15) (L' := [some (.ref 0), some (.int x), some (.int y)]) (st' := []) (w1 := (KM, I, J, GM)) rfl ?_
    refine mjT_if_ne (u := iR y 0 60) (v := 0) rfl nI_0.symm (by omega) (by omega) (fun h2 => ?_) (fun h2 => ?_)
    · rw [if_pos (by omega)]
      obtain ⟨p, hp, rfl⟩ := iP_1 (x := x) (n := S.o.n) (by omega) (by omega)
      obtain ⟨n, _, hn60, rfl⟩ := iR_1 (x := y) (a := 0) (b := 60) (by omega) (by omega) (by omega)
      rw [nn_N (by omega), nn_N (by omega)]
      refine mjT_go 1 (pc' := 18) (L' := [some (.ref 0), some (.int (nI p)), some (.int (nI n))]) (st' := [.ref 0]) (w1 := (KM, I, J, GM)) rfl ?_
      refine mjT_call (as := [.ref 0]) (rest := []) rfl rfl rfl rfl rfl ⟨rfl, rfl⟩ (m_begin hV.o hM.o) ?_
      rintro _ _ ⟨rfl, I2, rfl, hO2, hf2⟩
      refine mjT_go 2 (pc' := 23) (L' := [some (.ref 0), some (.int (nI p)), some (.int (nI n))]) (st' := [.int (nI n), .ref 0]) (w1 := (KM, I2, J, GM)) rfl ?_
      refine mjT_call (as := [.ref 0, .int (nI n)]) (rest := []) rfl rfl rfl rfl rfl ⟨rfl, rfl⟩ (m_goOn hV.o hO2 (by omega)) ?_
      rintro _ _ ⟨rfl, I3, rfl, hO3, hf3⟩
      refine mjT_go 2 (pc' := 28) (L' := [some (.ref 0), some (.int (nI p)), some (.int (nI n))]) (st' := [.int (nI p), .ref 0]) (w1 := (KM, I3, J, GM)) rfl ?_
      refine mjT_callE (as := [.ref 0, .int (nI p)]) (rest := []) (r1 := some (.int (nI (fg ((goO S.o n).wr p) 6)))) rfl rfl rfl rfl rfl ⟨rfl, rfl⟩ (m_writesNow (by rw [go_n]; exact hn) hO3 (by rw [go_n]; exact hp)) ?_
      refine mjT_ret rfl rfl rfl ?_
      exact ⟨rfl, _, _, rfl, mw_ft hM hV (ft_tr hf2 (ft_of hf3))⟩
    · rw [if_neg (by omega)]
      refine mjT_go 1 (pc' := 16) (L' := [some (.ref 0), some (.int x), some (.int y)]) (st' := [.int (-1)]) (w1 := (KM, I, J, GM)) rfl ?_
      refine mjT_ret rfl rfl rfl ?_
      exact ⟨rfl, _, _, rfl, hM⟩
theorem sim_writes {x y : Int32} : SimO 88 180 [.int x, .int y] := fun S _ _ _ _ hV hC hM => ⟨S, aWrites S x y, hV, cc_writes hV hC, mm_writes hV hM⟩
end OP1
