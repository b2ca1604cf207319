/-! forger -/
section FO
variable {I I' : Nat → Nat → Int32} {J : Nat → Nat → Int64} {S : Sta} {o : Nat} {O : Off} {P : Nat → Prop}
theorem c_forgedOn (hV : VS S) (hC : CW I J S) {c p r n : Nat} (hc : c < 8) (hp : p < S.o.n) (hr : r < S.o.n) (hn60 : n ≤ 60) : mj_E 118 [.ref 0, .int (nI c), .int (nI p), .int (nI r), .int (nI n)] (KC, I, J, GC) (fun w' q => q = some (.int (nI (alk ((goO (exO S.o (S.o.chair p) c) n).wr p) (S.o.own r) 6))) ∧ ∃ I', w' = (KC, I', J, GC) ∧ CW I' J S) := by
  have hn := hV.o.n
  have hd := hV.day
  have hch := hV.o.chair p hp
  obtain ⟨la, hla⟩ := nI_surj (I 75 3)
  obtain ⟨dr, hdr⟩ := nI_surj (I 75 4)
  refine mjT_go 4 (pc' := 8) (L' := [some (.ref 0), some (.int (nI c)), some (.int (nI p)), some (.int (nI r)), some (.int (nI n))]) (st' := [.ref 1, .ref 75]) (w1 := (KC, I, J, GC)) rfl ?_
  refine mjT_call (as := [.ref 75, .ref 1]) (rest := []) rfl rfl rfl rfl rfl ⟨rfl, rfl⟩ (c_become hV.o.n og_75 og_1 (by omega) hC.o hla hdr) ?_
  rintro _ _ ⟨rfl, I2, rfl, hO2, hf2⟩
  refine mjT_go 5 (pc' := 20) (L' := [some (.ref 0), some (.int (nI c)), some (.int (nI p)), some (.int (nI r)), some (.int (nI n))]) (st' := [.int (nI p), .ref 75, .ref 75]) (w1 := (KC, I2, J, GC)) rfl ?_
  refine mjT_callE (as := [.ref 75, .int (nI p)]) (rest := [.ref 75]) (r1 := some (.int (nI (S.o.chair p)))) rfl rfl rfl rfl rfl ⟨rfl, rfl⟩ (c_chairOf hV.o og_75 hO2 hp) ?_
  refine mjT_go 1 (pc' := 24) (L' := [some (.ref 0), some (.int (nI c)), some (.int (nI p)), some (.int (nI r)), some (.int (nI n))]) (st' := [.int (nI c), .int (nI (S.o.chair p)), .ref 75]) (w1 := (KC, I2, J, GC)) rfl ?_
  refine mjT_call (as := [.ref 75, .int (nI (S.o.chair p)), .int (nI c)]) (rest := []) rfl rfl rfl rfl rfl ⟨rfl, rfl⟩ (c_exchange hV.o og_75 hO2 hch hc) ?_
  rintro _ _ ⟨rfl, I3, rfl, hO3, hf3⟩
  have hVe := v_ex hV.o hch hc
  have hpe : p < (exO S.o (S.o.chair p) c).n := hp
  have hde : (exO S.o (S.o.chair p) c).day = S.o.day := rfl
  generalize exO S.o (S.o.chair p) c = E at *
  refine mjT_go 3 (pc' := 32) (L' := [some (.ref 0), some (.int (nI c)), some (.int (nI p)), some (.int (nI r)), some (.int (nI n))]) (st' := [.int (nI p), .ref 75]) (w1 := (KC, I3, J, GC)) rfl ?_
  refine mjT_call (as := [.ref 75, .int (nI p)]) (rest := []) rfl rfl rfl rfl rfl ⟨rfl, rfl⟩ (c_watchOnly hVe og_75 hO3 hpe) ?_
  rintro _ _ ⟨rfl, I4, m, rfl, hf4, hW4, _, _⟩
  have hO4 := ro_P (ro_watch hO3 hf4) (fun q (_ : PcN E p q) => trivial)
  refine mjT_go 3 (pc' := 41) (L' := [some (.ref 0), some (.int (nI c)), some (.int (nI p)), some (.int (nI r)), some (.int (nI n))]) (st' := [.int (nI n), .ref 75]) (w1 := (KC, I4, J, GC)) rfl ?_
  refine mjT_call (as := [.ref 75, .int (nI n)]) (rest := []) rfl rfl rfl rfl rfl ⟨rfl, rfl⟩ (c_passDays hVe og_75 hO4 hW4 (show E.day + n ≤ 20000 by omega)) ?_
  rintro _ _ ⟨rfl, I5, rfl, hO5, hW5, hf5⟩
  have hC5 : CW I5 J S := cw_fx hC hV (fun h hh => by rw [hf5 h (by omega) (by omega) (by omega) (by omega), hf4.1 h (by omega) (by omega) (by omega), hf3 h (by omega), hf2 h (by omega)])
  have hVg := v_go hVe n (by omega)
  have hgn := go_n E n
  refine mjT_go 3 (pc' := 49) (L' := [some (.ref 0), some (.int (nI c)), some (.int (nI p)), some (.int (nI r)), some (.int (nI n))]) (st' := [.int (nI r), .ref 1]) (w1 := (KC, I5, J, GC)) rfl ?_
  refine mjT_callE (as := [.ref 1, .int (nI r)]) (rest := []) (r1 := some (.int (nI (rw6 (S.o.own r))))) rfl rfl rfl rfl rfl ⟨rfl, rfl⟩ (c_ownOf hn og_1 hC5.o hr) ?_
  refine mjT_go 3 (pc' := 57) (L' := [some (.ref 0), some (.int (nI c)), some (.int (nI p)), some (.int (nI r)), some (.int (nI n))]) (st' := [.int (nI p), .ref 75, .int (nI (rw6 (S.o.own r)))]) (w1 := (KC, I5, J, GC)) rfl ?_
  refine mjT_callE (as := [.ref 75, .int (nI p)]) (rest := [.int (nI (rw6 (S.o.own r)))]) (r1 := some (.int (nI (rw6 ((goO E n).wr p))))) rfl rfl rfl rfl rfl ⟨rfl, rfl⟩ (c_writtenBy hVg.n og_75 hO5 (by omega) (pc_self _ _)) ?_
  refine mjT_callE (as := [.int (nI (rw6 (S.o.own r))), .int (nI (rw6 ((goO E n).wr p)))]) (rest := []) (r1 := some (.int (nI (alk ((goO E n).wr p) (S.o.own r) 6)))) rfl rfl rfl rfl rfl ⟨rfl, rfl⟩ (alk_comm _ _ _ ▸ e_alike (hV.o.own r hr) (hVg.wr p (by omega))) ?_
  refine mjT_ret rfl rfl rfl ?_
  exact ⟨rfl, _, rfl, hC5⟩
def frgN (O : Off) (p r n c : Nat) : Nat := if sitr O c = 0 ∨ sitr O c = p + 1 then alk ((goO (exO O (O.chair p) c) n).wr p) (O.own r) 6 + 1 else 0
theorem frg_le (O : Off) (p r n : Nat) : ∀ c, frgN O p r n c ≤ 7 := fun c => by
  unfold frgN
  have := alk_le ((goO (exO O (O.chair p) c) n).wr p) (O.own r) 6
  split <;> omega
noncomputable def aForger (S : Sta) (x y z u : Int32) : Int32 := if iP x S.o.n = 1 ∧ iP y S.o.n = 1 ∧ ¬ x = y ∧ iR z 0 60 = 1 ∧ iR u 0 1 = 1 then (if nn u = 0 then tI (gtB (frgN S.o (nn x) (nn y) (nn z)) 8).1 else tI (gtB (frgN S.o (nn x) (nn y) (nn z)) 8).2) else -1
theorem cc_forger (hV : VS S) (hC : CW I J S) {x y z u : Int32} : mj_E 96 [.ref 0, .int x, .int y, .int z, .int u] (KC, I, J, GC) (fun w' r => r = some (.int (aForger S x y z u)) ∧ ∃ I' J', w' = (KC, I', J', GC) ∧ CW I' J' S) := by
  have hn := hV.o.n
  have hd := hV.day
  have hr1 := ip01 x S.o.n
  have hr2 := ip01 y S.o.n
  have hr3 := ir01 z 0 60
  have hr4 := ir01 u 0 1
  unfold aForger
  refine mjT_go 3 (pc' := 5) (L' := [some (.ref 0), some (.int x), some (.int y), some (.int z), some (.int u), none, none, none, none, none]) (st' := [.int x, .ref 1]) (w1 := (KC, I, J, GC)) rfl ?_
  refine mjT_callE (as := [.ref 1, .int x]) (rest := []) (r1 := some (.int (nI (iP x S.o.n)))) rfl rfl rfl rfl rfl ⟨rfl, rfl⟩ (c_has hV.o og_1 hC.o) ?_
  refine mjT_go 1 (pc' := if nI (iP x S.o.n) = 0 then 44 else 11) (L' := [some (.ref 0), some (.int x), some (.int y), some (.int z), some (.int u), none, none, none, none, none]) (st' := []) (w1 := (KC, I, J, GC)) rfl ?_
  refine mjT_if_eq (u := iP x S.o.n) (v := 0) rfl nI_0.symm (by omega) (by omega) (fun h1 => ?_) (fun h1 => ?_)
  · rw [if_neg (by omega)]
    refine mjT_go 1 (pc' := 45) (L' := [some (.ref 0), some (.int x), some (.int y), some (.int z), some (.int u), none, none, none, none, none]) (st' := [.int (-1)]) (w1 := (KC, I, J, GC)) rfl ?_
    refine mjT_ret rfl rfl rfl ?_
    exact ⟨rfl, _, _, rfl, hC⟩
  refine mjT_go 3 (pc' := 16) (L' := [some (.ref 0), some (.int x), some (.int y), some (.int z), some (.int u), none, none, none, none, none]) (st' := [.int y, .ref 1]) (w1 := (KC, I, J, GC)) rfl ?_
  refine mjT_callE (as := [.ref 1, .int y]) (rest := []) (r1 := some (.int (nI (iP y S.o.n)))) rfl rfl rfl rfl rfl ⟨rfl, rfl⟩ (c_has hV.o og_1 hC.o) ?_
  refine mjT_go 1 (pc' := if nI (iP y S.o.n) = 0 then 44 else 22) (L' := [some (.ref 0), some (.int x), some (.int y), some (.int z), some (.int u), none, none, none, none, none]) (st' := []) (w1 := (KC, I, J, GC)) rfl ?_
  refine mjT_if_eq (u := iP y S.o.n) (v := 0) rfl nI_0.symm (by omega) (by omega) (fun h2 => ?_) (fun h2 => ?_)
  · rw [if_neg (by omega)]
    refine mjT_go 1 (pc' := 45) (L' := [some (.ref 0), some (.int x), some (.int y), some (.int z), some (.int u), none, none, none, none, none]) (st' := [.int (-1)]) (w1 := (KC, I, J, GC)) rfl ?_
    refine mjT_ret rfl rfl rfl ?_
    exact ⟨rfl, _, _, rfl, hC⟩
  refine mjT_go 3 (pc' := if x = y then 44 else 27) (L' := [some (.ref 0), some (.int x), some (.int y), some (.int z), some (.int u), none, none, none, none, none]) (st' := []) (w1 := (KC, I, J, GC)) rfl ?_
  refine mjT_if (fun h3 => ?_) (fun h3 => ?_)
  · rw [if_neg (fun q => q.2.2.1 h3)]
    refine mjT_go 1 (pc' := 45) (L' := [some (.ref 0), some (.int x), some (.int y), some (.int z), some (.int u), none, none, none, none, none]) (st' := [.int (-1)]) (w1 := (KC, I, J, GC)) rfl ?_
    refine mjT_ret rfl rfl rfl ?_
    exact ⟨rfl, _, _, rfl, hC⟩
  refine mjT_go 1 (pc' := 28) (L' := [some (.ref 0), some (.int x), some (.int y), some (.int z), some (.int u), none, none, none, none, none]) (st' := [.int z]) (w1 := (KC, I, J, GC)) rfl ?_
  refine mjT_callE (as := [.int z]) (rest := []) (r1 := some (.int (nI (iR z 0 60)))) rfl rfl rfl rfl rfl ⟨rfl, rfl⟩ c_isForetold ?_
  refine mjT_go 1 (pc' := if nI (iR z 0 60) = 0 then 44 else 34) (L' := [some (.ref 0), some (.int x), some (.int y), some (.int z), some (.int u), none, none, none, none, none]) (st' := []) (w1 := (KC, I, J, GC)) rfl ?_
  refine mjT_if_eq (u := iR z 0 60) (v := 0) rfl nI_0.symm (by omega) (by omega) (fun h4 => ?_) (fun h4 => ?_)
  · rw [if_neg (by omega)]
    refine mjT_go 1 (pc' := 45) (L' := [some (.ref 0), some (.int x), some (.int y), some (.int z), some (.int u), none, none, none, none, none]) (st' := [.int (-1)]) (w1 := (KC, I, J, GC)) rfl ?_
    refine mjT_ret rfl rfl rfl ?_
    exact ⟨rfl, _, _, rfl, hC⟩
  refine mjT_go 3 (pc' := 38) (L' := [some (.ref 0), some (.int x), some (.int y), some (.int z), some (.int u), none, none, none, none, none]) (st' := [.int (nI 1), .int (nI 0), .int u]) (w1 := (KC, I, J, GC)) rfl ?_
  refine mjT_callE (as := [.int u, .int (nI 0), .int (nI 1)]) (rest := []) (r1 := some (.int (nI (iR u 0 1)))) rfl rfl rfl rfl rfl ⟨rfl, rfl⟩ c_within ?_
  refine mjT_go 1 (pc' := if ¬ nI (iR u 0 1) = 0 then 46 else 44) (L' := [some (.ref 0), some (.int x), some (.int y), some (.int z), some (.int u), none, none, none, none, none]) (st' := []) (w1 := (KC, I, J, GC)) rfl ?_
  refine mjT_if_ne (u := iR u 0 1) (v := 0) rfl nI_0.symm (by omega) (by omega) (fun h5 => ?_) (fun h5 => ?_)
  rotate_left
  · rw [if_neg (by omega)]
    refine mjT_go 1 (pc' := 45) (L' := [some (.ref 0), some (.int x), some (.int y), some (.int z), some (.int u), none, none, none, none, none]) (st' := [.int (-1)]) (w1 := (KC, I, J, GC)) rfl ?_
    refine mjT_ret rfl rfl rfl ?_
    exact ⟨rfl, _, _, rfl, hC⟩
  rw [if_pos (show iP x S.o.n = 1 ∧ iP y S.o.n = 1 ∧ ¬ x = y ∧ iR z 0 60 = 1 ∧ iR u 0 1 = 1 from ⟨by omega, by omega, h3, by omega, by omega⟩)]
  obtain ⟨p, hp, rfl⟩ := iP_1 (x := x) (n := S.o.n) (by omega) (by omega)
  obtain ⟨r, hr, rfl⟩ := iP_1 (x := y) (n := S.o.n) (by omega) (by omega)
  obtain ⟨n, _, hn60, rfl⟩ := iR_1 (x := z) (a := 0) (b := 60) (by omega) (by omega) (by omega)
  obtain ⟨wh, _, hwh, rfl⟩ := iR_1 (x := u) (a := 0) (b := 1) (by omega) (by omega) (by omega)
  rw [nn_N (by omega), nn_N (by omega), nn_N (by omega), nn_N (by omega)]
  obtain ⟨g, hg⟩ : ∃ g, frgN S.o p r n = g := ⟨_, rfl⟩
  have hgl : ∀ c, g c ≤ 7 := fun c => by rw [← hg]; exact frg_le _ _ _ _ c
  rw [hg]
  refine mjT_go 6 (pc' := 57) (L' := [some (.ref 0), some (.int (nI p)), some (.int (nI r)), some (.int (nI n)), some (.int (nI wh)), some (.int (-4)), some (.int (-4)), some (.int (nI 0)), none, none]) (st' := []) (w1 := (KC, I, J, GC)) rfl ?_
  refine mj_loop (fun k L w => ∃ (d e : Option Value) (I' : Nat → Nat → Int32), L = [some (.ref 0), some (.int (nI p)), some (.int (nI r)), some (.int (nI n)), some (.int (nI wh)), some (.int (tI (gtB g k).1)), some (.int (tI (gtB g k).2)), some (.int (nI k)), d, e] ∧ w = (KC, I', J, GC) ∧ CW I' J S) 8 (k0 := 0) (Nat.zero_le _) ?_ ?_ ?_
  · exact ⟨_, _, _, rfl, rfl, hC⟩
  · rintro c _ _ hc8 ⟨d, e, I2, rfl, rfl, hC2⟩ hc
    have hgt := gtB_le hgl c
    have hsl := sitr_le S.o c
    have hgc : g c = if sitr S.o c = 0 ∨ sitr S.o c = p + 1 then alk ((goO (exO S.o (S.o.chair p) c) n).wr p) (S.o.own r) 6 + 1 else 0 := by rw [← hg]; rfl
    have hal := alk_le ((goO (exO S.o (S.o.chair p) c) n).wr p) (S.o.own r) 6
    have forged := c_forgedOn hV hC2 (J := J) hc8 hp hr hn60
    generalize alk ((goO (exO S.o (S.o.chair p) c) n).wr p) (S.o.own r) 6 = v at *
    have cut : sitr S.o c = 0 ∨ sitr S.o c = p + 1 → ∀ d e : Option Value, mj_To 96 90 [some (.ref 0), some (.int (nI p)), some (.int (nI r)), some (.int (nI n)), some (.int (nI wh)), some (.int (tI (gtB g c).1)), some (.int (tI (gtB g c).2)), some (.int (nI c)), d, e] [] (KC, I2, J, GC) _ := fun hs d e => by
      rw [if_pos hs] at hgc
      refine mjT_go 5 (pc' := 96) (L' := [some (.ref 0), some (.int (nI p)), some (.int (nI r)), some (.int (nI n)), some (.int (nI wh)), some (.int (tI (gtB g c).1)), some (.int (tI (gtB g c).2)), some (.int (nI c)), d, e]) (st' := [.int (nI n), .int (nI r), .int (nI p), .int (nI c), .ref 0]) (w1 := (KC, I2, J, GC)) rfl ?_
      refine mjT_call (as := [.ref 0, .int (nI c), .int (nI p), .int (nI r), .int (nI n)]) (rest := []) rfl rfl rfl rfl rfl ⟨rfl, rfl⟩ (forged) ?_
      rintro _ _ ⟨rfl, I3, rfl, hC3⟩
      refine mjT_go 4 (pc' := if nI v ≤ tI (gtB g c).2 then 116 else 108) (L' := [some (.ref 0), some (.int (nI p)), some (.int (nI r)), some (.int (nI n)), some (.int (nI wh)), some (.int (tI (gtB g c).1)), some (.int (tI (gtB g c).2)), some (.int (nI c)), (mj_nl d), some (.int (nI v))]) (st' := []) (w1 := (KC, I3, J, GC)) rfl ?_
      refine mjT_if (fun h6 => ?_) (fun h6 => ?_)
      · rw [tI_le (by omega) (by omega)] at h6
        have e1 : gtB g (c + 1) = gtB g c := gtB_f (by omega)
        refine mjT_go 2 (pc' := 57) (L' := [some (.ref 0), some (.int (nI p)), some (.int (nI r)), some (.int (nI n)), some (.int (nI wh)), some (.int (tI (gtB g c).1)), some (.int (tI (gtB g c).2)), some (.int ((nI c) + (nI 1))), (mj_nl d), some (.int (nI v))]) (st' := []) (w1 := (KC, I3, J, GC)) rfl ?_
        rw [nI_add, ← e1]
        exact hc _ _ ⟨_, _, _, rfl, rfl, hC3⟩
      · rw [tI_le (by omega) (by omega), Decidable.not_not] at h6
        have e1 : gtB g (c + 1) = (c + 1, g c) := gtB_t (by omega)
        refine mjT_go 6 (pc' := 57) (L' := [some (.ref 0), some (.int (nI p)), some (.int (nI r)), some (.int (nI n)), some (.int (nI wh)), some (.int (nI c)), some (.int (nI v)), some (.int ((nI c) + (nI 1))), (mj_nl d), some (.int (nI v))]) (st' := []) (w1 := (KC, I3, J, GC)) rfl ?_
        rw [nI_add]
        exact hc _ _ ⟨_, _, _, by rw [e1, hgc]; rfl, rfl, hC3⟩
    refine mjT_go 3 (pc' := if nI 8 ≤ nI c then 122 else 64) (L' := [some (.ref 0), some (.int (nI p)), some (.int (nI r)), some (.int (nI n)), some (.int (nI wh)), some (.int (tI (gtB g c).1)), some (.int (tI (gtB g c).2)), some (.int (nI c)), d, e]) (st' := []) (w1 := (KC, I2, J, GC)) rfl ?_
    refine mjT_ifF (nI_ge (by omega) (by omega)) ?_
    refine mjT_go 3 (pc' := 70) (L' := [some (.ref 0), some (.int (nI p)), some (.int (nI r)), some (.int (nI n)), some (.int (nI wh)), some (.int (tI (gtB g c).1)), some (.int (tI (gtB g c).2)), some (.int (nI c)), d, e]) (st' := [.int (nI c), .ref 1]) (w1 := (KC, I2, J, GC)) rfl ?_
    refine mjT_callE (as := [.ref 1, .int (nI c)]) (rest := []) (r1 := some (.int (sI (sitr S.o c)))) rfl rfl rfl rfl rfl ⟨rfl, rfl⟩ (c_sitterOn hV.o og_1 hC2.o (by omega)) ?_
    refine mjT_go 4 (pc' := if sI (sitr S.o c) = (-1) then 90 else 81) (L' := [some (.ref 0), some (.int (nI p)), some (.int (nI r)), some (.int (nI n)), some (.int (nI wh)), some (.int (tI (gtB g c).1)), some (.int (tI (gtB g c).2)), some (.int (nI c)), some (.int (sI (sitr S.o c))), e]) (st' := []) (w1 := (KC, I2, J, GC)) rfl ?_
    refine mjT_if (fun h6 => ?_) (fun h6 => ?_)
    · rw [sI_m1 (by omega)] at h6
      exact cut (Or.inl h6) _ _
    rw [sI_m1 (by omega)] at h6
    refine mjT_go 3 (pc' := if sI (sitr S.o c) = nI p then 90 else 87) (L' := [some (.ref 0), some (.int (nI p)), some (.int (nI r)), some (.int (nI n)), some (.int (nI wh)), some (.int (tI (gtB g c).1)), some (.int (tI (gtB g c).2)), some (.int (nI c)), some (.int (sI (sitr S.o c))), e]) (st' := []) (w1 := (KC, I2, J, GC)) rfl ?_
    refine mjT_if (fun h7 => ?_) (fun h7 => ?_)
    · rw [sI_eq (by omega) (by omega)] at h7
      exact cut (Or.inr h7) _ _
    rw [sI_eq (by omega) (by omega)] at h7
    rw [if_neg (by omega)] at hgc
    have e1 : gtB g (c + 1) = gtB g c := gtB_f (by omega)
    refine mjT_go 3 (pc' := 57) (L' := [some (.ref 0), some (.int (nI p)), some (.int (nI r)), some (.int (nI n)), some (.int (nI wh)), some (.int (tI (gtB g c).1)), some (.int (tI (gtB g c).2)), some (.int ((nI c) + (nI 1))), some (.int (sI (sitr S.o c))), e]) (st' := []) (w1 := (KC, I2, J, GC)) rfl ?_
    rw [nI_add, ← e1]
    exact hc _ _ ⟨_, _, _, rfl, rfl, hC2⟩
  · rintro _ _ ⟨d, e, I2, rfl, rfl, hC2⟩
    refine mjT_go 3 (pc' := if nI 8 ≤ nI 8 then 122 else 64) (L' := [some (.ref 0), some (.int (nI p)), some (.int (nI r)), some (.int (nI n)), some (.int (nI wh)), some (.int (tI (gtB g 8).1)), some (.int (tI (gtB g 8).2)), some (.int (nI 8)), d, e]) (st' := []) (w1 := (KC, I2, J, GC)) rfl ?_
    refine mjT_ifT (Int32.le_refl _) ?_
    refine mjT_go 2 (pc' := if ¬ nI wh = 0 then 132 else 127) (L' := [some (.ref 0), some (.int (nI p)), some (.int (nI r)), some (.int (nI n)), some (.int (nI wh)), some (.int (tI (gtB g 8).1)), some (.int (tI (gtB g 8).2)), some (.int (nI 8)), d, e]) (st' := []) (w1 := (KC, I2, J, GC)) rfl ?_
    refine mjT_if_ne (u := wh) (v := 0) rfl nI_0.symm (by omega) (by omega) (fun h4 => ?_) (fun h4 => ?_)
    · refine mjT_go 1 (pc' := 134) (L' := [some (.ref 0), some (.int (nI p)), some (.int (nI r)), some (.int (nI n)), some (.int (nI wh)), some (.int (tI (gtB g 8).1)), some (.int (tI (gtB g 8).2)), some (.int (nI 8)), d, e]) (st' := [.int (tI (gtB g 8).2)]) (w1 := (KC, I2, J, GC)) rfl ?_
      refine mjT_ret rfl rfl rfl ?_
      exact ⟨by rw [if_neg h4], _, _, rfl, hC2⟩
    · refine mjT_go 2 (pc' := 134) (L' := [some (.ref 0), some (.int (nI p)), some (.int (nI r)), some (.int (nI n)), some (.int (nI wh)), some (.int (tI (gtB g 8).1)), some (.int (tI (gtB g 8).2)), some (.int (nI 8)), d, e]) (st' := [.int (tI (gtB g 8).1)]) (w1 := (KC, I2, J, GC)) rfl ?_
      refine mjT_ret rfl rfl rfl ?_
      exact ⟨by rw [if_pos h4], _, _, rfl, hC2⟩
theorem mm_forger (hV : VS S) (hM : MW I J S) {x y z u : Int32} : mj_E 193 [.ref 0, .int x, .int y, .int z, .int u] (KM, I, J, GM) (fun w' r => r = some (.int (aForger S x y z u)) ∧ ∃ I' J', w' = (KM, I', J', GM) ∧ MW I' J' S) := by
  have hn := hV.o.n
  have hd := hV.day
  have hr1 := ip01 x S.o.n
  have hr2 := ip01 y S.o.n
  have hr3 := ir01 z 0 60
  have hr4 := ir01 u 0 1
  unfold aForger
  refine mjT_go 2 (pc' := 2) (L' := [some (.ref 0), some (.int x), some (.int y), some (.int z), some (.int u), none, none, none, none, none]) (st' := [.int x, .ref 0]) (w1 := (KM, I, J, GM)) rfl ?_
  refine mjT_callE (as := [.ref 0, .int x]) (rest := []) (r1 := some (.int (nI (iP x S.o.n)))) rfl rfl rfl rfl rfl ⟨rfl, rfl⟩ (m_isPerson hV.o hM.o) ?_
  refine mjT_go 1 (pc' := if nI (iP x S.o.n) = 0 then 39 else 8) (L' := [some (.ref 0), some (.int x), some (.int y), some (.int z), some (.int u), none, none, none, none, none]) (st' := []) (w1 := (KM, I, J, GM)) rfl ?_
  refine mjT_if_eq (u := iP x S.o.n) (v := 0) rfl nI_0.symm (by omega) (by omega) (fun h1 => ?_) (fun h1 => ?_)
  · rw [if_neg (by omega)]
    refine mjT_go 1 (pc' := 40) (L' := [some (.ref 0), some (.int x), some (.int y), some (.int z), some (.int u), none, none, none, none, none]) (st' := [.int (-1)]) (w1 := (KM, I, J, GM)) rfl ?_
    refine mjT_ret rfl rfl rfl ?_
    exact ⟨rfl, _, _, rfl, hM⟩
  refine mjT_go 2 (pc' := 10) (L' := [some (.ref 0), some (.int x), some (.int y), some (.int z), some (.int u), none, none, none, none, none]) (st' := [.int y, .ref 0]) (w1 := (KM, I, J, GM)) rfl ?_
  refine mjT_callE (as := [.ref 0, .int y]) (rest := []) (r1 := some (.int (nI (iP y S.o.n)))) rfl rfl rfl rfl rfl ⟨rfl, rfl⟩ (m_isPerson hV.o hM.o) ?_
  refine mjT_go 1 (pc' := if nI (iP y S.o.n) = 0 then 39 else 16) (L' := [some (.ref 0), some (.int x), some (.int y), some (.int z), some (.int u), none, none, none, none, none]) (st' := []) (w1 := (KM, I, J, GM)) rfl ?_
  refine mjT_if_eq (u := iP y S.o.n) (v := 0) rfl nI_0.symm (by omega) (by omega) (fun h2 => ?_) (fun h2 => ?_)
  · rw [if_neg (by omega)]
    refine mjT_go 1 (pc' := 40) (L' := [some (.ref 0), some (.int x), some (.int y), some (.int z), some (.int u), none, none, none, none, none]) (st' := [.int (-1)]) (w1 := (KM, I, J, GM)) rfl ?_
    refine mjT_ret rfl rfl rfl ?_
    exact ⟨rfl, _, _, rfl, hM⟩
  refine mjT_go 3 (pc' := if x = y then 39 else 21) (L' := [some (.ref 0), some (.int x), some (.int y), some (.int z), some (.int u), none, none, none, none, none]) (st' := []) (w1 := (KM, I, J, GM)) rfl ?_
  refine mjT_if (fun h3 => ?_) (fun h3 => ?_)
  · rw [if_neg (fun q => q.2.2.1 h3)]
    refine mjT_go 1 (pc' := 40) (L' := [some (.ref 0), some (.int x), some (.int y), some (.int z), some (.int u), none, none, none, none, none]) (st' := [.int (-1)]) (w1 := (KM, I, J, GM)) rfl ?_
    refine mjT_ret rfl rfl rfl ?_
    exact ⟨rfl, _, _, rfl, hM⟩
  refine mjT_go 1 (pc' := 22) (L' := [some (.ref 0), some (.int x), some (.int y), some (.int z), some (.int u), none, none, none, none, none]) (st' := [.int z]) (w1 := (KM, I, J, GM)) rfl ?_
  refine mjT_callE (as := [.int z]) (rest := []) (r1 := some (.int (nI (iR z 0 60)))) rfl rfl rfl rfl rfl ⟨rfl, rfl⟩ m_isLong ?_
  refine mjT_go 1 (pc' := if nI (iR z 0 60) = 0 then 39 else 28) (L' := [some (.ref 0), some (.int x), some (.int y), some (.int z), some (.int u), none, none, none, none, none]) (st' := []) (w1 := (KM, I, J, GM)) rfl ?_
  refine mjT_if_eq (u := iR z 0 60) (v := 0) rfl nI_0.symm (by omega) (by omega) (fun h4 => ?_) (fun h4 => ?_)
  · rw [if_neg (by omega)]
    refine mjT_go 1 (pc' := 40) (L' := [some (.ref 0), some (.int x), some (.int y), some (.int z), some (.int u), none, none, none, none, none]) (st' := [.int (-1)]) (w1 := (KM, I, J, GM)) rfl ?_
    refine mjT_ret rfl rfl rfl ?_
    exact ⟨rfl, _, _, rfl, hM⟩
  refine mjT_go 4 (pc' := 33) (L' := [some (.ref 0), some (.int x), some (.int y), some (.int z), some (.int u), none, none, none, none, none]) (st' := [.long (lN 1), .long (lN 0), .long u.toInt64]) (w1 := (KM, I, J, GM)) rfl ?_
  refine mjT_callE (as := [.long u.toInt64, .long (lN 0), .long (lN 1)]) (rest := []) (r1 := some (.int (nI (iR u 0 1)))) rfl rfl rfl rfl rfl ⟨rfl, rfl⟩ (m_inR (by decide) (by decide)) ?_
  refine mjT_go 1 (pc' := if ¬ nI (iR u 0 1) = 0 then 41 else 39) (L' := [some (.ref 0), some (.int x), some (.int y), some (.int z), some (.int u), none, none, none, none, none]) (st' := []) (w1 := (KM, I, J, GM)) rfl ?_
  refine mjT_if_ne (u := iR u 0 1) (v := 0) rfl nI_0.symm (by omega) (by omega) (fun h5 => ?_) (fun h5 => ?_)
  rotate_left
  · rw [if_neg (by omega)]
    refine mjT_go 1 (pc' := 40) (L' := [some (.ref 0), some (.int x), some (.int y), some (.int z), some (.int u), none, none, none, none, none]) (st' := [.int (-1)]) (w1 := (KM, I, J, GM)) rfl ?_
    refine mjT_ret rfl rfl rfl ?_
    exact ⟨rfl, _, _, rfl, hM⟩
  rw [if_pos (show iP x S.o.n = 1 ∧ iP y S.o.n = 1 ∧ ¬ x = y ∧ iR z 0 60 = 1 ∧ iR u 0 1 = 1 from ⟨by omega, by omega, h3, by omega, by omega⟩)]
  obtain ⟨p, hp, rfl⟩ := iP_1 (x := x) (n := S.o.n) (by omega) (by omega)
  obtain ⟨r, hr, rfl⟩ := iP_1 (x := y) (n := S.o.n) (by omega) (by omega)
  obtain ⟨n, _, hn60, rfl⟩ := iR_1 (x := z) (a := 0) (b := 60) (by omega) (by omega) (by omega)
  obtain ⟨wh, _, hwh, rfl⟩ := iR_1 (x := u) (a := 0) (b := 1) (by omega) (by omega) (by omega)
  rw [nn_N (by omega), nn_N (by omega), nn_N (by omega), nn_N (by omega)]
  obtain ⟨g, hg⟩ : ∃ g, frgN S.o p r n = g := ⟨_, rfl⟩
  have hgl : ∀ c, g c ≤ 7 := fun c => by rw [← hg]; exact frg_le _ _ _ _ c
  rw [hg]
  have hch := hV.o.chair p hp
  refine mjT_gen fun Q hQ => ?_
  refine mjT_go 6 (pc' := 52) (L' := [some (.ref 0), some (.int (nI p)), some (.int (nI r)), some (.int (nI n)), some (.int (nI wh)), some (.int (-4)), some (.int (-4)), some (.int (nI 0)), none, none]) (st' := []) (w1 := (KM, I, J, GM)) rfl ?_
  refine mj_loop (fun k L w => ∃ (d e : Option Value) (I' : Nat → Nat → Int32), L = [some (.ref 0), some (.int (nI p)), some (.int (nI r)), some (.int (nI n)), some (.int (nI wh)), some (.int (tI (gtB g k).1)), some (.int (tI (gtB g k).2)), some (.int (nI k)), d, e] ∧ w = (KM, I', J, GM) ∧ MW I' J S) 8 (k0 := 0) (Nat.zero_le _) ?_ ?_ ?_
  · exact ⟨_, _, _, rfl, rfl, hM⟩
  · rintro c _ _ hc8 ⟨d, e, I2, rfl, rfl, hM2⟩ hc
    have hgt := gtB_le hgl c
    have hsl := sitr_le S.o c
    have hgc : g c = if sitr S.o c = 0 ∨ sitr S.o c = p + 1 then alk ((goO (exO S.o (S.o.chair p) c) n).wr p) (S.o.own r) 6 + 1 else 0 := by rw [← hg]; rfl
    have hal := alk_le ((goO (exO S.o (S.o.chair p) c) n).wr p) (S.o.own r) 6
    have cut : sitr S.o c = 0 ∨ sitr S.o c = p + 1 → ∀ d e : Option Value, mj_To 193 79 [some (.ref 0), some (.int (nI p)), some (.int (nI r)), some (.int (nI n)), some (.int (nI wh)), some (.int (tI (gtB g c).1)), some (.int (tI (gtB g c).2)), some (.int (nI c)), d, e] [] (KM, I2, J, GM) Q := fun hs d e => by
      rw [if_pos hs] at hgc
      refine mjT_go 1 (pc' := 80) (L' := [some (.ref 0), some (.int (nI p)), some (.int (nI r)), some (.int (nI n)), some (.int (nI wh)), some (.int (tI (gtB g c).1)), some (.int (tI (gtB g c).2)), some (.int (nI c)), d, e]) (st' := [.ref 0]) (w1 := (KM, I2, J, GM)) rfl ?_
      refine mjT_call (as := [.ref 0]) (rest := []) rfl rfl rfl rfl rfl ⟨rfl, rfl⟩ (m_begin hV.o hM2.o) ?_
      rintro _ _ ⟨rfl, I3, rfl, hO3, hf3⟩
      refine mjT_go 10 (pc' := 99) (L' := [some (.ref 0), some (.int (nI p)), some (.int (nI r)), some (.int (nI n)), some (.int (nI wh)), some (.int (tI (gtB g c).1)), some (.int (tI (gtB g c).2)), some (.int (nI c)), d, e]) (st' := [.int (nI c), .int (((nI 1680) + ((nI 21) * (nI p))) + (nI 2)), .ref 1]) (w1 := (KM, I3, J, GM)) rfl ?_
      obtain ⟨V1, eV1⟩ : ∃ z, z = mj_row I3 1 (va_up (I3 1) ((1680 + (21 * p)) + 2) (nI c)) := ⟨_, rfl⟩
      refine mjT_ias (I' := V1) ((1680 + (21 * p)) + 2) 1840 rfl (pc' := 100) rfl rfl (by simp only [nI_add, pk_mul]) (by omega) (by omega) eV1.symm ?_
      have hO4 : MO V1 1680 (exO S.o (S.o.chair p) c) := by
        refine mo_ex (upd1 S.o.chair p c) (mo_ch eV1 (by omega) hO3 hp hn) (fun j hj => ?_)
        unfold upd1 exC
        by_cases ej : j = p
        · rw [if_pos ej, ej, if_pos rfl]
        · rw [if_neg ej, if_neg (fun h => ej (hV.o.inj j p hj hp h))]
          by_cases ec : S.o.chair j = c
          · exfalso
            have hs2 := (sitr_iff hV.o (c := c) (p := j)).mpr ⟨hj, ec⟩
            omega
          · rw [if_neg ec]
      have hVe := v_ex hV.o hch hc8
      have hpe : p < (exO S.o (S.o.chair p) c).n := hp
      have hne : (exO S.o (S.o.chair p) c).n = S.o.n := rfl
      have hde : (exO S.o (S.o.chair p) c).day = S.o.day := rfl
      have hft : FrT I2 V1 := ft_tr hf3 (ft_of (fr_st eV1 (by omega)))
      generalize exO S.o (S.o.chair p) c = E at *
      refine mjT_go 2 (pc' := 102) (L' := [some (.ref 0), some (.int (nI p)), some (.int (nI r)), some (.int (nI n)), some (.int (nI wh)), some (.int (tI (gtB g c).1)), some (.int (tI (gtB g c).2)), some (.int (nI c)), d, e]) (st' := [.int (nI n), .ref 0]) (w1 := (KM, V1, J, GM)) rfl ?_
      refine mjT_call (as := [.ref 0, .int (nI n)]) (rest := []) rfl rfl rfl rfl rfl ⟨rfl, rfl⟩ (m_goOn hVe hO4 (show E.day + n ≤ 20000 by omega)) ?_
      rintro _ _ ⟨rfl, I5, rfl, hO5, hf5⟩
      have hM5 := mw_ft hM2 hV (ft_tr hft (ft_of hf5))
      have hVg := v_go hVe n (by omega)
      have hgn := go_n E n
      refine mjT_go 3 (pc' := 108) (L' := [some (.ref 0), some (.int (nI p)), some (.int (nI r)), some (.int (nI n)), some (.int (nI wh)), some (.int (tI (gtB g c).1)), some (.int (tI (gtB g c).2)), some (.int (nI c)), d, e]) (st' := [.int (nI r), .int (nI p), .ref 0]) (w1 := (KM, I5, J, GM)) rfl ?_
      refine mjT_callE (as := [.ref 0, .int (nI p), .int (nI r)]) (rest := []) (r1 := some (.int (nI (alk ((goO E n).wr p) (S.o.own r) 6)))) rfl rfl rfl rfl rfl ⟨rfl, rfl⟩ (m_like hV.o hO5 (by omega) hVg hM5.o hp hr) ?_
      generalize alk ((goO E n).wr p) (S.o.own r) 6 = v at *
      refine mjT_go 4 (pc' := if nI v ≤ tI (gtB g c).2 then 125 else 120) (L' := [some (.ref 0), some (.int (nI p)), some (.int (nI r)), some (.int (nI n)), some (.int (nI wh)), some (.int (tI (gtB g c).1)), some (.int (tI (gtB g c).2)), some (.int (nI c)), (mj_nl d), some (.int (nI v))]) (st' := []) (w1 := (KM, I5, J, GM)) rfl ?_
      refine mjT_if (fun h6 => ?_) (fun h6 => ?_)
      · have h6a := h6
        rw [tI_le (by omega) (by omega)] at h6
        have e1 : gtB g (c + 1) = gtB g c := gtB_f (by omega)
        refine mjT_go 5 (pc' := if nI v ≤ tI (gtB g c).2 then 141 else 136) (L' := [some (.ref 0), some (.int (nI p)), some (.int (nI r)), some (.int (nI n)), some (.int (nI wh)), some (.int (tI (gtB g c).1)), some (.int (tI (gtB g c).2)), some (.int (nI c)), (mj_nl d), some (.int (nI v))]) (st' := []) (w1 := (KM, I5, J, GM)) rfl ?_
        refine mjT_ifT h6a ?_
        refine mjT_go 4 (pc' := 52) (L' := [some (.ref 0), some (.int (nI p)), some (.int (nI r)), some (.int (nI n)), some (.int (nI wh)), some (.int (tI (gtB g c).1)), some (.int (tI (gtB g c).2)), some (.int ((nI c) + (nI 1))), (mj_nl d), some (.int (nI v))]) (st' := []) (w1 := (KM, I5, J, GM)) rfl ?_
        rw [nI_add, ← e1]
        exact hc _ _ ⟨_, _, _, rfl, rfl, hM5⟩
      · have h6a := h6
        rw [tI_le (by omega) (by omega), Decidable.not_not] at h6
        have e1 : gtB g (c + 1) = (c + 1, g c) := gtB_t (by omega)
        refine mjT_go 6 (pc' := if nI v ≤ tI (gtB g c).2 then 141 else 136) (L' := [some (.ref 0), some (.int (nI p)), some (.int (nI r)), some (.int (nI n)), some (.int (nI wh)), some (.int (nI c)), some (.int (tI (gtB g c).2)), some (.int (nI c)), (mj_nl d), some (.int (nI v))]) (st' := []) (w1 := (KM, I5, J, GM)) rfl ?_
        refine mjT_ifF h6a ?_
        refine mjT_go 5 (pc' := 52) (L' := [some (.ref 0), some (.int (nI p)), some (.int (nI r)), some (.int (nI n)), some (.int (nI wh)), some (.int (nI c)), some (.int (nI v)), some (.int ((nI c) + (nI 1))), (mj_nl d), some (.int (nI v))]) (st' := []) (w1 := (KM, I5, J, GM)) rfl ?_
        rw [nI_add]
        exact hc _ _ ⟨_, _, _, by rw [e1, hgc]; rfl, rfl, hM5⟩
    refine mjT_go 3 (pc' := if nI 8 ≤ nI c then 151 else 59) (L' := [some (.ref 0), some (.int (nI p)), some (.int (nI r)), some (.int (nI n)), some (.int (nI wh)), some (.int (tI (gtB g c).1)), some (.int (tI (gtB g c).2)), some (.int (nI c)), d, e]) (st' := []) (w1 := (KM, I2, J, GM)) rfl ?_
    refine mjT_ifF (nI_ge (by omega) (by omega)) ?_
    refine mjT_go 3 (pc' := 63) (L' := [some (.ref 0), some (.int (nI p)), some (.int (nI r)), some (.int (nI n)), some (.int (nI wh)), some (.int (tI (gtB g c).1)), some (.int (tI (gtB g c).2)), some (.int (nI c)), d, e]) (st' := [.int (nI c), .int (nI 0), .ref 0]) (w1 := (KM, I2, J, GM)) rfl ?_
    refine mjT_callE (as := [.ref 0, .int (nI 0), .int (nI c)]) (rest := []) (r1 := some (.int (tI (sitr S.o c)))) rfl rfl rfl rfl rfl ⟨rfl, rfl⟩ (m_sitsOn hV.o hM2.o (by omega) (by omega)) ?_
    refine mjT_go 3 (pc' := if tI (sitr S.o c) < 0 then 79 else 73) (L' := [some (.ref 0), some (.int (nI p)), some (.int (nI r)), some (.int (nI n)), some (.int (nI wh)), some (.int (tI (gtB g c).1)), some (.int (tI (gtB g c).2)), some (.int (nI c)), some (.int (tI (sitr S.o c))), e]) (st' := []) (w1 := (KM, I2, J, GM)) rfl ?_
    refine mjT_if (fun h6 => ?_) (fun h6 => ?_)
    · rw [tI_neg (by omega)] at h6
      exact cut (Or.inl h6) _ _
    rw [tI_neg (by omega)] at h6
    refine mjT_go 3 (pc' := if ¬ tI (sitr S.o c) = nI p then 145 else 79) (L' := [some (.ref 0), some (.int (nI p)), some (.int (nI r)), some (.int (nI n)), some (.int (nI wh)), some (.int (tI (gtB g c).1)), some (.int (tI (gtB g c).2)), some (.int (nI c)), some (.int (tI (sitr S.o c))), e]) (st' := []) (w1 := (KM, I2, J, GM)) rfl ?_
    refine mjT_if (fun h7 => ?_) (fun h7 => ?_)
    rotate_left
    · rw [Decidable.not_not, tI_eq (by omega) (by omega)] at h7
      exact cut (Or.inr h7) _ _
    rw [tI_eq (by omega) (by omega)] at h7
    rw [if_neg (by omega)] at hgc
    have e1 : gtB g (c + 1) = gtB g c := gtB_f (by omega)
    refine mjT_go 2 (pc' := 52) (L' := [some (.ref 0), some (.int (nI p)), some (.int (nI r)), some (.int (nI n)), some (.int (nI wh)), some (.int (tI (gtB g c).1)), some (.int (tI (gtB g c).2)), some (.int ((nI c) + (nI 1))), some (.int (tI (sitr S.o c))), e]) (st' := []) (w1 := (KM, I2, J, GM)) rfl ?_
    rw [nI_add, ← e1]
    exact hc _ _ ⟨_, _, _, rfl, rfl, hM2⟩
  · rintro _ _ ⟨d, e, I2, rfl, rfl, hM2⟩
    refine mjT_go 3 (pc' := if nI 8 ≤ nI 8 then 151 else 59) (L' := [some (.ref 0), some (.int (nI p)), some (.int (nI r)), some (.int (nI n)), some (.int (nI wh)), some (.int (tI (gtB g 8).1)), some (.int (tI (gtB g 8).2)), some (.int (nI 8)), d, e]) (st' := []) (w1 := (KM, I2, J, GM)) rfl ?_
    refine mjT_ifT (Int32.le_refl _) ?_
    refine mjT_go 2 (pc' := if ¬ nI wh = 0 then 161 else 156) (L' := [some (.ref 0), some (.int (nI p)), some (.int (nI r)), some (.int (nI n)), some (.int (nI wh)), some (.int (tI (gtB g 8).1)), some (.int (tI (gtB g 8).2)), some (.int (nI 8)), d, e]) (st' := []) (w1 := (KM, I2, J, GM)) rfl ?_
    refine mjT_if_ne (u := wh) (v := 0) rfl nI_0.symm (by omega) (by omega) (fun h4 => ?_) (fun h4 => ?_)
    · refine mjT_go 1 (pc' := 163) (L' := [some (.ref 0), some (.int (nI p)), some (.int (nI r)), some (.int (nI n)), some (.int (nI wh)), some (.int (tI (gtB g 8).1)), some (.int (tI (gtB g 8).2)), some (.int (nI 8)), d, e]) (st' := [.int (tI (gtB g 8).2)]) (w1 := (KM, I2, J, GM)) rfl ?_
      refine mjT_ret rfl rfl rfl ?_
      exact hQ _ _ ⟨by rw [if_neg h4], _, _, rfl, hM2⟩
    · refine mjT_go 2 (pc' := 163) (L' := [some (.ref 0), some (.int (nI p)), some (.int (nI r)), some (.int (nI n)), some (.int (nI wh)), some (.int (tI (gtB g 8).1)), some (.int (tI (gtB g 8).2)), some (.int (nI 8)), d, e]) (st' := [.int (tI (gtB g 8).1)]) (w1 := (KM, I2, J, GM)) rfl ?_
      refine mjT_ret rfl rfl rfl ?_
      exact hQ _ _ ⟨by rw [if_pos h4], _, _, rfl, hM2⟩
theorem sim_forger {x y z u : Int32} : SimO 96 193 [.int x, .int y, .int z, .int u] := fun S _ _ _ _ hV hC hM => ⟨S, _, hV, cc_forger hV hC, mm_forger hV hM⟩
end FO
