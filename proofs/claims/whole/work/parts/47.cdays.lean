section CD
variable {I : Nat → Nat → Int32} {J : Nat → Nat → Int64} {S : Sta} {o : Nat} {O : Off} {P : Nat → Prop}
theorem cw_live {I I' : Nat → Nat → Int32} {J : Nat → Nat → Int64} {S : Sta} {O : Off} (h : CW I J S) (hO : RO I' 1 O TT) (hf : ∀ h, (h < 1 ∨ 11 < h) → I' h = I h) : CW I' J (setO S O) := cw_o h hO hf
theorem cc_pass (hV : VS S) (hC : CW I J S) {x : Int32} {d : Nat} (hd2 : d < 2) : mj_E 87 [.ref 0, .int x, .int (nI d)] (KC, I, J, GC) (fun w' r => r = some (.int (aDays S x d)) ∧ ∃ I' J', w' = (KC, I', J', GC) ∧ CW I' J' (sDays S x d)) := by
  have hn := hV.o.n
  have hd := hV.day
  have hr01 := ir01 x 1 60
  unfold aDays sDays
  refine mjT_go 3 (pc' := 4) (L' := [some (.ref 0), some (.int x), some (.int (nI d)), none, none]) (st' := [.int (nI 60), .int (nI 1), .int x]) (w1 := (KC, I, J, GC)) rfl ?_
  refine mjT_callE (as := [.int x, .int (nI 1), .int (nI 60)]) (rest := []) (r1 := some (.int (nI (iR x 1 60)))) rfl rfl rfl rfl rfl ⟨rfl, rfl⟩ c_within ?_
  refine mjT_go 1 (pc' := if ¬ nI (iR x 1 60) = 0 then 12 else 10) (L' := [some (.ref 0), some (.int x), some (.int (nI d)), none, none]) (st' := []) (w1 := (KC, I, J, GC)) rfl ?_
  by_cases hok : iR x 1 60 = 1
  · rw [if_pos hok, if_pos hok]
    refine mjT_ifT (by rw [hok]; decide) ?_
    obtain ⟨n, hn1, hn60, rfl⟩ := iR_1 hok (by omega) (by omega)
    rw [nn_N (by omega)]
    refine mjT_go 3 (pc' := 19) (L' := [some (.ref 0), some (.int (nI n)), some (.int (nI d)), none, none]) (st' := [.ref 2]) (w1 := (KC, I, J, GC)) rfl ?_
    refine mjT_gfi (v := nI S.o.day) rfl (Or.inl rfl) (pc' := 22) rfl rfl (mo_at (hC.o.day) (by omega) (by omega)) ?_
    refine mjT_go 4 (pc' := if (nI S.o.day) + (nI n) ≤ nI 9999 then 33 else 30) (L' := [some (.ref 0), some (.int (nI n)), some (.int (nI d)), none, none]) (st' := []) (w1 := (KC, I, J, GC)) rfl ?_
    refine mjT_if_le (u := S.o.day + n) (v := 9999) (by simp only [nI_add, pk_mul]) rfl (by omega) (by omega) (fun hle => ?_) (fun hle => ?_)
    · rw [if_pos (by omega), if_pos (by omega)]
      refine mjT_go 2 (pc' := 37) (L' := [some (.ref 0), some (.int (nI n)), some (.int (nI d)), none, none]) (st' := [.ref 1]) (w1 := (KC, I, J, GC)) rfl ?_
      refine mjT_call (as := [.ref 1]) (rest := []) rfl rfl rfl rfl rfl ⟨rfl, rfl⟩ (c_watchAll hV.o og_1 hC.o) ?_
      rintro _ _ ⟨rfl, I2, rfl, hf2, hW2⟩
      have hC2 : CW I2 J S := by
        have hR := ro_watch hC.o hf2
        refine ⟨hR, pc_cong hC.past (hf2.1 _ (by omega) (by omega) (by omega)) (fun k hk => hf2.1 _ (by omega) (by omega) (by omega)), by rw [hf2.1 0 (by omega) (by omega) (by omega)]; exact hC.im, fun hi => ⟨ro_cong (hC.io hi).1 (fun k hk => hf2.1 _ (by omega) (by omega) (by omega)), pc_cong (hC.io hi).2 (hf2.1 _ (by omega) (by omega) (by omega)) (fun k hk => hf2.1 _ (by omega) (by omega) (by omega))⟩, ?_, ?_, ?_, ?_, hC.it⟩
        · rw [hf2.1 _ (by omega) (by omega) (by omega)]; exact hC.tl
        · rw [hf2.1 _ (by omega) (by omega) (by omega)]; exact hC.tp
        · rw [hf2.1 _ (by omega) (by omega) (by omega)]; exact hC.sz
        · rw [hf2.1 _ (by omega) (by omega) (by omega)]; exact hC.ln
      refine mjT_go 4 (pc' := 45) (L' := [some (.ref 0), some (.int (nI n)), some (.int (nI d)), some (.int (nI 0)), some (.int (nI 0))]) (st' := []) (w1 := (KC, I2, J, GC)) rfl ?_
      refine mj_loop (fun k L w => ∃ I', L = [some (.ref 0), some (.int (nI n)), some (.int (nI d)), some (.int (nI (sumD S d k))), some (.int (nI k))] ∧ w = (KC, I', J, GC) ∧ CW I' J (goS S d k) ∧ WA I' 1 (goS S d k).o TT S.o.n (fun k => k)) n (k0 := 0) (Nat.zero_le _) ?_ ?_ ?_
      · exact ⟨_, rfl, rfl, hC2, hW2⟩
      · rintro k _ _ hk ⟨I3, rfl, rfl, hC3, hW3⟩ hc
        have hV3 := vs_go hV d k (by omega)
        have hdk := goS_day S d k
        have hnk := goS_n S d k
        have hsum := sumD_le S d hn k
        have hVr := vs_rem hV3
        have hsum1 : sumD S d (k + 1) = sumD S d k + tookS (goS S d k) d := rfl
        have hgo1 : goS S d (k + 1) = stepS (goS S d k) d := rfl
        rw [hsum1, hgo1] at hc
        generalize goS S d k = T at *
        refine mjT_go 3 (pc' := if nI n ≤ nI k then 102 else 51) (L' := [some (.ref 0), some (.int (nI n)), some (.int (nI d)), some (.int (nI (sumD S d k))), some (.int (nI k))]) (st' := []) (w1 := (KC, I3, J, GC)) rfl ?_
        refine mjT_ifF (nI_ge (by omega) (by omega)) ?_
        refine mjT_go 5 (pc' := 62) (L' := [some (.ref 0), some (.int (nI n)), some (.int (nI d)), some (.int (nI (sumD S d k))), some (.int (nI k))]) (st' := [.ref 2, .ref 12]) (w1 := (KC, I3, J, GC)) rfl ?_
        refine mjT_call (as := [.ref 12, .ref 2]) (rest := []) rfl rfl rfl rfl rfl ⟨rfl, rfl⟩ (c_padd hV3 hC3) ?_
        rintro _ _ ⟨rfl, I4, rfl, hC4, hf4⟩
        have hW4 : WA I4 1 T.o TT S.o.n (fun k => k) := wa_cong hW3 (hf4 _ (by omega)) (hf4 _ (by omega)) (hf4 _ (by omega))
        have hO4 : RO I4 1 T.o TT := hC4.o
        refine mjT_go 5 (pc' := if nI d = 0 then 84 else 74) (L' := [some (.ref 0), some (.int (nI n)), some (.int (nI d)), some (.int (nI (sumD S d k))), some (.int (nI k))]) (st' := [.ref 1, .int (nI (sumD S d k))]) (w1 := (KC, I4, J, GC)) rfl ?_
        by_cases hd0 : d = 0
        · have e1 : wthO T.o d = T.o := by unfold wthO; rw [if_neg (by omega)]
          have e2 : wthB T.o d = wetN T.o := by unfold wthB; rw [if_neg (by omega)]
          refine mjT_ifT (by rw [hd0]; exact nI_0) ?_
          refine mjT_go 2 (pc' := 88) (L' := [some (.ref 0), some (.int (nI n)), some (.int (nI d)), some (.int (nI (sumD S d k))), some (.int (nI k))]) (st' := [.ref 1, .ref 1, .int (nI (sumD S d k))]) (w1 := (KC, I4, J, GC)) rfl ?_
          refine mjT_callE (as := [.ref 1]) (rest := [.ref 1, .int (nI (sumD S d k))]) (r1 := some (.int (nI (wetN T.o)))) rfl rfl rfl rfl rfl ⟨rfl, rfl⟩ (c_isWet hV3.o og_1 hO4) ?_
          refine mjT_call (as := [.ref 1, .int (nI (wetN T.o))]) (rest := [.int (nI (sumD S d k))]) rfl rfl rfl rfl rfl ⟨rfl, rfl⟩ (c_passDay hV3.o og_1 hO4 hW4 (wetN_lt _)) ?_
          rintro _ _ ⟨rfl, I5, rfl, hO5, hf5⟩
          refine mjT_go 4 (pc' := 45) (L' := [some (.ref 0), some (.int (nI n)), some (.int (nI d)), some (.int ((nI (sumD S d k)) + (nI (cntW T.o (wetN T.o) (fun k => k) S.o.n)))), some (.int ((nI k) + (nI 1)))]) (st' := []) (w1 := (KC, I5, J, GC)) rfl ?_
          rw [nI_add, nI_add, cntW_id]
          have e3 : tookS T d = tookN T.o (wetN T.o) S.o.n := by unfold tookS; rw [e1, e2, hnk]
          have e4 : stepS T d = setO (remS T) (passO T.o (wetN T.o)) := by unfold stepS; rw [e1, e2]
          rw [e3, e4] at hc
          exact hc _ _ ⟨I5, rfl, rfl, cw_o hC4 hO5 (fun h hh => hf5 h (by omega) (by omega) (by omega) (by omega)), wa_pass hW4 hf5 _⟩
        · have e1 : wthO T.o d = drawO T.o (nextD T.o.draw) := by unfold wthO; rw [if_pos (by omega)]
          have e2 : wthB T.o d = bitN (nextD T.o.draw) 16 := by unfold wthB; rw [if_pos (by omega)]
          refine mjT_ifF (nI_ne0 (by omega) (by omega)) ?_
          refine mjT_go 2 (pc' := 78) (L' := [some (.ref 0), some (.int (nI n)), some (.int (nI d)), some (.int (nI (sumD S d k))), some (.int (nI k))]) (st' := [.ref 1, .ref 1, .int (nI (sumD S d k))]) (w1 := (KC, I4, J, GC)) rfl ?_
          refine mjT_call (as := [.ref 1]) (rest := [.ref 1, .int (nI (sumD S d k))]) rfl rfl rfl rfl rfl ⟨rfl, rfl⟩ (c_drawWet og_1 hO4) ?_
          rintro _ _ ⟨rfl, I5, rfl, e5⟩
          have hO5 := ro_draw hO4 e5
          have hW5 := wa_draw hW4 e5
          have hVd := v_draw hV3.o (nextD_lt T.o.draw)
          refine mjT_go 1 (pc' := 91) (L' := [some (.ref 0), some (.int (nI n)), some (.int (nI d)), some (.int (nI (sumD S d k))), some (.int (nI k))]) (st' := [.int (nI (bitN (nextD T.o.draw) 16)), .ref 1, .int (nI (sumD S d k))]) (w1 := (KC, I5, J, GC)) rfl ?_
          refine mjT_call (as := [.ref 1, .int (nI (bitN (nextD T.o.draw) 16))]) (rest := [.int (nI (sumD S d k))]) rfl rfl rfl rfl rfl ⟨rfl, rfl⟩ (c_passDay hVd og_1 hO5 hW5 (bitN_lt _ _)) ?_
          rintro _ _ ⟨rfl, I6, rfl, hO6, hf6⟩
          refine mjT_go 4 (pc' := 45) (L' := [some (.ref 0), some (.int (nI n)), some (.int (nI d)), some (.int ((nI (sumD S d k)) + (nI (cntW (drawO T.o (nextD T.o.draw)) (bitN (nextD T.o.draw) 16) (fun k => k) S.o.n)))), some (.int ((nI k) + (nI 1)))]) (st' := []) (w1 := (KC, I6, J, GC)) rfl ?_
          rw [nI_add, nI_add, cntW_id]
          have e3 : tookS T d = tookN (drawO T.o (nextD T.o.draw)) (bitN (nextD T.o.draw) 16) S.o.n := by unfold tookS; rw [e1, e2, hnk]
          have e4 : stepS T d = setO (remS T) (passO (drawO T.o (nextD T.o.draw)) (bitN (nextD T.o.draw) 16)) := by unfold stepS; rw [e1, e2]
          rw [e3, e4] at hc
          exact hc _ _ ⟨I6, rfl, rfl, cw_o hC4 hO6 (fun h hh => by rw [hf6 h (by omega) (by omega) (by omega) (by omega), st_h e5 (by omega)]), wa_pass hW5 hf6 _⟩
      · rintro _ _ ⟨I3, rfl, rfl, hC3, hW3⟩
        refine mjT_go 3 (pc' := if nI n ≤ nI n then 102 else 51) (L' := [some (.ref 0), some (.int (nI n)), some (.int (nI d)), some (.int (nI (sumD S d n))), some (.int (nI n))]) (st' := []) (w1 := (KC, I3, J, GC)) rfl ?_
        refine mjT_ifT (Int32.le_refl _) ?_
        refine mjT_go 1 (pc' := 103) (L' := [some (.ref 0), some (.int (nI n)), some (.int (nI d)), some (.int (nI (sumD S d n))), some (.int (nI n))]) (st' := [.int (nI (sumD S d n))]) (w1 := (KC, I3, J, GC)) rfl ?_
        refine mjT_ret rfl rfl rfl ?_
        exact ⟨rfl, _, _, rfl, hC3⟩
    · rw [if_neg (by omega), if_neg (by omega)]
      refine mjT_go 1 (pc' := 32) (L' := [some (.ref 0), some (.int (nI n)), some (.int (nI d)), none, none]) (st' := [.int (-3)]) (w1 := (KC, I, J, GC)) rfl ?_
      refine mjT_ret rfl rfl rfl ?_
      exact ⟨rfl, _, _, rfl, hC⟩
  · rw [if_neg hok, if_neg hok]
    refine mjT_ifF (fun q => q (by rw [show iR x 1 60 = 0 by omega]; exact nI_0)) ?_
    refine mjT_go 1 (pc' := 11) (L' := [some (.ref 0), some (.int x), some (.int (nI d)), none, none]) (st' := [.int (-1)]) (w1 := (KC, I, J, GC)) rfl ?_
    refine mjT_ret rfl rfl rfl ?_
    exact ⟨rfl, _, _, rfl, hC⟩
theorem cc_days (hV : VS S) (hC : CW I J S) {x : Int32} : mj_E 83 [.ref 0, .int x] (KC, I, J, GC) (fun w' r => r = some (.int (aDays S x 0)) ∧ ∃ I' J', w' = (KC, I', J', GC) ∧ CW I' J' (sDays S x 0)) := by
  refine mjT_go 3 (pc' := 3) (L' := [some (.ref 0), some (.int x)]) (st' := [.int (nI 0), .int x, .ref 0]) (w1 := (KC, I, J, GC)) rfl ?_
  refine mjT_call (as := [.ref 0, .int x, .int (nI 0)]) (rest := []) rfl rfl rfl rfl rfl ⟨rfl, rfl⟩ (cc_pass hV hC (d := 0) (by omega)) ?_
  rintro _ _ ⟨rfl, I2, J2, rfl, hC2⟩
  refine mjT_ret rfl rfl rfl ?_
  exact ⟨rfl, _, _, rfl, hC2⟩
theorem cc_drift (hV : VS S) (hC : CW I J S) {x : Int32} : mj_E 84 [.ref 0, .int x] (KC, I, J, GC) (fun w' r => r = some (.int (aDays S x 1)) ∧ ∃ I' J', w' = (KC, I', J', GC) ∧ CW I' J' (sDays S x 1)) := by
  refine mjT_go 3 (pc' := 3) (L' := [some (.ref 0), some (.int x)]) (st' := [.int (nI 1), .int x, .ref 0]) (w1 := (KC, I, J, GC)) rfl ?_
  refine mjT_call (as := [.ref 0, .int x, .int (nI 1)]) (rest := []) rfl rfl rfl rfl rfl ⟨rfl, rfl⟩ (cc_pass hV hC (d := 1) (by omega)) ?_
  rintro _ _ ⟨rfl, I2, J2, rfl, hC2⟩
  refine mjT_ret rfl rfl rfl ?_
  exact ⟨rfl, _, _, rfl, hC2⟩
end CD
