section MD
variable {I : Nat → Nat → Int32} {J : Nat → Nat → Int64} {S : Sta} {O : Off}
theorem lN_and (a b : Nat) : lN a &&& lN b = lN (a &&& b) := by
  apply Int64.toBitVec_inj.mp
  rw [Int64.toBitVec_and]
  exact BitVec.ofNat_and.symm
theorem and31 (n : Nat) : n &&& 2147483647 = n % 2 ^ 31 := Nat.and_two_pow_sub_one_eq_mod n 31
theorem draw_l {d : Nat} (h : d < 2 ^ 31) : ((nI d).toInt64 * lN 1103515245 + lN 12345 &&& lN 2147483647).toInt32 = nI (nextD d) := by
  rw [nI_l h, lN_mul, lN_add, lN_and, and31, lN_i]; rfl
theorem m_refused (hV : VS S) (hM : MW I J S) {x : Int32} : mj_Ev 170 [.ref 0, .int x] (KM, I, J, GM) (KM, I, J, GM) (some (.int (if iR x 1 60 = 1 then (if S.o.day + nn x ≤ 9999 then nI 0 else -3) else -1))) := by
  refine mj_ev_of ?_
  have hd := hV.day
  have hr01 := ir01 x 1 60
  refine mjT_go 4 (pc' := 6) (L' := [some (.ref 0), some (.int x)]) (st' := [.long (lN 60), .long (lN 1), .long x.toInt64]) (w1 := (KM, I, J, GM)) rfl ?_
  refine mjT_callE (as := [.long x.toInt64, .long (lN 1), .long (lN 60)]) (rest := []) (r1 := some (.int (nI (iR x 1 60)))) rfl rfl rfl rfl rfl ⟨rfl, rfl⟩ (m_inR (by decide) (by decide)) ?_
  refine mjT_go 1 (pc' := if ¬ nI (iR x 1 60) = 0 then 16 else 12) (L' := [some (.ref 0), some (.int x)]) (st' := []) (w1 := (KM, I, J, GM)) rfl ?_
  by_cases hok : iR x 1 60 = 1
  · rw [if_pos hok]
    refine mjT_ifT (by rw [hok]; decide) ?_
    obtain ⟨n, hn1, hn60, rfl⟩ := iR_1 hok (by omega) (by omega)
    rw [nn_N (by omega)]
    refine mjT_go 3 (pc' := 23) (L' := [some (.ref 0), some (.int (nI n))]) (st' := [.int (nI 148), .ref 1]) (w1 := (KM, I, J, GM)) rfl ?_
    refine mjT_ial (v := nI S.o.day) 148 1840 rfl (pc' := 24) rfl rfl rfl (by omega) (by omega) (mo_at hM.o.day rfl (by omega)) ?_
    refine mjT_go 4 (pc' := if (nI S.o.day) + (nI n) ≤ nI 9999 then 37 else 32) (L' := [some (.ref 0), some (.int (nI n))]) (st' := []) (w1 := (KM, I, J, GM)) rfl ?_
    refine mjT_if_le (u := S.o.day + n) (v := 9999) (by simp only [nI_add, pk_mul]) rfl (by omega) (by omega) (fun hle => ?_) (fun hle => ?_)
    · rw [if_pos (by omega)]
      refine mjT_go 1 (pc' := 38) (L' := [some (.ref 0), some (.int (nI n))]) (st' := [.int (nI 0)]) (w1 := (KM, I, J, GM)) rfl ?_
      refine mjT_ret rfl rfl rfl ?_
      exact ⟨rfl, rfl⟩
    · rw [if_neg (by omega)]
      refine mjT_go 2 (pc' := 38) (L' := [some (.ref 0), some (.int (nI n))]) (st' := [.int (-3)]) (w1 := (KM, I, J, GM)) rfl ?_
      refine mjT_ret rfl rfl rfl ?_
      exact ⟨rfl, rfl⟩
  · rw [if_neg hok]
    refine mjT_ifF (fun q => q (by rw [show iR x 1 60 = 0 by omega]; exact nI_0)) ?_
    refine mjT_go 2 (pc' := 38) (L' := [some (.ref 0), some (.int x)]) (st' := [.int (-1)]) (w1 := (KM, I, J, GM)) rfl ?_
    refine mjT_ret rfl rfl rfl ?_
    exact ⟨rfl, rfl⟩
theorem mm_days (hV : VS S) (hM : MW I J S) {x : Int32} : mj_E 171 [.ref 0, .int x] (KM, I, J, GM) (fun w' r => r = some (.int (aDays S x 0)) ∧ ∃ I' J', w' = (KM, I', J', GM) ∧ MW I' J' (sDays S x 0)) := by
  have hn := hV.o.n
  have hd := hV.day
  have href := m_refused hV hM (x := x)
  unfold aDays sDays
  by_cases hok : iR x 1 60 = 1
  · rw [if_pos hok] at href ⊢
    rw [if_pos hok]
    obtain ⟨n, hn1, hn60, rfl⟩ := iR_1 hok (by omega) (by omega)
    rw [nn_N (by omega)] at href ⊢
    by_cases hle : S.o.day + n ≤ 9999
    · rw [if_pos hle] at href ⊢
      rw [if_pos hle]
      refine mjT_go 2 (pc' := 2) (L' := [some (.ref 0), some (.int (nI n)), none, none]) (st' := [.int (nI n), .ref 0]) (w1 := (KM, I, J, GM)) rfl ?_
      refine mjT_callE (as := [.ref 0, .int (nI n)]) (rest := []) (r1 := some (.int (nI 0))) rfl rfl rfl rfl rfl ⟨rfl, rfl⟩ href ?_
      refine mjT_go 1 (pc' := if 0 ≤ nI 0 then 14 else 8) (L' := [some (.ref 0), some (.int (nI n)), none, none]) (st' := []) (w1 := (KM, I, J, GM)) rfl ?_
      refine mjT_ifT (by decide) ?_
      refine mjT_go 4 (pc' := 18) (L' := [some (.ref 0), some (.int (nI n)), some (.int (nI 0)), some (.int (nI 0))]) (st' := []) (w1 := (KM, I, J, GM)) rfl ?_
      refine mj_loop (fun k L w => ∃ I', L = [some (.ref 0), some (.int (nI n)), some (.int (nI (sumD S 0 k))), some (.int (nI k))] ∧ w = (KM, I', J, GM) ∧ MW I' J (goS S 0 k)) n (k0 := 0) (Nat.zero_le _) ?_ ?_ ?_
      · exact ⟨_, rfl, rfl, hM⟩
      · rintro k _ _ hk ⟨I1, rfl, rfl, hM1⟩ hc
        have hV1 := vs_go hV 0 k (by omega)
        have hdk := goS_day S 0 k
        have hnk := goS_n S 0 k
        have hsum := sumD_le S 0 hn k
        have hVr := vs_rem hV1
        have hsum1 : sumD S 0 (k + 1) = sumD S 0 k + tookS (goS S 0 k) 0 := rfl
        have hgo1 : goS S 0 (k + 1) = stepS (goS S 0 k) 0 := rfl
        rw [hsum1, hgo1] at hc
        generalize goS S 0 k = T at *
        refine mjT_go 3 (pc' := if nI n ≤ nI k then 46 else 23) (L' := [some (.ref 0), some (.int (nI n)), some (.int (nI (sumD S 0 k))), some (.int (nI k))]) (st' := []) (w1 := (KM, I1, J, GM)) rfl ?_
        refine mjT_ifF (nI_ge (by omega) (by omega)) ?_
        refine mjT_go 1 (pc' := 24) (L' := [some (.ref 0), some (.int (nI n)), some (.int (nI (sumD S 0 k))), some (.int (nI k))]) (st' := [.ref 0]) (w1 := (KM, I1, J, GM)) rfl ?_
        refine mjT_call (as := [.ref 0]) (rest := []) rfl rfl rfl rfl rfl ⟨rfl, rfl⟩ (m_remember hV1 hM1) ?_
        rintro _ _ ⟨rfl, I2, rfl, hM2⟩
        have hO2 : MO I2 0 T.o := hM2.o
        refine mjT_go 5 (pc' := 32) (L' := [some (.ref 0), some (.int (nI n)), some (.int (nI (sumD S 0 k))), some (.int (nI k))]) (st' := [.int (nI 0), .ref 0, .int (nI 0), .ref 0, .int (nI (sumD S 0 k))]) (w1 := (KM, I2, J, GM)) rfl ?_
        refine mjT_callE (as := [.ref 0, .int (nI 0)]) (rest := [.int (nI 0), .ref 0, .int (nI (sumD S 0 k))]) (r1 := some (.int (nI (wetN T.o)))) rfl rfl rfl rfl rfl ⟨rfl, rfl⟩ (m_isWet hV1.o hO2 (by omega)) ?_
        refine mjT_call (as := [.ref 0, .int (nI 0), .int (nI (wetN T.o))]) (rest := [.int (nI (sumD S 0 k))]) rfl rfl rfl rfl rfl ⟨rfl, rfl⟩ (m_pass hV1.o hO2 (by omega) (wetN_lt _)) ?_
        rintro _ _ ⟨rfl, I3, rfl, hO3, hf3⟩
        refine mjT_go 4 (pc' := 18) (L' := [some (.ref 0), some (.int (nI n)), some (.int ((nI (sumD S 0 k)) + (nI (tookN T.o (wetN T.o) T.o.n)))), some (.int ((nI k) + (nI 1)))]) (st' := []) (w1 := (KM, I3, J, GM)) rfl ?_
        rw [nI_add, nI_add]
        exact hc _ _ ⟨I3, rfl, rfl, mw_o hM2 hVr hO3 (fun h a b => hf3.1 h a b) (fun k hk => hf3.2 k (by omega))⟩
      · rintro _ _ ⟨I1, rfl, rfl, hM1⟩
        refine mjT_go 3 (pc' := if nI n ≤ nI n then 46 else 23) (L' := [some (.ref 0), some (.int (nI n)), some (.int (nI (sumD S 0 n))), some (.int (nI n))]) (st' := []) (w1 := (KM, I1, J, GM)) rfl ?_
        refine mjT_ifT (Int32.le_refl _) ?_
        refine mjT_go 1 (pc' := 47) (L' := [some (.ref 0), some (.int (nI n)), some (.int (nI (sumD S 0 n))), some (.int (nI n))]) (st' := [.int (nI (sumD S 0 n))]) (w1 := (KM, I1, J, GM)) rfl ?_
        refine mjT_ret rfl rfl rfl ?_
        exact ⟨rfl, _, _, rfl, hM1⟩
    · rw [if_neg hle] at href ⊢
      rw [if_neg hle]
      refine mjT_go 2 (pc' := 2) (L' := [some (.ref 0), some (.int (nI n)), none, none]) (st' := [.int (nI n), .ref 0]) (w1 := (KM, I, J, GM)) rfl ?_
      refine mjT_callE (as := [.ref 0, .int (nI n)]) (rest := []) (r1 := some (.int (-3))) rfl rfl rfl rfl rfl ⟨rfl, rfl⟩ href ?_
      refine mjT_go 1 (pc' := if 0 ≤ (-3) then 14 else 8) (L' := [some (.ref 0), some (.int (nI n)), none, none]) (st' := []) (w1 := (KM, I, J, GM)) rfl ?_
      refine mjT_ifF (by decide) ?_
      refine mjT_go 2 (pc' := 10) (L' := [some (.ref 0), some (.int (nI n)), none, none]) (st' := [.int (nI n), .ref 0]) (w1 := (KM, I, J, GM)) rfl ?_
      refine mjT_callE (as := [.ref 0, .int (nI n)]) (rest := []) (r1 := some (.int (-3))) rfl rfl rfl rfl rfl ⟨rfl, rfl⟩ href ?_
      refine mjT_ret rfl rfl rfl ?_
      exact ⟨rfl, _, _, rfl, hM⟩
  · rw [if_neg hok] at href ⊢
    rw [if_neg hok]
    refine mjT_go 2 (pc' := 2) (L' := [some (.ref 0), some (.int x), none, none]) (st' := [.int x, .ref 0]) (w1 := (KM, I, J, GM)) rfl ?_
    refine mjT_callE (as := [.ref 0, .int x]) (rest := []) (r1 := some (.int (-1))) rfl rfl rfl rfl rfl ⟨rfl, rfl⟩ href ?_
    refine mjT_go 1 (pc' := if 0 ≤ (-1) then 14 else 8) (L' := [some (.ref 0), some (.int x), none, none]) (st' := []) (w1 := (KM, I, J, GM)) rfl ?_
    refine mjT_ifF (by decide) ?_
    refine mjT_go 2 (pc' := 10) (L' := [some (.ref 0), some (.int x), none, none]) (st' := [.int x, .ref 0]) (w1 := (KM, I, J, GM)) rfl ?_
    refine mjT_callE (as := [.ref 0, .int x]) (rest := []) (r1 := some (.int (-1))) rfl rfl rfl rfl rfl ⟨rfl, rfl⟩ href ?_
    refine mjT_ret rfl rfl rfl ?_
    exact ⟨rfl, _, _, rfl, hM⟩
theorem m_drawStep {d n s k : Nat} {Q : mjW → Option Value → Prop} (h : I 1 152 = nI d) (hd : d < 2 ^ 31) (g : ∀ I', I' = mj_row I 1 (va_up (I 1) 152 (nI (nextD d))) → mj_To 172 57 [some (.ref 0), some (.int (nI n)), some (.int (nI s)), some (.int (nI k))] [] (KM, I', J, GM) Q) : mj_To 172 27 [some (.ref 0), some (.int (nI n)), some (.int (nI s)), some (.int (nI k))] [] (KM, I, J, GM) Q := by
  refine mjT_go 6 (pc' := 41) (L' := [some (.ref 0), some (.int (nI n)), some (.int (nI s)), some (.int (nI k))]) (st' := [.int (nI 152), .ref 1, .int (nI 152), .ref 1]) (w1 := (KM, I, J, GM)) rfl ?_
  refine mjT_ial (v := nI d) 152 1840 rfl (pc' := 42) rfl rfl rfl (by omega) (by omega) (show I 1 152 = nI d from h) ?_
  refine mjT_go 7 (pc' := 55) (L' := [some (.ref 0), some (.int (nI n)), some (.int (nI s)), some (.int (nI k))]) (st' := [.long (((((nI d).toInt64) * (lN 1103515245)) + (lN 12345)) &&& (lN 2147483647)), .int (nI 152), .ref 1]) (w1 := (KM, I, J, GM)) rfl ?_
  refine mjT_go 1 (pc' := 56) (L' := [some (.ref 0), some (.int (nI n)), some (.int (nI s)), some (.int (nI k))]) (st' := [.int ((((((nI d).toInt64) * (lN 1103515245)) + (lN 12345)) &&& (lN 2147483647)).toInt32), .int (nI 152), .ref 1]) (w1 := (KM, I, J, GM)) rfl ?_
  rw [draw_l hd]
  generalize nextD d = D at *
  obtain ⟨V1, eV1⟩ : ∃ z, z = mj_row I 1 (va_up (I 1) 152 (nI D)) := ⟨_, rfl⟩
  refine mjT_ias (I' := V1) 152 1840 rfl (pc' := 57) rfl rfl rfl (by omega) (by omega) eV1.symm ?_
  exact g V1 eV1
theorem m_driftStep {T : Sta} {n s k D : Nat} {Q : mjW → Option Value → Prop} (hV1 : VS T) (hM1 : MW I J T) (hk : k < n) (hn60 : n ≤ 60) (hD : nextD T.o.draw = D) (hnx : D < 2 ^ 31) (g : ∀ I3, MW I3 J (setO (remS T) (passO (drawO T.o D) (bitN D 16))) → mj_To 172 18 [some (.ref 0), some (.int (nI n)), some (.int (nI (s + tookN (drawO T.o D) (bitN D 16) T.o.n))), some (.int (nI (k + 1)))] [] (KM, I3, J, GM) Q) : mj_To 172 18 [some (.ref 0), some (.int (nI n)), some (.int (nI s)), some (.int (nI k))] [] (KM, I, J, GM) Q := by
  have hVr := vs_rem hV1
  have hdr := hV1.o.draw
  have hdd := hV1.o.day
  have hnn := hV1.o.n
  have hVd : VO (drawO T.o D) := v_draw hV1.o hnx
  refine mjT_go 3 (pc' := if nI n ≤ nI k then 84 else 23) (L' := [some (.ref 0), some (.int (nI n)), some (.int (nI s)), some (.int (nI k))]) (st' := []) (w1 := (KM, I, J, GM)) rfl ?_
  refine mjT_ifF (nI_ge (by omega) (by omega)) ?_
  refine mjT_go 1 (pc' := 24) (L' := [some (.ref 0), some (.int (nI n)), some (.int (nI s)), some (.int (nI k))]) (st' := [.ref 0]) (w1 := (KM, I, J, GM)) rfl ?_
  refine mjT_call (as := [.ref 0]) (rest := []) rfl rfl rfl rfl rfl ⟨rfl, rfl⟩ (m_remember hV1 hM1) ?_
  rintro _ _ ⟨rfl, I2, rfl, hM2⟩
  have hO2 : MO I2 0 T.o := hM2.o
  refine m_drawStep (mo_at hO2.draw rfl (by omega)) hdr (fun V1 eV1 => ?_)
  rw [hD] at eV1
  have hOd : MO V1 0 (drawO T.o D) := mo_draw eV1 (by omega) hO2 hnn
  refine mjT_go 6 (pc' := 67) (L' := [some (.ref 0), some (.int (nI n)), some (.int (nI s)), some (.int (nI k))]) (st' := [.int (nI 152), .ref 1, .int (nI 0), .ref 0, .int (nI s)]) (w1 := (KM, V1, J, GM)) rfl ?_
  refine mjT_ial (v := nI D) 152 1840 rfl (pc' := 68) rfl rfl rfl (by omega) (by omega) (show V1 1 152 = nI D from (st_at eV1)) ?_
  refine mjT_go 1 (pc' := 70) (L' := [some (.ref 0), some (.int (nI n)), some (.int (nI s)), some (.int (nI k))]) (st' := [.int (nI 16), .int (nI D), .int (nI 0), .ref 0, .int (nI s)]) (w1 := (KM, V1, J, GM)) rfl ?_
  refine mjT_callE (as := [.int (nI D), .int (nI 16)]) (rest := [.int (nI 0), .ref 0, .int (nI s)]) (r1 := some (.int (nI (bitN D 16)))) rfl rfl rfl rfl rfl ⟨rfl, rfl⟩ (m_has hnx (by omega)) ?_
  refine mjT_call (as := [.ref 0, .int (nI 0), .int (nI (bitN D 16))]) (rest := [.int (nI s)]) rfl rfl rfl rfl rfl ⟨rfl, rfl⟩ (m_pass hVd hOd (by omega) (bitN_lt _ _)) ?_
  rintro _ _ ⟨rfl, I3, rfl, hO3, hf3⟩
  refine mjT_go 4 (pc' := 18) (L' := [some (.ref 0), some (.int (nI n)), some (.int ((nI s) + (nI (tookN (drawO T.o D) (bitN D 16) T.o.n)))), some (.int ((nI k) + (nI 1)))]) (st' := []) (w1 := (KM, I3, J, GM)) rfl ?_
  rw [nI_add, nI_add]
  exact g _ (mw_o hM2 hVr hO3 (fun h a b => (hf3.1 h a b).trans (st_h eV1 a)) (fun k hk => (hf3.2 k (by omega)).trans (st_ne eV1 (by omega))))
theorem mm_drift (hV : VS S) (hM : MW I J S) {x : Int32} {d : Nat} (hd1 : d = 1) : mj_E 172 [.ref 0, .int x] (KM, I, J, GM) (fun w' r => r = some (.int (aDays S x d)) ∧ ∃ I' J', w' = (KM, I', J', GM) ∧ MW I' J' (sDays S x d)) := by
  have hn := hV.o.n
  have hd := hV.day
  have href := m_refused hV hM (x := x)
  unfold aDays sDays
  by_cases hok : iR x 1 60 = 1
  · rw [if_pos hok] at href ⊢
    rw [if_pos hok]
    obtain ⟨n, hn1, hn60, rfl⟩ := iR_1 hok (by omega) (by omega)
    rw [nn_N (by omega)] at href ⊢
    by_cases hle : S.o.day + n ≤ 9999
    · rw [if_pos hle] at href ⊢
      rw [if_pos hle]
      refine mjT_go 2 (pc' := 2) (L' := [some (.ref 0), some (.int (nI n)), none, none]) (st' := [.int (nI n), .ref 0]) (w1 := (KM, I, J, GM)) rfl ?_
      refine mjT_callE (as := [.ref 0, .int (nI n)]) (rest := []) (r1 := some (.int (nI 0))) rfl rfl rfl rfl rfl ⟨rfl, rfl⟩ href ?_
      refine mjT_go 1 (pc' := if 0 ≤ nI 0 then 14 else 8) (L' := [some (.ref 0), some (.int (nI n)), none, none]) (st' := []) (w1 := (KM, I, J, GM)) rfl ?_
      refine mjT_ifT (by decide) ?_
      refine mjT_go 4 (pc' := 18) (L' := [some (.ref 0), some (.int (nI n)), some (.int (nI 0)), some (.int (nI 0))]) (st' := []) (w1 := (KM, I, J, GM)) rfl ?_
      refine mj_loop (fun k L w => ∃ I', L = [some (.ref 0), some (.int (nI n)), some (.int (nI (sumD S d k))), some (.int (nI k))] ∧ w = (KM, I', J, GM) ∧ MW I' J (goS S d k)) n (k0 := 0) (Nat.zero_le _) ?_ ?_ ?_
      · exact ⟨_, rfl, rfl, hM⟩
      · rintro k _ _ hk ⟨I1, rfl, rfl, hM1⟩ hc
        have hV1 := vs_go hV d k (by omega)
        have hdk := goS_day S d k
        have hnk := goS_n S d k
        have hsum := sumD_le S d hn k
        have hVr := vs_rem hV1
        have hsum1 : sumD S d (k + 1) = sumD S d k + tookS (goS S d k) d := rfl
        have hgo1 : goS S d (k + 1) = stepS (goS S d k) d := rfl
        rw [hsum1, hgo1] at hc
        generalize goS S d k = T at *
        have hnx := nextD_lt T.o.draw
        have e1 : wthO T.o d = drawO T.o (nextD T.o.draw) := if_pos hd1
        have e2 : wthB T.o d = bitN (nextD T.o.draw) 16 := if_pos hd1
        have e3 : tookS T d = tookN (drawO T.o (nextD T.o.draw)) (bitN (nextD T.o.draw) 16) T.o.n := by unfold tookS; rw [e1, e2]
        have e4 : stepS T d = setO (remS T) (passO (drawO T.o (nextD T.o.draw)) (bitN (nextD T.o.draw) 16)) := by unfold stepS; rw [e1, e2]
        rw [e3, e4] at hc
        exact m_driftStep hV1 hM1 hk hn60 rfl hnx (fun I3 hM3 => hc _ _ ⟨I3, rfl, rfl, hM3⟩)
      · rintro _ _ ⟨I1, rfl, rfl, hM1⟩
        refine mjT_go 3 (pc' := if nI n ≤ nI n then 84 else 23) (L' := [some (.ref 0), some (.int (nI n)), some (.int (nI (sumD S d n))), some (.int (nI n))]) (st' := []) (w1 := (KM, I1, J, GM)) rfl ?_
        refine mjT_ifT (Int32.le_refl _) ?_
        refine mjT_go 1 (pc' := 85) (L' := [some (.ref 0), some (.int (nI n)), some (.int (nI (sumD S d n))), some (.int (nI n))]) (st' := [.int (nI (sumD S d n))]) (w1 := (KM, I1, J, GM)) rfl ?_
        refine mjT_ret rfl rfl rfl ?_
        exact ⟨rfl, _, _, rfl, hM1⟩
    · rw [if_neg hle] at href ⊢
      rw [if_neg hle]
      refine mjT_go 2 (pc' := 2) (L' := [some (.ref 0), some (.int (nI n)), none, none]) (st' := [.int (nI n), .ref 0]) (w1 := (KM, I, J, GM)) rfl ?_
      refine mjT_callE (as := [.ref 0, .int (nI n)]) (rest := []) (r1 := some (.int (-3))) rfl rfl rfl rfl rfl ⟨rfl, rfl⟩ href ?_
      refine mjT_go 1 (pc' := if 0 ≤ (-3) then 14 else 8) (L' := [some (.ref 0), some (.int (nI n)), none, none]) (st' := []) (w1 := (KM, I, J, GM)) rfl ?_
      refine mjT_ifF (by decide) ?_
      refine mjT_go 2 (pc' := 10) (L' := [some (.ref 0), some (.int (nI n)), none, none]) (st' := [.int (nI n), .ref 0]) (w1 := (KM, I, J, GM)) rfl ?_
      refine mjT_callE (as := [.ref 0, .int (nI n)]) (rest := []) (r1 := some (.int (-3))) rfl rfl rfl rfl rfl ⟨rfl, rfl⟩ href ?_
      refine mjT_ret rfl rfl rfl ?_
      exact ⟨rfl, _, _, rfl, hM⟩
  · rw [if_neg hok] at href ⊢
    rw [if_neg hok]
    refine mjT_go 2 (pc' := 2) (L' := [some (.ref 0), some (.int x), none, none]) (st' := [.int x, .ref 0]) (w1 := (KM, I, J, GM)) rfl ?_
    refine mjT_callE (as := [.ref 0, .int x]) (rest := []) (r1 := some (.int (-1))) rfl rfl rfl rfl rfl ⟨rfl, rfl⟩ href ?_
    refine mjT_go 1 (pc' := if 0 ≤ (-1) then 14 else 8) (L' := [some (.ref 0), some (.int x), none, none]) (st' := []) (w1 := (KM, I, J, GM)) rfl ?_
    refine mjT_ifF (by decide) ?_
    refine mjT_go 2 (pc' := 10) (L' := [some (.ref 0), some (.int x), none, none]) (st' := [.int x, .ref 0]) (w1 := (KM, I, J, GM)) rfl ?_
    refine mjT_callE (as := [.ref 0, .int x]) (rest := []) (r1 := some (.int (-1))) rfl rfl rfl rfl rfl ⟨rfl, rfl⟩ href ?_
    refine mjT_ret rfl rfl rfl ?_
    exact ⟨rfl, _, _, rfl, hM⟩
theorem sim_days {x : Int32} : SimO 83 171 [.int x] := fun S _ _ _ _ hV hC hM => ⟨_, _, vs_days hV x 0, cc_days hV hC, mm_days hV hM⟩
theorem sim_drift {x : Int32} : SimO 84 172 [.int x] := fun S _ _ _ _ hV hC hM => ⟨_, _, vs_days hV x 1, cc_drift hV hC, mm_drift hV hM rfl⟩
end MD
