/-! the model's weather, and the whole office -/
section MW2
variable {I I' I0 : Nat → Nat → Int32} {J : Nat → Nat → Int64} {K : List (Nat × Nat)} {G : Nat → Nat → Option Nat} {tp : Nat → Nat} {tl pos p m : Nat} {O E O0 : Off} {P : Nat → Prop} {S : Sta}
abbrev FrZ (I I' : Nat → Nat → Int32) : Prop := (∀ h, h ≠ 0 → I' h = I h) ∧ ∀ k, k ≠ 4 → k ≠ 5 → k ≠ 8 → I' 0 k = I 0 k
theorem fz_tr {I2 : Nat → Nat → Int32} (h : FrZ I I') (h' : FrZ I' I2) : FrZ I I2 := ⟨fun a b => (h'.1 a b).trans (h.1 a b), fun a b c d => (h'.2 a b c d).trans (h.2 a b c d)⟩
theorem fz_fn (h : FrN I I') : FrZ I I' := ⟨h.1, fun k h4 _ _ => h.2 k h4⟩
theorem fz_nd (h1 : ∀ h, h ≠ 0 → I' h = I h) (h2 : ∀ k, k ≠ 4 → k ≠ 5 → I' 0 k = I 0 k) : FrZ I I' := ⟨h1, fun k a b _ => h2 k a b⟩
theorem m_readWeather {q : Nat} (h : RdM tp tl I q) (hw : I 0 5 = nI 0) (h8 : I 0 8 = nI 0) : mj_E 158 [.ref 0] (KM, I, J, GM) (fun w' r => r = none ∧ ∃ I', w' = (KM, I', J, GM) ∧ FrZ I I' ∧ RdM tp tl I' (qN tp tl q (fstN (sgN tp tl q) 31)) ∧ ((fstN (sgN tp tl q) 31 ≠ 0 ∧ tkN tp tl q (fstN (sgN tp tl q) 31) = 0 ∧ I' 0 5 = nI 0 ∧ I' 0 8 = nI (wbN tp tl q (fstN (sgN tp tl q) 31))) ∨ (¬ (fstN (sgN tp tl q) 31 ≠ 0 ∧ tkN tp tl q (fstN (sgN tp tl q) 31) = 0) ∧ I' 0 5 = nI 1))) := by
  obtain ⟨hW, hW0, hWj⟩ := sg_W tp tl q
  obtain ⟨W, hWW⟩ : ∃ W, fstN (sgN tp tl q) 31 = W := ⟨_, rfl⟩
  rw [hWW] at hW hW0 hWj ⊢
  have lcb : ∀ i, tkN tp tl q i < 128 := fun i => lc_le h.rg _
  have tlt : ∀ i, tkN tp tl q i ≠ 0 → qN tp tl q i < tl := fun i hi => tk_lt hi
  refine mjT_gen fun Q hQ => ?_
  refine mjT_go 2 (pc' := 2) (L' := [some (.ref 0), some (.int (nI 0)), none, none]) (st' := []) (w1 := (KM, I, J, GM)) rfl ?_
  refine mj_loop (fun k L w => ∃ (d e : Option Value) (I' : Nat → Nat → Int32), L = [some (.ref 0), some (.int (nI k)), d, e] ∧ w = (KM, I', J, GM) ∧ FrZ I I' ∧ RdM tp tl I' (rwN tp tl q k) ∧ I' 0 5 = nI 0 ∧ I' 0 8 = nI (wbN tp tl q k)) W (k0 := 0) (Nat.zero_le _) ?_ ?_ ?_
  · exact ⟨_, _, _, rfl, rfl, ⟨fun _ _ => rfl, fun _ _ _ _ => rfl⟩, h, hw, h8⟩
  · rintro k _ _ hk ⟨d, e, I2, rfl, rfl, f2, r2, w2, t2⟩ hc
    obtain ⟨s1, s2⟩ := sg_1 (hWj k hk)
    have hlc := lcb k
    have hlt := tlt k (by omega)
    have go20 : ∀ (I3 : Nat → Nat → Int32) (d e : Option Value), FrZ I I3 → (RdM tp tl I3 (rwN tp tl q k) ∨ RdM tp tl I3 (qN tp tl q k)) → I3 0 5 = nI 0 → I3 0 8 = nI (wbN tp tl q k) → mj_To 158 20 [some (.ref 0), some (.int (nI k)), d, e] [] (KM, I3, J, GM) Q := fun I3 d e f3 r3 w3 t3 => by
      have l3 : mj_E 154 [.ref 0] (KM, I3, J, GM) (fun w' r => r = some (.int (tI (tkN tp tl q k))) ∧ ∃ I', w' = (KM, I', J, GM) ∧ RdM tp tl I' (qN tp tl q k) ∧ FrN I3 I') := by
        rcases r3 with r3 | r3
        · have l := m_here (J := J) r3
          rw [rw_q, show lcA tp tl (qN tp tl q k) = tkN tp tl q k from rfl] at l
          exact l
        · have l := m_here (J := J) r3
          rw [q_q, show lcA tp tl (qN tp tl q k) = tkN tp tl q k from rfl] at l
          exact l
      have n49 : ∀ (I5 : Nat → Nat → Int32), FrZ I I5 → RdM tp tl I5 (qN tp tl q k) → I5 0 5 = nI 0 → I5 0 8 = nI (wbN tp tl q k) → mj_To 158 43 [some (.ref 0), some (.int (nI k)), some (.int (tI (tkN tp tl q k))), e] [] (KM, I5, J, GM) Q := fun I5 f5 r5 w5 t5 => by
        have fin : ∀ (I6 : Nat → Nat → Int32), FrZ I I6 → RdM tp tl I6 (qN tp tl q k) → I6 0 5 = nI 0 → I6 0 8 = nI (wbN tp tl q (k + 1)) → mj_To 158 75 [some (.ref 0), some (.int (nI k)), some (.int (tI (tkN tp tl q k))), some (.int (nI 1))] [] (KM, I6, J, GM) Q := fun I6 f6 r6 w6 t6 => by
          refine mjT_go 2 (pc' := 77) (L' := [some (.ref 0), some (.int (nI k)), some (.int (tI (tkN tp tl q k))), some (.int (nI 1))]) (st' := [.int (nI 1), .ref 0]) (w1 := (KM, I6, J, GM)) rfl ?_
          refine mjT_call (as := [.ref 0, .int (nI 1)]) (rest := []) rfl rfl rfl rfl rfl ⟨rfl, rfl⟩ (m_need r6.ps w6 (by omega) (by omega)) ?_
          rintro _ _ ⟨rfl, I7, rfl, n5, n4, nh, nk⟩
          rw [if_neg (by omega)] at n5 n4
          refine mjT_go 2 (pc' := 2) (L' := [some (.ref 0), some (.int ((nI k) + (nI 1))), some (.int (tI (tkN tp tl q k))), some (.int (nI 1))]) (st' := []) (w1 := (KM, I7, J, GM)) rfl ?_
          rw [nI_add]
          exact hc _ _ ⟨_, _, _, rfl, rfl, fz_tr f6 (fz_nd nh nk), rm_at r6 (nh 2 (by omega)) (nk 3 (by omega) (by omega)) n4 hlt, n5, (nk 8 (by omega) (by omega)).trans t6⟩
        refine mjT_go 5 (pc' := 51) (L' := [some (.ref 0), some (.int (nI k)), some (.int (tI (tkN tp tl q k))), some (.int (nI 1))]) (st' := [.ref 0, .ref 0]) (w1 := (KM, I5, J, GM)) rfl ?_
        refine mjT_gfi (v := nI (wbN tp tl q k)) rfl (Or.inl rfl) (pc' := 54) rfl rfl (show I5 0 8 = nI (wbN tp tl q k) from t5) ?_
        refine mjT_go 2 (pc' := if nI 1 = 0 then 70 else 58) (L' := [some (.ref 0), some (.int (nI k)), some (.int (tI (tkN tp tl q k))), some (.int (nI 1))]) (st' := [.int (nI (wbN tp tl q k)), .ref 0]) (w1 := (KM, I5, J, GM)) rfl ?_
        refine mjT_ifF (by decide) ?_
        refine mjT_go 3 (pc' := if ¬ tI (tkN tp tl q k) = nI 114 then 70 else 64) (L' := [some (.ref 0), some (.int (nI k)), some (.int (tI (tkN tp tl q k))), some (.int (nI 1))]) (st' := [.int (nI (wbN tp tl q k)), .ref 0]) (w1 := (KM, I5, J, GM)) rfl ?_
        refine mjT_if (fun h3 => ?_) (fun h3 => ?_)
        · rw [tI_eq (by omega) (by omega)] at h3
          have e1 : wbN tp tl q k ||| 0 = wbN tp tl q (k + 1) := by
            show _ = wbN tp tl q k ||| eqB (tkN tp tl q k) 115 * 2 ^ k
            unfold eqB
            rw [if_neg (by omega), Nat.zero_mul]
          refine mjT_go 2 (pc' := 72) (L' := [some (.ref 0), some (.int (nI k)), some (.int (tI (tkN tp tl q k))), some (.int (nI 1))]) (st' := [.int ((nI (wbN tp tl q k)) ||| (nI 0)), .ref 0]) (w1 := (KM, I5, J, GM)) rfl ?_
          obtain ⟨V1, eV1⟩ : ∃ z, z = mj_row I5 0 (va_up (I5 0) 8 ((nI (wbN tp tl q k)) ||| (nI 0))) := ⟨_, rfl⟩
          refine mjT_pfi (I' := V1) rfl (pc' := 75) rfl rfl eV1.symm ?_
          rw [nI_or, e1] at eV1
          exact fin _ (fz_tr f5 ⟨fun h hh => st_h eV1 hh, fun k _ _ h8 => st_ne eV1 h8⟩) (rm_fr r5 (st_h eV1 (by omega)) (st_ne eV1 (by omega)) (st_ne eV1 (by omega))) ((st_ne eV1 (by omega)).trans w5) (st_at eV1)
        · rw [Decidable.not_not, tI_eq (by omega) (by omega)] at h3
          have e1 : wbN tp tl q k ||| 1 * 2 ^ k = wbN tp tl q (k + 1) := by
            show _ = wbN tp tl q k ||| eqB (tkN tp tl q k) 115 * 2 ^ k
            unfold eqB
            rw [if_pos (by omega)]
          refine mjT_go 5 (pc' := 72) (L' := [some (.ref 0), some (.int (nI k)), some (.int (tI (tkN tp tl q k))), some (.int (nI 1))]) (st' := [.int ((nI (wbN tp tl q k)) ||| ((nI 1) <<< ((nI k) &&& 31))), .ref 0]) (w1 := (KM, I5, J, GM)) rfl ?_
          obtain ⟨V2, eV2⟩ : ∃ z, z = mj_row I5 0 (va_up (I5 0) 8 ((nI (wbN tp tl q k)) ||| ((nI 1) <<< ((nI k) &&& 31)))) := ⟨_, rfl⟩
          refine mjT_pfi (I' := V2) rfl (pc' := 75) rfl rfl eV2.symm ?_
          rw [shb 1 (by omega) k (by omega), nI_or, e1] at eV2
          exact fin _ (fz_tr f5 ⟨fun h hh => st_h eV2 hh, fun k _ _ h8 => st_ne eV2 h8⟩) (rm_fr r5 (st_h eV2 (by omega)) (st_ne eV2 (by omega)) (st_ne eV2 (by omega))) ((st_ne eV2 (by omega)).trans w5) (st_at eV2)
      refine mjT_go 1 (pc' := 21) (L' := [some (.ref 0), some (.int (nI k)), d, e]) (st' := [.ref 0]) (w1 := (KM, I3, J, GM)) rfl ?_
      refine mjT_call (as := [.ref 0]) (rest := []) rfl rfl rfl rfl rfl ⟨rfl, rfl⟩ (l3) ?_
      rintro _ _ ⟨rfl, I4, rfl, r4, f4⟩
      have w4 : I4 0 5 = nI 0 := (f4.2 5 (by omega)).trans w3
      have t4 : I4 0 8 = nI (wbN tp tl q k) := (f4.2 8 (by omega)).trans t3
      refine mjT_go 4 (pc' := if nI 30 ≤ nI k then 47 else 31) (L' := [some (.ref 0), some (.int (nI k)), some (.int (tI (tkN tp tl q k))), e]) (st' := []) (w1 := (KM, I4, J, GM)) rfl ?_
      refine mjT_ifF (nI_ge (by omega) (by omega)) ?_
      refine mjT_go 3 (pc' := if tI (tkN tp tl q k) = nI 46 then 43 else 37) (L' := [some (.ref 0), some (.int (nI k)), some (.int (tI (tkN tp tl q k))), e]) (st' := []) (w1 := (KM, I4, J, GM)) rfl ?_
      refine mjT_if (fun h3 => ?_) (fun h3 => ?_)
      · exact n49 _ (fz_tr f3 (fz_fn f4)) r4 w4 t4
      rw [tI_eq (by omega) (by omega)] at h3
      refine mjT_go 3 (pc' := if ¬ tI (tkN tp tl q k) = nI 114 then 47 else 43) (L' := [some (.ref 0), some (.int (nI k)), some (.int (tI (tkN tp tl q k))), e]) (st' := []) (w1 := (KM, I4, J, GM)) rfl ?_
      refine mjT_ifF (fun z => z (by rw [show tkN tp tl q k = 114 + 1 by omega, tI_s])) ?_
      exact n49 _ (fz_tr f3 (fz_fn f4)) r4 w4 t4
    refine mjT_go 1 (pc' := 3) (L' := [some (.ref 0), some (.int (nI k)), d, e]) (st' := [.ref 0]) (w1 := (KM, I2, J, GM)) rfl ?_
    refine mjT_gfi (v := nI 0) rfl (Or.inr rfl) (pc' := 6) rfl rfl (show I2 0 5 = nI 0 from w2) ?_
    refine mjT_go 1 (pc' := if ¬ nI 0 = 0 then 86 else 9) (L' := [some (.ref 0), some (.int (nI k)), d, e]) (st' := []) (w1 := (KM, I2, J, GM)) rfl ?_
    refine mjT_ifF (fun z => z nI_0) ?_
    refine mjT_go 2 (pc' := if nI k = 0 then 20 else 13) (L' := [some (.ref 0), some (.int (nI k)), d, e]) (st' := []) (w1 := (KM, I2, J, GM)) rfl ?_
    refine mjT_if_eq (u := k) (v := 0) rfl nI_0.symm (by omega) (by omega) (fun h0 => ?_) (fun h0 => ?_)
    · exact go20 _ _ _ f2 (Or.inl r2) w2 t2
    have l2 := m_here (J := J) r2
    rw [rw_q, show lcA tp tl (qN tp tl q k) = tkN tp tl q k from rfl] at l2
    refine mjT_go 1 (pc' := 14) (L' := [some (.ref 0), some (.int (nI k)), d, e]) (st' := [.ref 0]) (w1 := (KM, I2, J, GM)) rfl ?_
    refine mjT_call (as := [.ref 0]) (rest := []) rfl rfl rfl rfl rfl ⟨rfl, rfl⟩ (l2) ?_
    rintro _ _ ⟨rfl, I3, rfl, r3, f3⟩
    refine mjT_go 1 (pc' := if tI (tkN tp tl q k) < 0 then 86 else 20) (L' := [some (.ref 0), some (.int (nI k)), d, e]) (st' := []) (w1 := (KM, I3, J, GM)) rfl ?_
    refine mjT_ifF (fun z => absurd ((tI_neg (by omega)).mp z) (by omega)) ?_
    exact go20 _ _ _ (fz_tr f2 (fz_fn f3)) (Or.inr r3) ((f3.2 5 (by omega)).trans w2) ((f3.2 8 (by omega)).trans t2)
  · rintro _ _ ⟨d, e, I2, rfl, rfl, f2, r2, w2, t2⟩
    have hno := sg_0 hW0
    have hlc := lcb W
    have wrong : ∀ (I4 : Nat → Nat → Int32), ¬ (W ≠ 0 ∧ tkN tp tl q W = 0) → FrZ I I4 → RdM tp tl I4 (qN tp tl q W) → I4 0 5 = nI 0 → mj_To 158 47 [some (.ref 0), some (.int (nI W)), some (.int (tI (tkN tp tl q W))), e] [] (KM, I4, J, GM) Q := fun I4 hne f4 r4 w4 => by
      obtain ⟨y, hy⟩ := nI_surj (I4 0 8)
      refine mjT_go 4 (pc' := 51) (L' := [some (.ref 0), some (.int (nI W)), some (.int (tI (tkN tp tl q W))), some (.int (nI 0))]) (st' := [.ref 0, .ref 0]) (w1 := (KM, I4, J, GM)) rfl ?_
      refine mjT_gfi (v := nI y) rfl (Or.inl rfl) (pc' := 54) rfl rfl (show I4 0 8 = nI y from hy) ?_
      refine mjT_go 2 (pc' := if nI 0 = 0 then 70 else 58) (L' := [some (.ref 0), some (.int (nI W)), some (.int (tI (tkN tp tl q W))), some (.int (nI 0))]) (st' := [.int (nI y), .ref 0]) (w1 := (KM, I4, J, GM)) rfl ?_
      refine mjT_ifT nI_0 ?_
      refine mjT_go 2 (pc' := 72) (L' := [some (.ref 0), some (.int (nI W)), some (.int (tI (tkN tp tl q W))), some (.int (nI 0))]) (st' := [.int ((nI y) ||| (nI 0)), .ref 0]) (w1 := (KM, I4, J, GM)) rfl ?_
      obtain ⟨V3, eV3⟩ : ∃ z, z = mj_row I4 0 (va_up (I4 0) 8 ((nI y) ||| (nI 0))) := ⟨_, rfl⟩
      refine mjT_pfi (I' := V3) rfl (pc' := 75) rfl rfl eV3.symm ?_
      have r5 : RdM tp tl V3 (qN tp tl q W) := rm_fr r4 (st_h eV3 (by omega)) (st_ne eV3 (by omega)) (st_ne eV3 (by omega))
      have w5 : V3 0 5 = nI 0 := (st_ne eV3 (by omega)).trans w4
      refine mjT_go 2 (pc' := 77) (L' := [some (.ref 0), some (.int (nI W)), some (.int (tI (tkN tp tl q W))), some (.int (nI 0))]) (st' := [.int (nI 0), .ref 0]) (w1 := (KM, V3, J, GM)) rfl ?_
      refine mjT_call (as := [.ref 0, .int (nI 0)]) (rest := []) rfl rfl rfl rfl rfl ⟨rfl, rfl⟩ (m_need r5.ps w5 (by omega) (by omega)) ?_
      rintro _ _ ⟨rfl, I7, rfl, n5, n4, nh, nk⟩
      rw [if_pos (Or.inr rfl)] at n5 n4
      refine mjT_go 3 (pc' := 3) (L' := [some (.ref 0), some (.int ((nI W) + (nI 1))), some (.int (tI (tkN tp tl q W))), some (.int (nI 0))]) (st' := [.ref 0]) (w1 := (KM, I7, J, GM)) rfl ?_
      refine mjT_gfi (v := nI 1) rfl (Or.inr rfl) (pc' := 6) rfl rfl (show I7 0 5 = nI 1 from n5) ?_
      refine mjT_go 1 (pc' := if ¬ nI 1 = 0 then 86 else 9) (L' := [some (.ref 0), some (.int ((nI W) + (nI 1))), some (.int (tI (tkN tp tl q W))), some (.int (nI 0))]) (st' := []) (w1 := (KM, I7, J, GM)) rfl ?_
      refine mjT_ifT (by decide) ?_
      refine mjT_ret rfl rfl rfl ?_
      exact hQ _ _ ⟨rfl, _, rfl, fz_tr f4 (fz_tr ⟨fun h hh => st_h eV3 hh, fun k _ _ h8 => st_ne eV3 h8⟩ (fz_nd nh nk)), rm_at r5 (nh 2 (by omega)) (nk 3 (by omega) (by omega)) n4 r5.le.2, Or.inr ⟨hne, n5⟩⟩
    have chk : ∀ (I4 : Nat → Nat → Int32) (d : Option Value), ¬ (W ≠ 0 ∧ tkN tp tl q W = 0) → FrZ I I4 → (RdM tp tl I4 (rwN tp tl q W) ∨ RdM tp tl I4 (qN tp tl q W)) → I4 0 5 = nI 0 → mj_To 158 20 [some (.ref 0), some (.int (nI W)), d, e] [] (KM, I4, J, GM) Q := fun I4 d hne f4 r4 w4 => by
      have l4 : mj_E 154 [.ref 0] (KM, I4, J, GM) (fun w' r => r = some (.int (tI (tkN tp tl q W))) ∧ ∃ I', w' = (KM, I', J, GM) ∧ RdM tp tl I' (qN tp tl q W) ∧ FrN I4 I') := by
        rcases r4 with r4 | r4
        · have l := m_here (J := J) r4
          rw [rw_q, show lcA tp tl (qN tp tl q W) = tkN tp tl q W from rfl] at l
          exact l
        · have l := m_here (J := J) r4
          rw [q_q, show lcA tp tl (qN tp tl q W) = tkN tp tl q W from rfl] at l
          exact l
      refine mjT_go 1 (pc' := 21) (L' := [some (.ref 0), some (.int (nI W)), d, e]) (st' := [.ref 0]) (w1 := (KM, I4, J, GM)) rfl ?_
      refine mjT_call (as := [.ref 0]) (rest := []) rfl rfl rfl rfl rfl ⟨rfl, rfl⟩ (l4) ?_
      rintro _ _ ⟨rfl, I5, rfl, r5, f5⟩
      have f6 := fz_tr f4 (fz_fn f5)
      have w5 : I5 0 5 = nI 0 := (f5.2 5 (by omega)).trans w4
      refine mjT_go 4 (pc' := if nI 30 ≤ nI W then 47 else 31) (L' := [some (.ref 0), some (.int (nI W)), some (.int (tI (tkN tp tl q W))), e]) (st' := []) (w1 := (KM, I5, J, GM)) rfl ?_
      refine mjT_if_le (u := 30) (v := W) rfl rfl (by omega) (by omega) (fun h3 => ?_) (fun h3 => ?_)
      · exact wrong _ hne f6 r5 w5
      refine mjT_go 3 (pc' := if tI (tkN tp tl q W) = nI 46 then 43 else 37) (L' := [some (.ref 0), some (.int (nI W)), some (.int (tI (tkN tp tl q W))), e]) (st' := []) (w1 := (KM, I5, J, GM)) rfl ?_
      refine mjT_ifF (fun z => hno ⟨h3, Or.inl ((tI_eq (by omega) (by omega)).mp z)⟩) ?_
      refine mjT_go 3 (pc' := if ¬ tI (tkN tp tl q W) = nI 114 then 47 else 43) (L' := [some (.ref 0), some (.int (nI W)), some (.int (tI (tkN tp tl q W))), e]) (st' := []) (w1 := (KM, I5, J, GM)) rfl ?_
      refine mjT_ifT (fun z => hno ⟨h3, Or.inr ((tI_eq (by omega) (by omega)).mp z)⟩) ?_
      exact wrong _ hne f6 r5 w5
    refine mjT_go 1 (pc' := 3) (L' := [some (.ref 0), some (.int (nI W)), d, e]) (st' := [.ref 0]) (w1 := (KM, I2, J, GM)) rfl ?_
    refine mjT_gfi (v := nI 0) rfl (Or.inr rfl) (pc' := 6) rfl rfl (show I2 0 5 = nI 0 from w2) ?_
    refine mjT_go 1 (pc' := if ¬ nI 0 = 0 then 86 else 9) (L' := [some (.ref 0), some (.int (nI W)), d, e]) (st' := []) (w1 := (KM, I2, J, GM)) rfl ?_
    refine mjT_ifF (fun z => z nI_0) ?_
    refine mjT_go 2 (pc' := if nI W = 0 then 20 else 13) (L' := [some (.ref 0), some (.int (nI W)), d, e]) (st' := []) (w1 := (KM, I2, J, GM)) rfl ?_
    refine mjT_if_eq (u := W) (v := 0) rfl nI_0.symm (by omega) (by omega) (fun h0 => ?_) (fun h0 => ?_)
    · exact chk _ _ (fun z => z.1 h0) f2 (Or.inl r2) w2
    have l2 := m_here (J := J) r2
    rw [rw_q, show lcA tp tl (qN tp tl q W) = tkN tp tl q W from rfl] at l2
    refine mjT_go 1 (pc' := 14) (L' := [some (.ref 0), some (.int (nI W)), d, e]) (st' := [.ref 0]) (w1 := (KM, I2, J, GM)) rfl ?_
    refine mjT_call (as := [.ref 0]) (rest := []) rfl rfl rfl rfl rfl ⟨rfl, rfl⟩ (l2) ?_
    rintro _ _ ⟨rfl, I3, rfl, r3, f3⟩
    have f6 := fz_tr f2 (fz_fn f3)
    have w3 : I3 0 5 = nI 0 := (f3.2 5 (by omega)).trans w2
    refine mjT_go 1 (pc' := if tI (tkN tp tl q W) < 0 then 86 else 20) (L' := [some (.ref 0), some (.int (nI W)), d, e]) (st' := []) (w1 := (KM, I3, J, GM)) rfl ?_
    refine mjT_if (fun h4 => ?_) (fun h4 => ?_)
    · rw [tI_neg (by omega)] at h4
      refine mjT_ret rfl rfl rfl ?_
      exact hQ _ _ ⟨rfl, _, rfl, f6, r3, Or.inl ⟨h0, h4, w3, (f3.2 8 (by omega)).trans t2⟩⟩
    rw [tI_neg (by omega)] at h4
    exact chk _ _ (fun z => h4 z.2) f6 (Or.inr r3) w3
/-- what is told of the first m -/
abbrev tkk (tp : Nat → Nat) (tl : Nat) (O0 : Off) (j i : Nat) : Nat := gdN tp tl (psN tp tl O0 j).1 (spN tp tl j (psN tp tl O0 j).2) i - 1
abbrev TDm (tp : Nat → Nat) (tl : Nat) (O0 : Off) (I : Nat → Nat → Int32) (m : Nat) : Prop := ∀ j, j < m → I 3 (4 * j) = nI (tkk tp tl O0 j 0) ∧ I 3 (4 * j + 1) = nI (tkk tp tl O0 j 1) ∧ I 3 (4 * j + 2) = nI (hdN tp tl (psN tp tl O0 j).1 (spN tp tl j (psN tp tl O0 j).2)) ∧ I 3 (4 * j + 3) = nI (tkk tp tl O0 j 9)
theorem td_cong (h : TDm tp tl O0 I m) (he : ∀ a, a < 4 * m → I' 3 a = I 3 a) : TDm tp tl O0 I' m := fun j hj => by
  obtain ⟨a, b, c, d⟩ := h j hj
  exact ⟨(he _ (by omega)).trans a, (he _ (by omega)).trans b, (he _ (by omega)).trans c, (he _ (by omega)).trans d⟩
theorem ps_chair (h0 : O0.n = 0) : ∀ m, (psN tp tl O0 m).1.n = m ∧ ∀ j, j < m → (psN tp tl O0 m).1.chair j = tkk tp tl O0 j 9
  | 0 => ⟨h0, fun _ h => absurd h (by omega)⟩
  | m + 1 => by
    obtain ⟨h1, h2⟩ := ps_chair h0 m
    refine ⟨by show (psN tp tl O0 m).1.n + 1 = m + 1; rw [h1], fun j hj => ?_⟩
    show upd1 (psN tp tl O0 m).1.chair (psN tp tl O0 m).1.n (tkk tp tl O0 m 9) j = _
    rw [h1]
    by_cases e : j = m
    · rw [e, u1_at]
    · rw [u1_ne e]; exact h2 j (by omega)
/-- behind the reading: wrong at a place, or told -/
abbrev EndM (tp : Nat → Nat) (tl : Nat) (O0 : Off) (I : Nat → Nat → Int32) (R : Nat × Nat) : Prop := (R.1 = 0 ∧ I 0 5 = nI 1 ∧ RdM tp tl I R.2 ∧ skN tp tl R.2 = R.2) ∨ (R.1 ≠ 0 ∧ I 0 5 = nI 0 ∧ I 0 7 = nI R.1 ∧ I 0 8 = nI R.2 ∧ TDm tp tl O0 I R.1 ∧ ∃ x, RdM tp tl I x)
abbrev FrO (I I' : Nat → Nat → Int32) : Prop := (∀ h, h ≠ 0 → h ≠ 3 → I' h = I h) ∧ ∀ k, k ≠ 4 → k ≠ 5 → k ≠ 7 → k ≠ 8 → I' 0 k = I 0 k
theorem fo_tr {I2 : Nat → Nat → Int32} (h : FrO I I') (h' : FrO I' I2) : FrO I I2 := ⟨fun a b c => (h'.1 a b c).trans (h.1 a b c), fun a b c d e => (h'.2 a b c d e).trans (h.2 a b c d e)⟩
theorem fo_q (h : FrQ I I' m) : FrO I I' := ⟨h.1, fun k a b c _ => h.2.1 k a b c⟩
theorem fo_z (h : FrZ I I') : FrO I I' := ⟨fun a b _ => h.1 a b, fun k a b _ c => h.2 k a b c⟩
theorem wx_e {q W m : Nat} : wxN tp tl q W m = if ¬ (W ≠ 0 ∧ tkN tp tl q W = 0) then (0, qN tp tl q W) else (m, wbN tp tl q W) := by
  unfold wxN
  by_cases h : W = 0
  · rw [if_pos h, h, if_pos (fun z => z.1 rfl)]
  · rw [if_neg h]
    by_cases h2 : tkN tp tl q W = 0
    · rw [if_pos h2, if_neg (fun z => z ⟨h, h2⟩)]
    · rw [if_neg h2, if_pos (fun z => h2 z.2)]
/-- from the end of the people on -/
theorem m_tail {e : Nat} {Q : mjW → Option Value → Prop} (hm : 1 ≤ m ∧ m ≤ 7) (h : RdM tp tl I pos) (hp : skN tp tl pos = skN tp tl e) (hw : I 0 5 = nI 0 ∨ (I 0 5 = nI 1 ∧ lcA tp tl (skN tp tl e) = 45 ∧ pos = skN tp tl e)) (h7 : I 0 7 = nI m) (h8 : I 0 8 = nI 0) (htd : TDm tp tl O0 I m) (hf : FrO I0 I) (hQ : ∀ I', FrO I0 I' → EndM tp tl O0 I' (tlN tp tl m e) → Q (KM, I', J, GM) none) : mj_To 159 72 [some (.ref 0)] [] (KM, I, J, GM) Q := by
  have hlc := lc_le h.rg (skN tp tl e)
  unfold tlN at hQ
  have last1 : ∀ (I' : Nat → Nat → Int32) (x : Nat), FrO I0 I' → RdM tp tl I' x → skN tp tl x = x → I' 0 5 = nI 1 → (∀ I2, FrO I0 I2 → I2 0 5 = nI 1 → RdM tp tl I2 x → Q (KM, I2, J, GM) none) → mj_To 159 97 [some (.ref 0)] [] (KM, I', J, GM) Q := fun I' x hf' hx hxx h5 hQ' => by
    refine mjT_go 2 (pc' := 99) (L' := [some (.ref 0)]) (st' := [.ref 0, .ref 0]) (w1 := (KM, I', J, GM)) rfl ?_
    refine mjT_gfi (v := nI 1) rfl (Or.inr rfl) (pc' := 102) rfl rfl (show I' 0 5 = nI 1 from h5) ?_
    refine mjT_go 1 (pc' := if ¬ nI 1 = 0 then 112 else 105) (L' := [some (.ref 0)]) (st' := [.ref 0]) (w1 := (KM, I', J, GM)) rfl ?_
    refine mjT_ifT (by decide) ?_
    refine mjT_go 2 (pc' := 117) (L' := [some (.ref 0)]) (st' := [.int (nI 1), .ref 0]) (w1 := (KM, I', J, GM)) rfl ?_
    obtain ⟨V1, eV1⟩ : ∃ z, z = mj_row I' 0 (va_up (I' 0) 5 (nI 1)) := ⟨_, rfl⟩
    refine mjT_pfb (I' := V1) rfl (pc' := 120) rfl rfl (by decide) eV1.symm ?_
    refine mjT_ret rfl rfl rfl ?_
    exact hQ' _ (fo_tr hf' ⟨fun a b _ => st_h eV1 b, fun k _ h5 _ _ => st_ne eV1 h5⟩) (st_at eV1) (rm_fr hx (st_h eV1 (by omega)) (st_ne eV1 (by omega)) (st_ne eV1 (by omega)))
  have last0 : ∀ (I' : Nat → Nat → Int32) (x wb : Nat), FrO I0 I' → RdM tp tl I' x → I' 0 5 = nI 0 → I' 0 7 = nI m → I' 0 8 = nI wb → TDm tp tl O0 I' m → (∀ I2, FrO I0 I2 → EndM tp tl O0 I2 (if lcA tp tl (skN tp tl x) = 0 then (m, wb) else (0, skN tp tl x)) → Q (KM, I2, J, GM) none) → mj_To 159 97 [some (.ref 0)] [] (KM, I', J, GM) Q := fun I' x wb hf' hx h5 h7' h8' htd' hQ' => by
    have l1 := m_here (J := J) hx
    have hl2 := lc_le hx.rg (skN tp tl x)
    refine mjT_go 2 (pc' := 99) (L' := [some (.ref 0)]) (st' := [.ref 0, .ref 0]) (w1 := (KM, I', J, GM)) rfl ?_
    refine mjT_gfi (v := nI 0) rfl (Or.inr rfl) (pc' := 102) rfl rfl (show I' 0 5 = nI 0 from h5) ?_
    refine mjT_go 1 (pc' := if ¬ nI 0 = 0 then 112 else 105) (L' := [some (.ref 0)]) (st' := [.ref 0]) (w1 := (KM, I', J, GM)) rfl ?_
    refine mjT_ifF (fun z => z nI_0) ?_
    refine mjT_go 1 (pc' := 106) (L' := [some (.ref 0)]) (st' := [.ref 0, .ref 0]) (w1 := (KM, I', J, GM)) rfl ?_
    refine mjT_call (as := [.ref 0]) (rest := [.ref 0]) rfl rfl rfl rfl rfl ⟨rfl, rfl⟩ (l1) ?_
    rintro _ _ ⟨rfl, I2, rfl, r2, f2⟩
    have ff := fo_tr hf' (fo_z (fz_fn f2))
    refine mjT_go 1 (pc' := if tI (lcA tp tl (skN tp tl x)) < 0 then 116 else 112) (L' := [some (.ref 0)]) (st' := [.ref 0]) (w1 := (KM, I2, J, GM)) rfl ?_
    refine mjT_if (fun h3 => ?_) (fun h3 => ?_)
    · rw [tI_neg (by omega)] at h3
      rw [if_pos h3] at hQ'
      refine mjT_go 1 (pc' := 117) (L' := [some (.ref 0)]) (st' := [.int (nI 0), .ref 0]) (w1 := (KM, I2, J, GM)) rfl ?_
      obtain ⟨V1, eV1⟩ : ∃ z, z = mj_row I2 0 (va_up (I2 0) 5 (nI 0)) := ⟨_, rfl⟩
      refine mjT_pfb (I' := V1) rfl (pc' := 120) rfl rfl (by decide) eV1.symm ?_
      refine mjT_ret rfl rfl rfl ?_
      exact hQ' _ (fo_tr ff ⟨fun a b _ => st_h eV1 b, fun k _ h5 _ _ => st_ne eV1 h5⟩) (Or.inr ⟨fun z => absurd (show m = 0 from z) (by omega), st_at eV1, by rw [st_ne eV1 (by omega), f2.2 7 (by omega)]; exact h7', by rw [st_ne eV1 (by omega), f2.2 8 (by omega)]; exact h8', td_cong htd' (fun a _ => by rw [st_h eV1 (by omega), f2.1 3 (by omega)]), _, rm_fr r2 (st_h eV1 (by omega)) (st_ne eV1 (by omega)) (st_ne eV1 (by omega))⟩)
    · rw [tI_neg (by omega)] at h3
      rw [if_neg h3] at hQ'
      refine mjT_go 2 (pc' := 117) (L' := [some (.ref 0)]) (st' := [.int (nI 1), .ref 0]) (w1 := (KM, I2, J, GM)) rfl ?_
      obtain ⟨V2, eV2⟩ : ∃ z, z = mj_row I2 0 (va_up (I2 0) 5 (nI 1)) := ⟨_, rfl⟩
      refine mjT_pfb (I' := V2) rfl (pc' := 120) rfl rfl (by decide) eV2.symm ?_
      refine mjT_ret rfl rfl rfl ?_
      exact hQ' _ (fo_tr ff ⟨fun a b _ => st_h eV2 b, fun k _ h5 _ _ => st_ne eV2 h5⟩) (Or.inl ⟨rfl, st_at eV2, rm_fr r2 (st_h eV2 (by omega)) (st_ne eV2 (by omega)) (st_ne eV2 (by omega)), sk_sk _ _ _⟩)
  rcases hw with hw | ⟨hw, hc45, hpe⟩
  rotate_left
  · rw [if_neg (by omega), if_neg (by omega)] at hQ
    refine mjT_go 1 (pc' := 73) (L' := [some (.ref 0)]) (st' := [.ref 0]) (w1 := (KM, I, J, GM)) rfl ?_
    refine mjT_gfi (v := nI 1) rfl (Or.inr rfl) (pc' := 76) rfl rfl (show I 0 5 = nI 1 from hw) ?_
    refine mjT_go 1 (pc' := if ¬ nI 1 = 0 then 97 else 79) (L' := [some (.ref 0)]) (st' := []) (w1 := (KM, I, J, GM)) rfl ?_
    refine mjT_ifT (by decide) ?_
    exact last1 _ pos hf h (by rw [hp]; exact hpe.symm) hw (fun I2 hf2 h52 hr2 => hQ I2 hf2 (Or.inl ⟨rfl, h52, by rw [← hpe]; exact hr2, sk_sk _ _ _⟩))
  have l1 := m_here (J := J) h
  rw [hp] at l1
  refine mjT_go 1 (pc' := 73) (L' := [some (.ref 0)]) (st' := [.ref 0]) (w1 := (KM, I, J, GM)) rfl ?_
  refine mjT_gfi (v := nI 0) rfl (Or.inr rfl) (pc' := 76) rfl rfl (show I 0 5 = nI 0 from hw) ?_
  refine mjT_go 1 (pc' := if ¬ nI 0 = 0 then 97 else 79) (L' := [some (.ref 0)]) (st' := []) (w1 := (KM, I, J, GM)) rfl ?_
  refine mjT_ifF (fun z => z nI_0) ?_
  refine mjT_go 1 (pc' := 80) (L' := [some (.ref 0)]) (st' := [.ref 0]) (w1 := (KM, I, J, GM)) rfl ?_
  refine mjT_call (as := [.ref 0]) (rest := []) rfl rfl rfl rfl rfl ⟨rfl, rfl⟩ (l1) ?_
  rintro _ _ ⟨rfl, I2, rfl, r2, f2⟩
  have ff := fo_tr hf (fo_z (fz_fn f2))
  have w2 : I2 0 5 = nI 0 := (f2.2 5 (by omega)).trans hw
  have m2 : I2 0 7 = nI m := (f2.2 7 (by omega)).trans h7
  have t2 : I2 0 8 = nI 0 := (f2.2 8 (by omega)).trans h8
  have td2 : TDm tp tl O0 I2 m := td_cong htd (fun a _ => by rw [f2.1 3 (by omega)])
  refine mjT_go 2 (pc' := if ¬ tI (lcA tp tl (skN tp tl e)) = nI 59 then 97 else 88) (L' := [some (.ref 0)]) (st' := []) (w1 := (KM, I2, J, GM)) rfl ?_
  refine mjT_if (fun h3 => ?_) (fun h3 => ?_)
  · rw [tI_eq (by omega) (by omega)] at h3
    rw [if_neg h3] at hQ
    exact last0 _ _ 0 ff r2 w2 m2 t2 td2 (fun I3 hf3 he => by rw [sk_sk] at he; exact hQ I3 hf3 he)
  rw [Decidable.not_not, tI_eq (by omega) (by omega)] at h3
  rw [if_pos h3, wx_e] at hQ
  have hlt := lc_pos (tp := tp) (tl := tl) (q := skN tp tl e) (by omega)
  refine mjT_go 2 (pc' := 90) (L' := [some (.ref 0)]) (st' := [.int (nI 1), .ref 0]) (w1 := (KM, I2, J, GM)) rfl ?_
  refine mjT_call (as := [.ref 0, .int (nI 1)]) (rest := []) rfl rfl rfl rfl rfl ⟨rfl, rfl⟩ (m_need r2.ps w2 (by omega) (by omega)) ?_
  rintro _ _ ⟨rfl, I4, rfl, n5, n4, nh, nk⟩
  rw [if_neg (by omega)] at n5 n4
  have r4 : RdM tp tl I4 (skN tp tl e + 1) := rm_at r2 (nh 2 (by omega)) (nk 3 (by omega) (by omega)) n4 hlt
  have rw4 := m_readWeather (J := J) r4 n5 ((nk 8 (by omega) (by omega)).trans t2)
  generalize fstN (sgN tp tl (skN tp tl e + 1)) 31 = W at *
  refine mjT_go 1 (pc' := 94) (L' := [some (.ref 0)]) (st' := [.ref 0]) (w1 := (KM, I4, J, GM)) rfl ?_
  refine mjT_call (as := [.ref 0]) (rest := []) rfl rfl rfl rfl rfl ⟨rfl, rfl⟩ rw4 ?_
  rintro _ _ ⟨rfl, I5, rfl, f5, r5, ⟨x1, x2, x3, x4⟩ | ⟨x1, x3⟩⟩
  · rw [if_neg (fun z => z ⟨x1, x2⟩)] at hQ
    have ff5 := fo_tr ff (fo_tr (fo_z (fz_nd nh nk)) (fo_z f5))
    refine last0 _ _ _ ff5 r5 x3 (by rw [f5.2 7 (by omega) (by omega) (by omega), nk 7 (by omega) (by omega)]; exact m2) x4 (td_cong td2 (fun a _ => by rw [f5.1 3 (by omega), nh 3 (by omega)])) (fun I3 hf3 he => ?_)
    rw [q_q] at he
    rw [if_pos (show lcA tp tl (qN tp tl (skN tp tl e + 1) W) = 0 from x2)] at he
    exact hQ I3 hf3 he
  · rw [if_pos x1] at hQ
    have ff5 := fo_tr ff (fo_tr (fo_z (fz_nd nh nk)) (fo_z f5))
    exact last1 _ _ ff5 r5 (q_q _ _ _ _) x3 (fun I3 hf3 h53 hr3 => hQ I3 hf3 (Or.inl ⟨rfl, h53, hr3, q_q _ _ _ _⟩))
/-- one person behind another -/
theorem m_persons {Q : mjW → Option Value → Prop} (h0 : O0.n = 0) (hQ : ∀ I', FrO I0 I' → EndM tp tl O0 I' (prN tp tl O0 7 0) → Q (KM, I', J, GM) none) : ∀ f m, f + m = 7 → 0 < f → prN tp tl O0 7 0 = prN tp tl O0 f m → ∀ (I : Nat → Nat → Int32), FrO I0 I → I 0 7 = nI (m + 1) → I 0 8 = nI 0 → TDm tp tl O0 I m → ((frP tp tl (psN tp tl O0 m).1 (spN tp tl m (psN tp tl O0 m).2) = 10 ∧ I 0 5 = nI 0 ∧ RdM tp tl I (psN tp tl O0 (m + 1)).2 ∧ TDm tp tl O0 I (m + 1)) ∨ (frP tp tl (psN tp tl O0 m).1 (spN tp tl m (psN tp tl O0 m).2) ≠ 10 ∧ I 0 5 = nI 1 ∧ RdM tp tl I (qN tp tl (spN tp tl m (psN tp tl O0 m).2) (frP tp tl (psN tp tl O0 m).1 (spN tp tl m (psN tp tl O0 m).2))))) → mj_To 159 24 [some (.ref 0)] [] (KM, I, J, GM) Q := by
  intro f
  induction f with
  | zero => intro m _ hf; exact absurd hf (by omega)
  | succ f ih =>
    intro m hfm _ heq I hf h7 h8 htd hor
    have epr := prN_s tp tl O0 f m
    rcases hor with ⟨h10, h5, hr, htd2⟩ | ⟨hne, h5, hr⟩
    rotate_left
    · rw [if_neg hne] at epr
      rw [heq, epr] at hQ
      have hqq := q_q tp tl (spN tp tl m (psN tp tl O0 m).2) (frP tp tl (psN tp tl O0 m).1 (spN tp tl m (psN tp tl O0 m).2))
      generalize qN tp tl (spN tp tl m (psN tp tl O0 m).2) (frP tp tl (psN tp tl O0 m).1 (spN tp tl m (psN tp tl O0 m).2)) = q at *
      refine mjT_go 1 (pc' := 25) (L' := [some (.ref 0)]) (st' := [.ref 0]) (w1 := (KM, I, J, GM)) rfl ?_
      refine mjT_gfi (v := nI 1) rfl (Or.inr rfl) (pc' := 28) rfl rfl (show I 0 5 = nI 1 from h5) ?_
      refine mjT_go 1 (pc' := if ¬ nI 1 = 0 then 72 else 31) (L' := [some (.ref 0)]) (st' := []) (w1 := (KM, I, J, GM)) rfl ?_
      refine mjT_ifT (by decide) ?_
      refine mjT_go 1 (pc' := 73) (L' := [some (.ref 0)]) (st' := [.ref 0]) (w1 := (KM, I, J, GM)) rfl ?_
      refine mjT_gfi (v := nI 1) rfl (Or.inr rfl) (pc' := 76) rfl rfl (show I 0 5 = nI 1 from h5) ?_
      refine mjT_go 1 (pc' := if ¬ nI 1 = 0 then 97 else 79) (L' := [some (.ref 0)]) (st' := []) (w1 := (KM, I, J, GM)) rfl ?_
      refine mjT_ifT (by decide) ?_
      refine mjT_go 2 (pc' := 99) (L' := [some (.ref 0)]) (st' := [.ref 0, .ref 0]) (w1 := (KM, I, J, GM)) rfl ?_
      refine mjT_gfi (v := nI 1) rfl (Or.inr rfl) (pc' := 102) rfl rfl (show I 0 5 = nI 1 from h5) ?_
      refine mjT_go 1 (pc' := if ¬ nI 1 = 0 then 112 else 105) (L' := [some (.ref 0)]) (st' := [.ref 0]) (w1 := (KM, I, J, GM)) rfl ?_
      refine mjT_ifT (by decide) ?_
      refine mjT_go 2 (pc' := 117) (L' := [some (.ref 0)]) (st' := [.int (nI 1), .ref 0]) (w1 := (KM, I, J, GM)) rfl ?_
      obtain ⟨V1, eV1⟩ : ∃ z, z = mj_row I 0 (va_up (I 0) 5 (nI 1)) := ⟨_, rfl⟩
      refine mjT_pfb (I' := V1) rfl (pc' := 120) rfl rfl (by decide) eV1.symm ?_
      refine mjT_ret rfl rfl rfl ?_
      exact hQ _ (fo_tr hf ⟨fun a b _ => st_h eV1 b, fun k _ h5 _ _ => st_ne eV1 h5⟩) (Or.inl ⟨rfl, st_at eV1, rm_fr hr (st_h eV1 (by omega)) (st_ne eV1 (by omega)) (st_ne eV1 (by omega)), hqq⟩)
    rw [if_pos h10] at epr
    have l1 := m_here (J := J) hr
    have hlc := lc_le hr.rg (skN tp tl (psN tp tl O0 (m + 1)).2)
    obtain ⟨pc1, pc2⟩ := ps_chair (tp := tp) (tl := tl) h0 (m + 1)
    refine mjT_go 1 (pc' := 25) (L' := [some (.ref 0)]) (st' := [.ref 0]) (w1 := (KM, I, J, GM)) rfl ?_
    refine mjT_gfi (v := nI 0) rfl (Or.inr rfl) (pc' := 28) rfl rfl (show I 0 5 = nI 0 from h5) ?_
    refine mjT_go 1 (pc' := if ¬ nI 0 = 0 then 72 else 31) (L' := [some (.ref 0)]) (st' := []) (w1 := (KM, I, J, GM)) rfl ?_
    refine mjT_ifF (fun z => z nI_0) ?_
    refine mjT_go 1 (pc' := 32) (L' := [some (.ref 0)]) (st' := [.ref 0]) (w1 := (KM, I, J, GM)) rfl ?_
    refine mjT_call (as := [.ref 0]) (rest := []) rfl rfl rfl rfl rfl ⟨rfl, rfl⟩ (l1) ?_
    rintro _ _ ⟨rfl, I2, rfl, r2, f2⟩
    have ff := fo_tr hf (fo_z (fz_fn f2))
    have w2 : I2 0 5 = nI 0 := (f2.2 5 (by omega)).trans h5
    have m2 : I2 0 7 = nI (m + 1) := (f2.2 7 (by omega)).trans h7
    have t2 : I2 0 8 = nI 0 := (f2.2 8 (by omega)).trans h8
    have td2 : TDm tp tl O0 I2 (m + 1) := td_cong htd2 (fun a _ => by rw [f2.1 3 (by omega)])
    refine mjT_go 2 (pc' := if ¬ tI (lcA tp tl (skN tp tl (psN tp tl O0 (m + 1)).2)) = nI 44 then 72 else 40) (L' := [some (.ref 0)]) (st' := []) (w1 := (KM, I2, J, GM)) rfl ?_
    refine mjT_if (fun h3 => ?_) (fun h3 => ?_)
    · rw [tI_eq (by omega) (by omega)] at h3
      rw [if_neg (fun z => h3 z.1)] at epr
      rw [heq, epr] at hQ
      exact m_tail (e := (psN tp tl O0 (m + 1)).2) (by omega) r2 (sk_sk _ _ _) (Or.inl w2) m2 t2 td2 ff hQ
    rw [Decidable.not_not, tI_eq (by omega) (by omega)] at h3
    have hlt := lc_pos (tp := tp) (tl := tl) (q := skN tp tl (psN tp tl O0 (m + 1)).2) (by omega)
    refine mjT_go 2 (pc' := 42) (L' := [some (.ref 0)]) (st' := [.ref 0, .ref 0]) (w1 := (KM, I2, J, GM)) rfl ?_
    refine mjT_gfi (v := nI (m + 1)) rfl (Or.inl rfl) (pc' := 45) rfl rfl (show I2 0 7 = nI (m + 1) from m2) ?_
    refine mjT_go 2 (pc' := if nI 7 ≤ nI (m + 1) then 54 else 50) (L' := [some (.ref 0)]) (st' := [.ref 0]) (w1 := (KM, I2, J, GM)) rfl ?_
    refine mjT_if_le (u := 7) (v := m + 1) rfl rfl (by omega) (by omega) (fun h9 => ?_) (fun h9 => ?_)
    · rw [if_neg (fun z => z.2 (by omega))] at epr
      rw [heq, epr] at hQ
      refine mjT_go 1 (pc' := 55) (L' := [some (.ref 0)]) (st' := [.int (nI 0), .ref 0]) (w1 := (KM, I2, J, GM)) rfl ?_
      refine mjT_call (as := [.ref 0, .int (nI 0)]) (rest := []) rfl rfl rfl rfl rfl ⟨rfl, rfl⟩ (m_need r2.ps w2 (by omega) (by omega)) ?_
      rintro _ _ ⟨rfl, I4, rfl, n5, n4, nh, nk⟩
      rw [if_pos (Or.inr rfl)] at n5 n4
      have r4 : RdM tp tl I4 (skN tp tl (psN tp tl O0 (m + 1)).2) := rm_at r2 (nh 2 (by omega)) (nk 3 (by omega) (by omega)) n4 r2.le.2
      refine mjT_go 1 (pc' := 59) (L' := [some (.ref 0)]) (st' := [.ref 0]) (w1 := (KM, I4, J, GM)) rfl ?_
      refine mjT_gfi (v := nI 1) rfl (Or.inr rfl) (pc' := 62) rfl rfl (show I4 0 5 = nI 1 from n5) ?_
      refine mjT_go 1 (pc' := if ¬ nI 1 = 0 then 24 else 65) (L' := [some (.ref 0)]) (st' := []) (w1 := (KM, I4, J, GM)) rfl ?_
      refine mjT_ifT (by decide) ?_
      refine mjT_go 1 (pc' := 25) (L' := [some (.ref 0)]) (st' := [.ref 0]) (w1 := (KM, I4, J, GM)) rfl ?_
      refine mjT_gfi (v := nI 1) rfl (Or.inr rfl) (pc' := 28) rfl rfl (show I4 0 5 = nI 1 from n5) ?_
      refine mjT_go 1 (pc' := if ¬ nI 1 = 0 then 72 else 31) (L' := [some (.ref 0)]) (st' := []) (w1 := (KM, I4, J, GM)) rfl ?_
      refine mjT_ifT (by decide) ?_
      exact m_tail (e := (psN tp tl O0 (m + 1)).2) (by omega) r4 (sk_sk _ _ _) (Or.inr ⟨n5, h3, rfl⟩) ((nk 7 (by omega) (by omega)).trans m2) ((nk 8 (by omega) (by omega)).trans t2) (td_cong td2 (fun a _ => by rw [nh 3 (by omega)])) (fo_tr ff (fo_z (fz_nd nh nk))) hQ
    have hf0 : f ≠ 0 := by omega
    rw [if_pos ⟨h3, hf0⟩] at epr
    have esp : spN tp tl (m + 1) (psN tp tl O0 (m + 1)).2 = skN tp tl (psN tp tl O0 (m + 1)).2 + 1 := if_neg (by omega)
    refine mjT_go 2 (pc' := 55) (L' := [some (.ref 0)]) (st' := [.int (nI 1), .ref 0]) (w1 := (KM, I2, J, GM)) rfl ?_
    refine mjT_call (as := [.ref 0, .int (nI 1)]) (rest := []) rfl rfl rfl rfl rfl ⟨rfl, rfl⟩ (m_need r2.ps w2 (by omega) (by omega)) ?_
    rintro _ _ ⟨rfl, I4, rfl, n5, n4, nh, nk⟩
    rw [if_neg (by omega)] at n5 n4
    have r4 : RdM tp tl I4 (spN tp tl (m + 1) (psN tp tl O0 (m + 1)).2) := by rw [esp]; exact rm_at r2 (nh 2 (by omega)) (nk 3 (by omega) (by omega)) n4 hlt
    have m4 : I4 0 7 = nI (m + 1) := (nk 7 (by omega) (by omega)).trans m2
    have t4 : I4 0 8 = nI 0 := (nk 8 (by omega) (by omega)).trans t2
    have td4 : TDm tp tl O0 I4 (m + 1) := td_cong td2 (fun a _ => by rw [nh 3 (by omega)])
    have ff4 := fo_tr ff (fo_z (fz_nd nh nk))
    have cb : ∀ j, j < m + 1 → (psN tp tl O0 (m + 1)).1.chair j < 8 := fun j hj => by
      rw [pc2 j hj]
      have e9 := gd_9 (tp := tp) (tl := tl) (p := spN tp tl j (psN tp tl O0 j).2) (E := (psN tp tl O0 j).1)
      have dl := dg_le (tkN tp tl (spN tp tl j (psN tp tl O0 j).2) 9) 7
      show gdN tp tl (psN tp tl O0 j).1 (spN tp tl j (psN tp tl O0 j).2) 9 - 1 < 8
      rw [e9]
      split <;> omega
    have rp := m_readPerson (J := J) (m := m + 1) (E := (psN tp tl O0 (m + 1)).1) (by omega) pc1 r4 n5 m4 (fun j hj => by rw [pc2 j hj]; exact (td4 j hj).2.2.2) cb
    refine mjT_go 1 (pc' := 59) (L' := [some (.ref 0)]) (st' := [.ref 0]) (w1 := (KM, I4, J, GM)) rfl ?_
    refine mjT_gfi (v := nI 0) rfl (Or.inr rfl) (pc' := 62) rfl rfl (show I4 0 5 = nI 0 from n5) ?_
    refine mjT_go 1 (pc' := if ¬ nI 0 = 0 then 24 else 65) (L' := [some (.ref 0)]) (st' := []) (w1 := (KM, I4, J, GM)) rfl ?_
    refine mjT_ifF (fun z => z nI_0) ?_
    refine mjT_go 1 (pc' := 66) (L' := [some (.ref 0)]) (st' := [.ref 0]) (w1 := (KM, I4, J, GM)) rfl ?_
    refine mjT_call (as := [.ref 0]) (rest := []) rfl rfl rfl rfl rfl ⟨rfl, rfl⟩ (rp) ?_
    rintro _ _ ⟨rfl, I5, rfl, f5, m5, hor5⟩
    refine mjT_go 1 (pc' := 24) (L' := [some (.ref 0)]) (st' := []) (w1 := (KM, I5, J, GM)) rfl ?_
    have td5 : TDm tp tl O0 I5 (m + 1) := td_cong td4 (fun a ha => f5.2.2 a ha)
    refine ih (m + 1) (by omega) (by omega) (heq.trans epr) I5 (fo_tr ff4 (fo_q f5)) m5 ((f5.2.1 8 (by omega) (by omega) (by omega)).trans t4) td5 ?_
    rcases hor5 with ⟨y1, y2, y3, y4, y5, y6, y7⟩ | ⟨y1, y2, y3⟩
    · refine Or.inl ⟨y1, y2, y3, fun j hj => ?_⟩
      by_cases e : j = m + 1
      · rw [e]; exact ⟨y4, y5, y6, y7⟩
      · exact td5 j (by omega)
    · exact Or.inr ⟨y1, y2, y3⟩
theorem m_readOffice (h0 : O0.n = 0) (hlen : I 0 3 = nI tl) (hlt : ∀ j, j < tl → I 2 j = nI (tp j)) (hrg : ∀ j, j < tl → 32 ≤ tp j ∧ tp j ≤ 126) (htl : tl ≤ 130) : mj_E 159 [.ref 0] (KM, I, J, GM) (fun w' r => r = none ∧ ∃ I', w' = (KM, I', J, GM) ∧ FrO I I' ∧ EndM tp tl O0 I' (prN tp tl O0 7 0)) := by
  refine mjT_go 2 (pc' := 2) (L' := [some (.ref 0)]) (st' := [.int (nI 0), .ref 0]) (w1 := (KM, I, J, GM)) rfl ?_
  obtain ⟨V1, eV1⟩ : ∃ z, z = mj_row I 0 (va_up (I 0) 4 (nI 0)) := ⟨_, rfl⟩
  refine mjT_pfi (I' := V1) rfl (pc' := 5) rfl rfl eV1.symm ?_
  refine mjT_go 2 (pc' := 7) (L' := [some (.ref 0)]) (st' := [.int (nI 0), .ref 0]) (w1 := (KM, V1, J, GM)) rfl ?_
  obtain ⟨V2, eV2⟩ : ∃ z, z = mj_row V1 0 (va_up (V1 0) 5 (nI 0)) := ⟨_, rfl⟩
  refine mjT_pfb (I' := V2) rfl (pc' := 10) rfl rfl (by decide) eV2.symm ?_
  refine mjT_go 2 (pc' := 12) (L' := [some (.ref 0)]) (st' := [.int (nI 0), .ref 0]) (w1 := (KM, V2, J, GM)) rfl ?_
  obtain ⟨V3, eV3⟩ : ∃ z, z = mj_row V2 0 (va_up (V2 0) 7 (nI 0)) := ⟨_, rfl⟩
  refine mjT_pfi (I' := V3) rfl (pc' := 15) rfl rfl eV3.symm ?_
  refine mjT_go 2 (pc' := 17) (L' := [some (.ref 0)]) (st' := [.int (nI 0), .ref 0]) (w1 := (KM, V3, J, GM)) rfl ?_
  obtain ⟨V4, eV4⟩ : ∃ z, z = mj_row V3 0 (va_up (V3 0) 8 (nI 0)) := ⟨_, rfl⟩
  refine mjT_pfi (I' := V4) rfl (pc' := 20) rfl rfl eV4.symm ?_
  have hr : RdM tp tl V4 0 := ⟨by rw [st_ne eV4 (by omega), st_ne eV3 (by omega), st_ne eV2 (by omega), st_ne eV1 (by omega)]; exact hlen, by rw [st_ne eV4 (by omega), st_ne eV3 (by omega), st_ne eV2 (by omega)]; exact st_at eV1, fun j hj => by rw [st_h eV4 (by omega), st_h eV3 (by omega), st_h eV2 (by omega), st_h eV1 (by omega)]; exact hlt j hj, hrg, htl, Nat.zero_le _⟩
  have fo : FrO I V4 := ⟨fun h a _ => by rw [st_h eV4 a, st_h eV3 a, st_h eV2 a, st_h eV1 a], fun k a b c d => by rw [st_ne eV4 d, st_ne eV3 c, st_ne eV2 b, st_ne eV1 a]⟩
  have w4 : V4 0 5 = nI 0 := by rw [st_ne eV4 (by omega), st_ne eV3 (by omega)]; exact st_at eV2
  have m4 : V4 0 7 = nI 0 := by rw [st_ne eV4 (by omega)]; exact st_at eV3
  have rp := m_readPerson (J := J) (m := 0) (E := (psN tp tl O0 0).1) (by omega) h0 hr w4 m4 (fun j hj => absurd hj (by omega)) (fun j hj => absurd hj (by omega))
  refine mjT_go 1 (pc' := 21) (L' := [some (.ref 0)]) (st' := [.ref 0]) (w1 := (KM, V4, J, GM)) rfl ?_
  refine mjT_call (as := [.ref 0]) (rest := []) rfl rfl rfl rfl rfl ⟨rfl, rfl⟩ (rp) ?_
  rintro _ _ ⟨rfl, I5, rfl, f5, m5, hor5⟩
  refine m_persons (I0 := I) h0 (fun I' hf he => ⟨rfl, I', rfl, hf, he⟩) 7 0 rfl (by omega) rfl I5 (fo_tr fo (fo_q f5)) m5 ((f5.2.1 8 (by omega) (by omega) (by omega)).trans (st_at eV4)) (fun j hj => absurd hj (by omega)) ?_
  rcases hor5 with ⟨y1, y2, y3, y4, y5, y6, y7⟩ | ⟨y1, y2, y3⟩
  · refine Or.inl ⟨y1, y2, y3, fun j hj => ?_⟩
    obtain rfl : j = 0 := by omega
    exact ⟨y4, y5, y6, y7⟩
  · exact Or.inr ⟨y1, y2, y3⟩
def eD (E : Off) (d w y : Nat) : Off := mkO E.n d w y E.las E.draw E.kind E.str E.chair E.own E.wr E.till
theorem mm_office (hV : VS S) (hM : MW I J S) : mj_E 160 [.ref 0] (KM, I, J, GM) (fun w' r => r = some (.int (aOffice S)) ∧ ∃ I' J', w' = (KM, I', J', GM) ∧ MW I' J' (sOffice S)) := by
  have hok := pr_ok (tp := S.tp) (tl := S.tl) (v_no hV.o) rfl 7 0 rfl (fun _ h => absurd h (by omega))
  have ro := m_readOffice (J := J) (O0 := noO S.o) (tp := S.tp) (tl := S.tl) rfl hM.tl hM.tp hV.tp hV.tl
  unfold aOffice sOffice parS
  generalize prN S.tp S.tl (noO S.o) 7 0 = R at *
  refine mjT_go 1 (pc' := 1) (L' := [some (.ref 0), none, none, none]) (st' := [.ref 0]) (w1 := (KM, I, J, GM)) rfl ?_
  refine mjT_call (as := [.ref 0]) (rest := []) rfl rfl rfl rfl rfl ⟨rfl, rfl⟩ (ro) ?_
  rintro _ _ ⟨rfl, I2, rfl, f2, he2⟩
  have mwf : ∀ (I' : Nat → Nat → Int32), (∀ h, h ≠ 0 → h ≠ 3 → I' h = I h) → (∀ k, k = 1 → I' 0 k = I 0 k) → I' 0 3 = nI 0 → MW I' J (tapS S) := fun I' hh hk h3 => by
    have f1 : I' 1 = I 1 := hh 1 (by omega) (by omega)
    refine ⟨mo_cong hM.o hV.o.n (fun k _ _ => by rw [f1]), pm_cong hM.past hV.kn hV.o.n hV.pa (fun k _ _ => by rw [f1]), (hk 1 rfl).trans hM.im, fun hi => ?_, h3, fun j hj => absurd (show j < 0 from hj) (by omega), ?_, ?_, hM.it⟩
    · obtain ⟨v1, v2, v3, v4⟩ := hV.io hi
      exact ⟨mo_cong (hM.io hi).1 v1.n (fun k _ _ => by rw [f1]), pm_cong (hM.io hi).2 v3 v1.n v4 (fun k _ _ => by rw [f1])⟩
    · rw [hh 6 (by omega) (by omega)]; exact hM.ln
    · rw [hh 7 (by omega) (by omega)]; exact hM.sz
  unfold offA
  rcases he2 with ⟨h0, h5, r2, hs⟩ | ⟨h0, h5, h7, h8, htd, x, r2⟩
  · rw [if_pos h0, if_pos h0]
    have l2 := m_here (J := J) r2
    rw [hs] at l2
    refine mjT_go 1 (pc' := 5) (L' := [some (.ref 0), none, none, none]) (st' := [.ref 0]) (w1 := (KM, I2, J, GM)) rfl ?_
    refine mjT_call (as := [.ref 0]) (rest := []) rfl rfl rfl rfl rfl ⟨rfl, rfl⟩ (l2) ?_
    rintro _ _ ⟨rfl, I3, rfl, r3, f3⟩
    refine mjT_go 2 (pc' := 10) (L' := [some (.ref 0), some (.int (tI (lcA S.tp S.tl R.2))), none, none]) (st' := [.ref 0]) (w1 := (KM, I3, J, GM)) rfl ?_
    refine mjT_gfi (v := nI R.2) rfl (Or.inl rfl) (pc' := 13) rfl rfl (show I3 0 4 = nI R.2 from r3.ps) ?_
    refine mjT_go 3 (pc' := 16) (L' := [some (.ref 0), some (.int (tI (lcA S.tp S.tl R.2))), some (.int (nI R.2)), none]) (st' := [.int (nI 0), .ref 0]) (w1 := (KM, I3, J, GM)) rfl ?_
    obtain ⟨V1, eV1⟩ : ∃ z, z = mj_row I3 0 (va_up (I3 0) 3 (nI 0)) := ⟨_, rfl⟩
    refine mjT_pfi (I' := V1) rfl (pc' := 19) rfl rfl eV1.symm ?_
    refine mjT_go 1 (pc' := 20) (L' := [some (.ref 0), some (.int (tI (lcA S.tp S.tl R.2))), some (.int (nI R.2)), none]) (st' := [.ref 0]) (w1 := (KM, V1, J, GM)) rfl ?_
    refine mjT_gfi (v := nI 1) rfl (Or.inr rfl) (pc' := 23) rfl rfl (show V1 0 5 = nI 1 from ((st_ne eV1 (by omega)).trans ((f3.2 5 (by omega)).trans h5))) ?_
    refine mjT_go 1 (pc' := if nI 1 = 0 then 31 else 26) (L' := [some (.ref 0), some (.int (tI (lcA S.tp S.tl R.2))), some (.int (nI R.2)), none]) (st' := []) (w1 := (KM, V1, J, GM)) rfl ?_
    refine mjT_ifF (by decide) ?_
    refine mjT_go 3 (pc' := 30) (L' := [some (.ref 0), some (.int (tI (lcA S.tp S.tl R.2))), some (.int (nI R.2)), none]) (st' := [.int ((-20) - (nI R.2))]) (w1 := (KM, V1, J, GM)) rfl ?_
    refine mjT_ret rfl rfl rfl ?_
    exact ⟨rfl, _, _, rfl, mwf _ (fun h a b => by rw [st_h eV1 a, f3.1 h a, f2.1 h a b]) (fun k hk => by rw [st_ne eV1 (by omega), f3.2 k (by omega), f2.2 k (by omega) (by omega) (by omega) (by omega)]) (st_at eV1)⟩
  rw [if_neg h0, if_neg h0]
  obtain ⟨r7, r30, v1, v2⟩ := hok h0
  have l2 := m_here (J := J) r2
  obtain ⟨mm, hmm⟩ : ∃ mm, R.1 = mm := ⟨_, rfl⟩
  obtain ⟨wb, hwb⟩ : ∃ wb, R.2 = wb := ⟨_, rfl⟩
  rw [hmm] at h0 h7 htd r7 v1 v2 ⊢
  rw [hwb] at h8 r30
  have hcal := lc_le r2.rg (skN S.tp S.tl x)
  refine mjT_go 1 (pc' := 5) (L' := [some (.ref 0), none, none, none]) (st' := [.ref 0]) (w1 := (KM, I2, J, GM)) rfl ?_
  refine mjT_call (as := [.ref 0]) (rest := []) rfl rfl rfl rfl rfl ⟨rfl, rfl⟩ (l2) ?_
  rintro _ _ ⟨rfl, I3, rfl, r3, f3⟩
  refine mjT_go 2 (pc' := 10) (L' := [some (.ref 0), some (.int (tI (lcA S.tp S.tl (skN S.tp S.tl x)))), none, none]) (st' := [.ref 0]) (w1 := (KM, I3, J, GM)) rfl ?_
  refine mjT_gfi (v := nI (skN S.tp S.tl x)) rfl (Or.inl rfl) (pc' := 13) rfl rfl (show I3 0 4 = nI (skN S.tp S.tl x) from r3.ps) ?_
  refine mjT_go 3 (pc' := 16) (L' := [some (.ref 0), some (.int (tI (lcA S.tp S.tl (skN S.tp S.tl x)))), some (.int (nI (skN S.tp S.tl x))), none]) (st' := [.int (nI 0), .ref 0]) (w1 := (KM, I3, J, GM)) rfl ?_
  obtain ⟨V2, eV2⟩ : ∃ z, z = mj_row I3 0 (va_up (I3 0) 3 (nI 0)) := ⟨_, rfl⟩
  refine mjT_pfi (I' := V2) rfl (pc' := 19) rfl rfl eV2.symm ?_
  refine mjT_go 1 (pc' := 20) (L' := [some (.ref 0), some (.int (tI (lcA S.tp S.tl (skN S.tp S.tl x)))), some (.int (nI (skN S.tp S.tl x))), none]) (st' := [.ref 0]) (w1 := (KM, V2, J, GM)) rfl ?_
  refine mjT_gfi (v := nI 0) rfl (Or.inr rfl) (pc' := 23) rfl rfl (show V2 0 5 = nI 0 from ((st_ne eV2 (by omega)).trans ((f3.2 5 (by omega)).trans h5))) ?_
  refine mjT_go 1 (pc' := if nI 0 = 0 then 31 else 26) (L' := [some (.ref 0), some (.int (tI (lcA S.tp S.tl (skN S.tp S.tl x)))), some (.int (nI (skN S.tp S.tl x))), none]) (st' := []) (w1 := (KM, V2, J, GM)) rfl ?_
  refine mjT_ifT nI_0 ?_
  refine mjT_go 4 (pc' := 39) (L' := [some (.ref 0), some (.int (tI (lcA S.tp S.tl (skN S.tp S.tl x)))), some (.int (nI (skN S.tp S.tl x))), none]) (st' := [.int (nI 0), .int (nI 147), .ref 1]) (w1 := (KM, V2, J, GM)) rfl ?_
  obtain ⟨V3, eV3⟩ : ∃ z, z = mj_row V2 1 (va_up (V2 1) 147 (nI 0)) := ⟨_, rfl⟩
  refine mjT_ias (I' := V3) 147 1840 rfl (pc' := 40) rfl rfl rfl (by omega) (by omega) eV3.symm ?_
  have g1 : ∀ h, h ≠ 0 → h ≠ 1 → h ≠ 3 → V3 h = I h := fun h a b c => by rw [st_h eV3 b, st_h eV2 a, f3.1 h a, f2.1 h a c]
  have g2 : ∀ a, a ≠ 147 → V3 1 a = I 1 a := fun a ha => by rw [st_ne eV3 ha, st_h eV2 (by omega), f3.1 1 (by omega), f2.1 1 (by omega) (by omega)]
  have g3 : V3 3 = I2 3 := by rw [st_h eV3 (by omega), st_h eV2 (by omega), f3.1 3 (by omega)]
  have g07 : V3 0 7 = nI mm := by rw [st_h eV3 (by omega), st_ne eV2 (by omega), f3.2 7 (by omega)]; exact h7
  have g08 : V3 0 8 = nI wb := by rw [st_h eV3 (by omega), st_ne eV2 (by omega), f3.2 8 (by omega), ← hwb]; rw [hwb]; exact h8
  have g03 : V3 0 3 = nI 0 := by rw [st_h eV3 (by omega)]; exact st_at eV2
  have g01 : V3 0 1 = I 0 1 := by rw [st_h eV3 (by omega), st_ne eV2 (by omega), f3.2 1 (by omega), f2.2 1 (by omega) (by omega) (by omega) (by omega)]
  have hO3 : MO V3 0 (eD (psN S.tp S.tl (noO S.o) 0).1 S.o.day S.o.wet S.o.dry) := ⟨st_at eV3, (g2 _ (by omega)).trans hM.o.day, (g2 _ (by omega)).trans hM.o.wet, (g2 _ (by omega)).trans hM.o.dry, (g2 _ (by omega)).trans hM.o.las, (g2 _ (by omega)).trans hM.o.draw, fun p hp => absurd (show p < 0 from hp) (by omega), fun p hp => absurd (show p < 0 from hp) (by omega), fun p hp => absurd (show p < 0 from hp) (by omega), fun p hp => absurd (show p < 0 from hp) (by omega), fun p hp => absurd (show p < 0 from hp) (by omega), fun p hp => absurd (show p < 0 from hp) (by omega)⟩
  have hdl : ∀ j, j < mm → hdN S.tp S.tl (psN S.tp S.tl (noO S.o) j).1 (spN S.tp S.tl j (psN S.tp S.tl (noO S.o) j).2) ≤ 777777 := fun j hj => by
    refine (dig_fg (d := fun i => gdN S.tp S.tl (psN S.tp S.tl (noO S.o) j).1 (spN S.tp S.tl j (psN S.tp S.tl (noO S.o) j).2) (2 + i) - 1) (fun k hk => ?_)).1
    have h2 := gd_i (tp := S.tp) (tl := S.tl) (p := spN S.tp S.tl j (psN S.tp S.tl (noO S.o) j).2) (E := (psN S.tp S.tl (noO S.o) j).1) hk
    have h3 := dg_le (tkN S.tp S.tl (spN S.tp S.tl j (psN S.tp S.tl (noO S.o) j).2) (2 + k)) 7
    show gdN S.tp S.tl (psN S.tp S.tl (noO S.o) j).1 (spN S.tp S.tl j (psN S.tp S.tl (noO S.o) j).2) (2 + k) - 1 < 8
    omega
  refine mjT_go 2 (pc' := 42) (L' := [some (.ref 0), some (.int (tI (lcA S.tp S.tl (skN S.tp S.tl x)))), some (.int (nI (skN S.tp S.tl x))), some (.int (nI 0))]) (st' := []) (w1 := (KM, V3, J, GM)) rfl ?_
  refine mj_loop (fun k L w => ∃ I', L = [some (.ref 0), some (.int (tI (lcA S.tp S.tl (skN S.tp S.tl x)))), some (.int (nI (skN S.tp S.tl x))), some (.int (nI k))] ∧ w = (KM, I', J, GM) ∧ MO I' 0 (eD (psN S.tp S.tl (noO S.o) k).1 S.o.day S.o.wet S.o.dry) ∧ (∀ h, h ≠ 1 → I' h = V3 h) ∧ (∀ a, 154 ≤ a → I' 1 a = V3 1 a) ∧ (0 < k → I' 1 153 = nI 0)) mm (k0 := 0) (Nat.zero_le _) ?_ ?_ ?_
  · exact ⟨_, rfl, rfl, hO3, fun _ _ => rfl, fun _ _ => rfl, fun h => absurd h (by omega)⟩
  · rintro k _ _ hk ⟨I4, rfl, rfl, hO4, hh4, ha4, _⟩ hc
    obtain ⟨d1, d2, d3, d4⟩ := htd k hk
    obtain ⟨pc1, pc2⟩ := ps_chair (tp := S.tp) (tl := S.tl) (O0 := noO S.o) rfl k
    have e3 : ∀ a, I4 3 a = I2 3 a := fun a => by rw [hh4 3 (by omega), g3]
    have hdk := hdl k hk
    have c1 := m_add (J := J) (kd := tkk S.tp S.tl (noO S.o) k 0) (s := tkk S.tp S.tl (noO S.o) k 1) (c := tkk S.tp S.tl (noO S.o) k 9) (show (eD (psN S.tp S.tl (noO S.o) k).1 S.o.day S.o.wet S.o.dry).n ≤ 7 by show (psN S.tp S.tl (noO S.o) k).1.n ≤ 7; omega) hO4 hdk (show (psN S.tp S.tl (noO S.o) k).1.n ≤ 6 by omega)
    refine mjT_go 2 (pc' := 44) (L' := [some (.ref 0), some (.int (tI (lcA S.tp S.tl (skN S.tp S.tl x)))), some (.int (nI (skN S.tp S.tl x))), some (.int (nI k))]) (st' := [.ref 0, .int (nI k)]) (w1 := (KM, I4, J, GM)) rfl ?_
    refine mjT_gfi (v := nI mm) rfl (Or.inl rfl) (pc' := 47) rfl rfl (show I4 0 7 = nI mm from ((congrFun (hh4 0 (by omega)) 7).trans g07)) ?_
    refine mjT_go 1 (pc' := if nI mm ≤ nI k then 98 else 50) (L' := [some (.ref 0), some (.int (tI (lcA S.tp S.tl (skN S.tp S.tl x)))), some (.int (nI (skN S.tp S.tl x))), some (.int (nI k))]) (st' := []) (w1 := (KM, I4, J, GM)) rfl ?_
    refine mjT_ifF (nI_ge (by omega) (by omega)) ?_
    refine mjT_go 6 (pc' := 58) (L' := [some (.ref 0), some (.int (tI (lcA S.tp S.tl (skN S.tp S.tl x)))), some (.int (nI (skN S.tp S.tl x))), some (.int (nI k))]) (st' := [.int ((nI 4) * (nI k)), .ref 3, .ref 0]) (w1 := (KM, I4, J, GM)) rfl ?_
    refine mjT_ial (v := nI (tkk S.tp S.tl (noO S.o) k 0)) (4 * k) 28 rfl (pc' := 59) rfl rfl (by simp only [nI_add, pk_mul]) (by omega) (by omega) (show I4 3 (4 * k) = nI (tkk S.tp S.tl (noO S.o) k 0) from ((e3 _).trans d1)) ?_
    refine mjT_go 7 (pc' := 68) (L' := [some (.ref 0), some (.int (tI (lcA S.tp S.tl (skN S.tp S.tl x)))), some (.int (nI (skN S.tp S.tl x))), some (.int (nI k))]) (st' := [.int (((nI 4) * (nI k)) + (nI 1)), .ref 3, .int (nI (tkk S.tp S.tl (noO S.o) k 0)), .ref 0]) (w1 := (KM, I4, J, GM)) rfl ?_
    refine mjT_ial (v := nI (tkk S.tp S.tl (noO S.o) k 1)) ((4 * k) + 1) 28 rfl (pc' := 69) rfl rfl (by simp only [nI_add, pk_mul]) (by omega) (by omega) (mo_at (show I4 3 (4 * k + 1) = nI (tkk S.tp S.tl (noO S.o) k 1) from ((e3 _).trans d2)) (by omega) (by omega)) ?_
    refine mjT_go 7 (pc' := 78) (L' := [some (.ref 0), some (.int (tI (lcA S.tp S.tl (skN S.tp S.tl x)))), some (.int (nI (skN S.tp S.tl x))), some (.int (nI k))]) (st' := [.int (((nI 4) * (nI k)) + (nI 2)), .ref 3, .int (nI (tkk S.tp S.tl (noO S.o) k 1)), .int (nI (tkk S.tp S.tl (noO S.o) k 0)), .ref 0]) (w1 := (KM, I4, J, GM)) rfl ?_
    refine mjT_ial (v := nI (hdN S.tp S.tl (psN S.tp S.tl (noO S.o) k).1 (spN S.tp S.tl k (psN S.tp S.tl (noO S.o) k).2))) ((4 * k) + 2) 28 rfl (pc' := 79) rfl rfl (by simp only [nI_add, pk_mul]) (by omega) (by omega) (mo_at (show I4 3 (4 * k + 2) = nI (hdN S.tp S.tl (psN S.tp S.tl (noO S.o) k).1 (spN S.tp S.tl k (psN S.tp S.tl (noO S.o) k).2)) from ((e3 _).trans d3)) (by omega) (by omega)) ?_
    refine mjT_go 7 (pc' := 88) (L' := [some (.ref 0), some (.int (tI (lcA S.tp S.tl (skN S.tp S.tl x)))), some (.int (nI (skN S.tp S.tl x))), some (.int (nI k))]) (st' := [.int (((nI 4) * (nI k)) + (nI 3)), .ref 3, .int (nI (hdN S.tp S.tl (psN S.tp S.tl (noO S.o) k).1 (spN S.tp S.tl k (psN S.tp S.tl (noO S.o) k).2))), .int (nI (tkk S.tp S.tl (noO S.o) k 1)), .int (nI (tkk S.tp S.tl (noO S.o) k 0)), .ref 0]) (w1 := (KM, I4, J, GM)) rfl ?_
    refine mjT_ial (v := nI (tkk S.tp S.tl (noO S.o) k 9)) ((4 * k) + 3) 28 rfl (pc' := 89) rfl rfl (by simp only [nI_add, pk_mul]) (by omega) (by omega) (mo_at (show I4 3 (4 * k + 3) = nI (tkk S.tp S.tl (noO S.o) k 9) from ((e3 _).trans d4)) (by omega) (by omega)) ?_
    refine mjT_call (as := [.ref 0, .int (nI (tkk S.tp S.tl (noO S.o) k 0)), .int (nI (tkk S.tp S.tl (noO S.o) k 1)), .int (nI (hdN S.tp S.tl (psN S.tp S.tl (noO S.o) k).1 (spN S.tp S.tl k (psN S.tp S.tl (noO S.o) k).2))), .int (nI (tkk S.tp S.tl (noO S.o) k 9))]) (rest := []) rfl rfl rfl rfl rfl ⟨rfl, rfl⟩ (c1) ?_
    rintro _ _ ⟨rfl, I5, rfl, hO5, k5, a5, h5'⟩
    refine mjT_go 2 (pc' := 42) (L' := [some (.ref 0), some (.int (tI (lcA S.tp S.tl (skN S.tp S.tl x)))), some (.int (nI (skN S.tp S.tl x))), some (.int ((nI k) + (nI 1)))]) (st' := []) (w1 := (KM, I5, J, GM)) rfl ?_
    rw [nI_add]
    exact hc _ _ ⟨_, rfl, rfl, hO5, fun h hh => (h5' h hh).trans (hh4 h hh), fun a ha => (a5 a ha).trans (ha4 a ha), fun _ => k5⟩
  · rintro _ _ ⟨I4, rfl, rfl, hO4, hh4, ha4, hk4⟩
    obtain ⟨x1, x2, x3, x4, x5⟩ := ps_env (tp := S.tp) (tl := S.tl) (noO S.o) mm
    have hF : VO (psN S.tp S.tl (noO S.o) mm).1 := v1
    unfold offS
    rw [hmm, hwb]
    generalize (psN S.tp S.tl (noO S.o) mm).1 = F at *
    have k4 := hk4 (by omega)
    refine mjT_go 2 (pc' := 44) (L' := [some (.ref 0), some (.int (tI (lcA S.tp S.tl (skN S.tp S.tl x)))), some (.int (nI (skN S.tp S.tl x))), some (.int (nI mm))]) (st' := [.ref 0, .int (nI mm)]) (w1 := (KM, I4, J, GM)) rfl ?_
    refine mjT_gfi (v := nI mm) rfl (Or.inl rfl) (pc' := 47) rfl rfl (show I4 0 7 = nI mm from ((congrFun (hh4 0 (by omega)) 7).trans g07)) ?_
    refine mjT_go 1 (pc' := if nI mm ≤ nI mm then 98 else 50) (L' := [some (.ref 0), some (.int (tI (lcA S.tp S.tl (skN S.tp S.tl x)))), some (.int (nI (skN S.tp S.tl x))), some (.int (nI mm))]) (st' := []) (w1 := (KM, I4, J, GM)) rfl ?_
    refine mjT_ifT (Int32.le_refl _) ?_
    refine mjT_go 4 (pc' := 106) (L' := [some (.ref 0), some (.int (tI (lcA S.tp S.tl (skN S.tp S.tl x)))), some (.int (nI (skN S.tp S.tl x))), some (.int (nI mm))]) (st' := [.ref 0, .int (nI 149), .ref 1]) (w1 := (KM, I4, J, GM)) rfl ?_
    refine mjT_gfi (v := nI wb) rfl (Or.inl rfl) (pc' := 109) rfl rfl (show I4 0 8 = nI wb from ((congrFun (hh4 0 (by omega)) 8).trans g08)) ?_
    obtain ⟨V4, eV4⟩ : ∃ z, z = mj_row I4 1 (va_up (I4 1) 149 (nI wb)) := ⟨_, rfl⟩
    refine mjT_ias (I' := V4) 149 1840 rfl (pc' := 110) rfl rfl rfl (by omega) (by omega) eV4.symm ?_
    refine mjT_go 4 (pc' := 118) (L' := [some (.ref 0), some (.int (tI (lcA S.tp S.tl (skN S.tp S.tl x)))), some (.int (nI (skN S.tp S.tl x))), some (.int (nI mm))]) (st' := [.int (nI 0), .int (nI 148), .ref 1]) (w1 := (KM, V4, J, GM)) rfl ?_
    obtain ⟨V5, eV5⟩ : ∃ z, z = mj_row V4 1 (va_up (V4 1) 148 (nI 0)) := ⟨_, rfl⟩
    refine mjT_ias (I' := V5) 148 1840 rfl (pc' := 119) rfl rfl rfl (by omega) (by omega) eV5.symm ?_
    refine mjT_go 4 (pc' := 127) (L' := [some (.ref 0), some (.int (tI (lcA S.tp S.tl (skN S.tp S.tl x)))), some (.int (nI (skN S.tp S.tl x))), some (.int (nI mm))]) (st' := [.int (nI 0), .int (nI 150), .ref 1]) (w1 := (KM, V5, J, GM)) rfl ?_
    obtain ⟨V6, eV6⟩ : ∃ z, z = mj_row V5 1 (va_up (V5 1) 150 (nI 0)) := ⟨_, rfl⟩
    refine mjT_ias (I' := V6) 150 1840 rfl (pc' := 128) rfl rfl rfl (by omega) (by omega) eV6.symm ?_
    have ff : ∀ a, a ≠ 148 → a ≠ 149 → a ≠ 150 → V6 1 a = I4 1 a := fun a h1 h2 h3 => by rw [st_ne eV6 h3, st_ne eV5 h1, st_ne eV4 h2]
    have fh : ∀ h, h ≠ 1 → V6 h = V3 h := fun h hh => by rw [st_h eV6 hh, st_h eV5 hh, st_h eV4 hh]; exact hh4 h hh
    have hn4 : I4 1 147 = nI mm := by rw [← v2]; exact hO4.n
    have n6 : V6 1 147 = nI mm := (ff _ (by omega) (by omega) (by omega)).trans hn4
    refine mjT_go 3 (pc' := 135) (L' := [some (.ref 0), some (.int (tI (lcA S.tp S.tl (skN S.tp S.tl x)))), some (.int (nI (skN S.tp S.tl x))), some (.int (nI mm))]) (st' := [.int (nI 147), .ref 1]) (w1 := (KM, V6, J, GM)) rfl ?_
    refine mjT_ial (v := nI mm) 147 1840 rfl (pc' := 136) rfl rfl rfl (by omega) (by omega) (show V6 1 147 = nI mm from n6) ?_
    refine mjT_ret rfl rfl rfl ?_
    have hOF : MO V6 0 (wetO F wb) := by
      refine ⟨(ff _ (by omega) (by omega) (by omega)).trans hO4.n, ?_, ?_, ?_, (ff _ (by omega) (by omega) (by omega)).trans hO4.las, (ff _ (by omega) (by omega) (by omega)).trans hO4.draw, fun p (hp : p < F.n) => (ff _ (by omega) (by omega) (by omega)).trans (hO4.kind p hp), fun p (hp : p < F.n) => (ff _ (by omega) (by omega) (by omega)).trans (hO4.str p hp), fun p (hp : p < F.n) => (ff _ (by omega) (by omega) (by omega)).trans (hO4.chair p hp), fun p (hp : p < F.n) k hk => (ff _ (by omega) (by omega) (by omega)).trans (hO4.own p hp k hk), fun p (hp : p < F.n) k hk => (ff _ (by omega) (by omega) (by omega)).trans (hO4.wr p hp k hk), fun p (hp : p < F.n) k hk => (ff _ (by omega) (by omega) (by omega)).trans (hO4.till p hp k hk)⟩
      · show V6 1 (0 + 148) = nI F.day
        rw [x3, st_ne eV6 (by omega)]; exact st_at eV5
      · show V6 1 (0 + 149) = nI wb
        rw [st_ne eV6 (by omega), st_ne eV5 (by omega)]; exact st_at eV4
      · show V6 1 (0 + 150) = nI F.dry
        rw [x4]; exact st_at eV6
    have up : ∀ a, 154 ≤ a → V6 1 a = I 1 a := fun a ha => by rw [ff a (by omega) (by omega) (by omega), ha4 a ha, g2 a (by omega)]
    refine ⟨rfl, _, _, rfl, hOF, ⟨(ff _ (by omega) (by omega) (by omega)).trans k4, fun j hj => absurd (show j < 0 from hj) (by omega)⟩, by rw [fh 0 (by omega)]; exact g01.trans hM.im, fun hi => ?_, by rw [fh 0 (by omega)]; exact g03, fun j hj => absurd (show j < 0 from hj) (by omega), ?_, ?_, hM.it⟩
    · obtain ⟨y1, y2, y3, y4⟩ := hV.io hi
      exact ⟨mo_cong (hM.io hi).1 y1.n (fun k a b => up k (by omega)), pm_cong (hM.io hi).2 y3 y1.n y4 (fun k a b => up k (by omega))⟩
    · rw [fh 6 (by omega), g1 6 (by omega) (by omega) (by omega)]; exact hM.ln
    · rw [fh 7 (by omega), g1 7 (by omega) (by omega) (by omega)]; exact hM.sz
theorem sim_office : SimO 81 160 [] := fun S _ _ _ _ hV hC hM => ⟨_, _, vs_office hV, cc_office hV hC, mm_office hV hM⟩
end MW2
