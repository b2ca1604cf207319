/-! the class's office -/
theorem q_q (tp : Nat → Nat) (tl p : Nat) (i : Nat) : skN tp tl (qN tp tl p i) = qN tp tl p i := by rw [← rw_q, sk_sk]
theorem sg_1 {tp : Nat → Nat} {tl p i : Nat} (h : sgN tp tl p i ≠ 0) : i < 30 ∧ (tkN tp tl p i = 47 ∨ tkN tp tl p i = 115) := by
  unfold sgN at h
  by_cases q : i < 30 ∧ (tkN tp tl p i = 47 ∨ tkN tp tl p i = 115)
  · exact q
  · rw [if_neg q] at h; exact absurd rfl h
theorem sg_0 {tp : Nat → Nat} {tl p i : Nat} (h : sgN tp tl p i = 0) : ¬ (i < 30 ∧ (tkN tp tl p i = 47 ∨ tkN tp tl p i = 115)) := fun q => by
  unfold sgN at h
  rw [if_pos q] at h; exact absurd h (by omega)
theorem sg_30 (tp : Nat → Nat) (tl p : Nat) : sgN tp tl p 30 = 0 := if_neg (fun q => absurd q.1 (by omega))
theorem sg_W (tp : Nat → Nat) (tl p : Nat) : fstN (sgN tp tl p) 31 ≤ 30 ∧ sgN tp tl p (fstN (sgN tp tl p) 31) = 0 ∧ ∀ j, j < fstN (sgN tp tl p) 31 → sgN tp tl p j ≠ 0 := by
  have h := fst_lt (sg_30 tp tl p) (N := 31) (by omega)
  obtain ⟨h1, h2⟩ := fst_hit h
  exact ⟨by omega, h1, h2⟩
theorem wb_lt (tp : Nat → Nat) (tl p : Nat) : ∀ i, wbN tp tl p i < 2 ^ i
  | 0 => Nat.one_pos
  | k + 1 => by
    have h1 := wb_lt tp tl p k
    have h2 := eqB_lt (tkN tp tl p k) 115
    unfold wbN
    refine Nat.or_lt_two_pow (Nat.lt_of_lt_of_le h1 (Nat.pow_le_pow_right (by omega) (by omega))) ?_
    rw [Nat.pow_succ]
    have : 0 < 2 ^ k := Nat.two_pow_pos k
    obtain e | e : eqB (tkN tp tl p k) 115 = 0 ∨ eqB (tkN tp tl p k) 115 = 1 := by omega
    · rw [e, Nat.zero_mul]; omega
    · rw [e, Nat.one_mul]; omega
section PV
variable {tp : Nat → Nat} {tl : Nat} {O0 : Off}
theorem fr_all {E : Off} {p : Nat} (h : frP tp tl E p = 10) : ∀ j, j < 10 → gdN tp tl E p j ≠ 0 := fst_iff.mp h
theorem v_ps (hV : VO O0) (h0 : O0.n = 0) : ∀ m, m ≤ 7 → (∀ j, j < m → frP tp tl (psN tp tl O0 j).1 (spN tp tl j (psN tp tl O0 j).2) = 10) → VO (psN tp tl O0 m).1 ∧ (psN tp tl O0 m).1.n = m
  | 0, _, _ => ⟨hV, h0⟩
  | m + 1, hm, h => by
    obtain ⟨h1, h2⟩ := v_ps hV h0 m (by omega) (fun j hj => h j (by omega))
    exact ⟨v_adP h1 (by omega) (fr_all (h m (by omega))), by show (psN tp tl O0 m).1.n + 1 = m + 1; rw [h2]⟩
theorem wx_or {p W m : Nat} (hW : W ≤ 30) : (wxN tp tl p W m).1 = 0 ∨ ((wxN tp tl p W m).1 = m ∧ (wxN tp tl p W m).2 < 2 ^ 30) := by
  have hb := wb_lt tp tl p W
  have hp : 2 ^ W ≤ 2 ^ 30 := Nat.pow_le_pow_right (by omega) hW
  unfold wxN
  by_cases h2 : W = 0
  · rw [if_pos h2]; exact Or.inl rfl
  · rw [if_neg h2]
    by_cases h3 : tkN tp tl p W = 0
    · rw [if_pos h3]
      refine Or.inr ⟨rfl, ?_⟩
      show wbN tp tl p W < 2 ^ 30
      exact Nat.lt_of_lt_of_le hb hp
    · rw [if_neg h3]; exact Or.inl rfl
theorem tl_or (m e : Nat) : (tlN tp tl m e).1 = 0 ∨ ((tlN tp tl m e).1 = m ∧ (tlN tp tl m e).2 < 2 ^ 30) := by
  have hw := wx_or (tp := tp) (tl := tl) (p := skN tp tl e + 1) (m := m) (sg_W tp tl (skN tp tl e + 1)).1
  unfold tlN
  by_cases h1 : lcA tp tl (skN tp tl e) = 60
  · rw [if_pos h1]; exact hw
  · rw [if_neg h1]
    by_cases h2 : lcA tp tl (skN tp tl e) = 0
    · rw [if_pos h2]; exact Or.inr ⟨rfl, by show (0 : Nat) < 2 ^ 30; omega⟩
    · rw [if_neg h2]; exact Or.inl rfl
theorem pr_ok (hV : VO O0) (h0 : O0.n = 0) : ∀ f m, f + m = 7 → (∀ j, j < m → frP tp tl (psN tp tl O0 j).1 (spN tp tl j (psN tp tl O0 j).2) = 10) → (prN tp tl O0 f m).1 ≠ 0 → (prN tp tl O0 f m).1 ≤ 7 ∧ (prN tp tl O0 f m).2 < 2 ^ 30 ∧ VO (psN tp tl O0 (prN tp tl O0 f m).1).1 ∧ (psN tp tl O0 (prN tp tl O0 f m).1).1.n = (prN tp tl O0 f m).1 := by
  intro f
  induction f with
  | zero =>
    intro m hfm hall hne
    rw [prN_0] at hne ⊢
    obtain ⟨v1, v2⟩ := v_ps hV h0 m (by omega) hall
    have ho := tl_or (tp := tp) (tl := tl) m (psN tp tl O0 m).2
    generalize tlN tp tl m (psN tp tl O0 m).2 = R at *
    rcases ho with h | ⟨h1, h2⟩
    · exact absurd h hne
    · rw [h1]
      exact ⟨by omega, h2, v1, v2⟩
  | succ f ih =>
    intro m hfm hall hne
    rw [prN_s] at hne ⊢
    by_cases h1 : frP tp tl (psN tp tl O0 m).1 (spN tp tl m (psN tp tl O0 m).2) = 10
    · rw [if_pos h1] at hne ⊢
      have hall2 : ∀ j, j < m + 1 → frP tp tl (psN tp tl O0 j).1 (spN tp tl j (psN tp tl O0 j).2) = 10 := fun j hj => by
        by_cases e : j = m
        · rw [e]; exact h1
        · exact hall j (by omega)
      by_cases h2 : lcA tp tl (skN tp tl (psN tp tl O0 (m + 1)).2) = 45 ∧ f ≠ 0
      · rw [if_pos h2] at hne ⊢
        exact ih (m + 1) (by omega) hall2 hne
      · rw [if_neg h2] at hne ⊢
        obtain ⟨v1, v2⟩ := v_ps hV h0 (m + 1) (by omega) hall2
        have ho := tl_or (tp := tp) (tl := tl) (m + 1) (psN tp tl O0 (m + 1)).2
        generalize tlN tp tl (m + 1) (psN tp tl O0 (m + 1)).2 = R at *
        rcases ho with h | ⟨h3, h4⟩
        · exact absurd h hne
        · rw [h3]
          exact ⟨by omega, h4, v1, v2⟩
    · rw [if_neg h1] at hne
      exact absurd rfl hne
end PV
section RW
variable {I I' I0 : Nat → Nat → Int32} {J : Nat → Nat → Int64} {tp : Nat → Nat} {tl pos p la dr : Nat} {O E O0 X : Off} {o : Nat} {P : Nat → Prop} {S : Sta}
theorem c_fault (h : RdC tp tl I pos) : mj_Ev 53 [.ref 86] (KC, I, J, GC) (KC, I, J, GC) (some (.int ((-20) - nI pos))) := by
  refine mj_ev_of ?_
  refine mjT_go 2 (pc' := 3) (L' := [some (.ref 86)]) (st' := [.ref 86, .int (-20)]) (w1 := (KC, I, J, GC)) rfl ?_
  refine mjT_gfi (v := nI pos) rfl (Or.inl rfl) (pc' := 6) rfl rfl (show I 86 2 = nI pos from h.ps) ?_
  refine mjT_go 1 (pc' := 7) (L' := [some (.ref 86)]) (st' := [.int ((-20) - (nI pos))]) (w1 := (KC, I, J, GC)) rfl ?_
  refine mjT_ret rfl rfl rfl ?_
  exact ⟨rfl, rfl⟩
theorem c_readWeather (h : RdC tp tl I p) (hO : RO I 75 X TT) (hX : X.wet = 0) : mj_E 50 [.ref 86, .ref 75] (KC, I, J, GC) (fun w' r => r = some (.int (nI (if fstN (sgN tp tl p) 31 = 0 then 0 else 1))) ∧ ∃ I', w' = (KC, I', J, GC) ∧ FrR I I' ∧ RO I' 75 (wetO X (wbN tp tl p (fstN (sgN tp tl p) 31))) TT ∧ ∃ x, RdC tp tl I' x ∧ skN tp tl x = qN tp tl p (fstN (sgN tp tl p) 31) ∧ (fstN (sgN tp tl p) 31 < 30 → x = qN tp tl p (fstN (sgN tp tl p) 31))) := by
  obtain ⟨hW, hW0, hWj⟩ := sg_W tp tl p
  obtain ⟨W, hWW⟩ : ∃ W, fstN (sgN tp tl p) 31 = W := ⟨_, rfl⟩
  rw [hWW] at hW hW0 hWj ⊢
  have hO0 : RO I 75 (wetO X (wbN tp tl p 0)) TT := by
    have e : wetO X (wbN tp tl p 0) = X := by
      show mkO X.n X.day 0 X.dry X.las X.draw X.kind X.str X.chair X.own X.wr X.till = X
      rw [← hX]; rfl
    rw [e]; exact hO
  refine mjT_gen fun Q hQ => ?_
  have fin : ∀ (I' : Nat → Nat → Int32) (x : Nat), FrR I I' → RO I' 75 (wetO X (wbN tp tl p W)) TT → RdC tp tl I' x → skN tp tl x = qN tp tl p W → (W < 30 → x = qN tp tl p W) → mj_To 50 63 [some (.ref 86), some (.ref 75), some (.int (nI W))] [] (KC, I', J, GC) Q := fun I' x hf hO' hx e1 e2 => by
    refine mjT_go 2 (pc' := if nI W ≤ 0 then 71 else 67) (L' := [some (.ref 86), some (.ref 75), some (.int (nI W))]) (st' := []) (w1 := (KC, I', J, GC)) rfl ?_
    refine mjT_if_le (u := W) (v := 0) rfl nI_0.symm (by omega) (by omega) (fun h3 => ?_) (fun h3 => ?_)
    · refine mjT_go 1 (pc' := 72) (L' := [some (.ref 86), some (.ref 75), some (.int (nI W))]) (st' := [.int (nI 0)]) (w1 := (KC, I', J, GC)) rfl ?_
      refine mjT_retb rfl rfl (by decide) ?_
      exact hQ _ _ ⟨by rw [if_pos (by omega)], _, rfl, hf, hO', x, hx, e1, e2⟩
    · refine mjT_go 2 (pc' := 72) (L' := [some (.ref 86), some (.ref 75), some (.int (nI W))]) (st' := [.int (nI 1)]) (w1 := (KC, I', J, GC)) rfl ?_
      refine mjT_retb rfl rfl (by decide) ?_
      exact hQ _ _ ⟨by rw [if_neg (by omega)], _, rfl, hf, hO', x, hx, e1, e2⟩
  refine mjT_go 2 (pc' := 2) (L' := [some (.ref 86), some (.ref 75), some (.int (nI 0))]) (st' := []) (w1 := (KC, I, J, GC)) rfl ?_
  refine mj_loop (fun k L w => ∃ I', L = [some (.ref 86), some (.ref 75), some (.int (nI k))] ∧ w = (KC, I', J, GC) ∧ FrR I I' ∧ RO I' 75 (wetO X (wbN tp tl p k)) TT ∧ RdC tp tl I' (rwN tp tl p k)) W (k0 := 0) (Nat.zero_le _) ?_ ?_ ?_
  · exact ⟨_, rfl, rfl, ⟨fun _ _ => rfl, fun _ _ => rfl⟩, hO0, h⟩
  · rintro k _ _ hk ⟨I2, rfl, rfl, hf2, hO2, h2⟩ hc
    obtain ⟨s1, s2⟩ := sg_1 (hWj k hk)
    have hlc := lc_le h.rg (qN tp tl p k)
    have hpo := lc_pos (tp := tp) (tl := tl) (q := qN tp tl p k)
    have htk : tkN tp tl p k = lcA tp tl (qN tp tl p k) := rfl
    have l1 := c_letter (J := J) h2
    rw [rw_q, ← htk] at l1
    rw [← htk] at hpo hlc
    have hlt := hpo (by omega)
    have fin2 : ∀ (I3 : Nat → Nat → Int32), FrR I I3 → RO I3 75 (wetO X (wbN tp tl p (k + 1))) TT → RdC tp tl I3 (qN tp tl p k) → mj_To 50 47 [some (.ref 86), some (.ref 75), some (.int (nI k))] [] (KC, I3, J, GC) Q := fun I3 hf3 hO3 h3 => by
      refine mjT_go 2 (pc' := 49) (L' := [some (.ref 86), some (.ref 75), some (.int (nI k))]) (st' := [.ref 86, .ref 86]) (w1 := (KC, I3, J, GC)) rfl ?_
      refine mjT_gfi (v := nI (qN tp tl p k)) rfl (Or.inl rfl) (pc' := 52) rfl rfl (show I3 86 2 = nI (qN tp tl p k) from h3.ps) ?_
      refine mjT_go 2 (pc' := 54) (L' := [some (.ref 86), some (.ref 75), some (.int (nI k))]) (st' := [.int ((nI (qN tp tl p k)) + (nI 1)), .ref 86]) (w1 := (KC, I3, J, GC)) rfl ?_
      obtain ⟨V1, eV1⟩ : ∃ z, z = mj_row I3 86 (va_up (I3 86) 2 ((nI (qN tp tl p k)) + (nI 1))) := ⟨_, rfl⟩
      refine mjT_pfi (I' := V1) rfl (pc' := 57) rfl rfl eV1.symm ?_
      rw [nI_add] at eV1
      refine mjT_go 2 (pc' := 2) (L' := [some (.ref 86), some (.ref 75), some (.int ((nI k) + (nI 1)))]) (st' := []) (w1 := (KC, V1, J, GC)) rfl ?_
      rw [nI_add]
      exact hc _ _ ⟨_, rfl, rfl, frr_tr hf3 (fr_fl (fl_st eV1)), ro_fl hO3 (fl_st eV1), rd_at h3 (fl_st eV1) (st_at eV1) hlt⟩
    have fin1 : ∀ (I3 : Nat → Nat → Int32), FrR I I3 → RO I3 75 (wetO X (wbN tp tl p k)) TT → RdC tp tl I3 (qN tp tl p k) → mj_To 50 26 [some (.ref 86), some (.ref 75), some (.int (nI k))] [] (KC, I3, J, GC) Q := fun I3 hf3 hO3 h3 => by
      have l2 := c_letter (J := J) h3
      rw [q_q, ← htk] at l2
      refine mjT_go 1 (pc' := 27) (L' := [some (.ref 86), some (.ref 75), some (.int (nI k))]) (st' := [.ref 86]) (w1 := (KC, I3, J, GC)) rfl ?_
      refine mjT_call (as := [.ref 86]) (rest := []) rfl rfl rfl rfl rfl ⟨rfl, rfl⟩ (l2) ?_
      rintro _ _ ⟨rfl, I4, rfl, h4, hf4⟩
      have hf5 := frr_tr hf3 (fr_fl hf4)
      have hO4 := ro_fl hO3 hf4
      refine mjT_go 2 (pc' := if ¬ sI (tkN tp tl p k) = nI 114 then 47 else 35) (L' := [some (.ref 86), some (.ref 75), some (.int (nI k))]) (st' := []) (w1 := (KC, I4, J, GC)) rfl ?_
      refine mjT_if (fun h5 => ?_) (fun h5 => ?_)
      · rw [sI_eq (by omega) (by omega)] at h5
        have e : wbN tp tl p (k + 1) = wbN tp tl p k := by
          show wbN tp tl p k ||| eqB (tkN tp tl p k) 115 * 2 ^ k = _
          unfold eqB
          rw [if_neg (by omega), Nat.zero_mul, Nat.or_zero]
        exact fin2 _ hf5 (by rw [e]; exact hO4) h4
      rw [Decidable.not_not, sI_eq (by omega) (by omega)] at h5
      have e : wbN tp tl p (k + 1) = wbN tp tl p k ||| 1 * 2 ^ k := by
        show wbN tp tl p k ||| eqB (tkN tp tl p k) 115 * 2 ^ k = _
        unfold eqB
        rw [if_pos (by omega)]
      have hw := hO4.wet
      refine mjT_go 2 (pc' := 37) (L' := [some (.ref 86), some (.ref 75), some (.int (nI k))]) (st' := [.ref 75, .ref 75]) (w1 := (KC, I4, J, GC)) rfl ?_
      refine mjT_gfi (v := nI (wbN tp tl p k)) rfl (Or.inl rfl) (pc' := 40) rfl rfl (show I4 75 2 = nI (wbN tp tl p k) from hw) ?_
      refine mjT_go 4 (pc' := 44) (L' := [some (.ref 86), some (.ref 75), some (.int (nI k))]) (st' := [.int ((nI (wbN tp tl p k)) ||| ((nI 1) <<< ((nI k) &&& 31))), .ref 75]) (w1 := (KC, I4, J, GC)) rfl ?_
      obtain ⟨V2, eV2⟩ : ∃ z, z = mj_row I4 75 (va_up (I4 75) 2 ((nI (wbN tp tl p k)) ||| ((nI 1) <<< ((nI k) &&& 31)))) := ⟨_, rfl⟩
      refine mjT_pfi (I' := V2) rfl (pc' := 47) rfl rfl eV2.symm ?_
      rw [shb 1 (by omega) k (by omega), nI_or, ← e] at eV2
      exact fin2 _ (frr_tr hf5 (frr_o (fun h hh => st_h eV2 (by omega)))) (show RO V2 75 (wetO X (wbN tp tl p (k + 1))) TT from ro_wet (O := wetO X (wbN tp tl p k)) hO4 eV2) (rd_fr h4 (fun h hh => st_h eV2 (by omega)))
    refine mjT_go 3 (pc' := if nI 30 ≤ nI k then 63 else 8) (L' := [some (.ref 86), some (.ref 75), some (.int (nI k))]) (st' := []) (w1 := (KC, I2, J, GC)) rfl ?_
    refine mjT_ifF (nI_ge (by omega) (by omega)) ?_
    refine mjT_go 1 (pc' := 9) (L' := [some (.ref 86), some (.ref 75), some (.int (nI k))]) (st' := [.ref 86]) (w1 := (KC, I2, J, GC)) rfl ?_
    refine mjT_call (as := [.ref 86]) (rest := []) rfl rfl rfl rfl rfl ⟨rfl, rfl⟩ (l1) ?_
    rintro _ _ ⟨rfl, I3, rfl, h3, hf3⟩
    have hf4 := frr_tr hf2 (fr_fl hf3)
    have hO3 := ro_fl hO2 hf3
    refine mjT_go 2 (pc' := if sI (tkN tp tl p k) = nI 46 then 26 else 17) (L' := [some (.ref 86), some (.ref 75), some (.int (nI k))]) (st' := []) (w1 := (KC, I3, J, GC)) rfl ?_
    refine mjT_if (fun h5 => ?_) (fun h5 => ?_)
    · exact fin1 _ hf4 hO3 h3
    rw [sI_eq (by omega) (by omega)] at h5
    have l3 := c_letter (J := J) h3
    rw [q_q, ← htk] at l3
    refine mjT_go 1 (pc' := 18) (L' := [some (.ref 86), some (.ref 75), some (.int (nI k))]) (st' := [.ref 86]) (w1 := (KC, I3, J, GC)) rfl ?_
    refine mjT_call (as := [.ref 86]) (rest := []) rfl rfl rfl rfl rfl ⟨rfl, rfl⟩ (l3) ?_
    rintro _ _ ⟨rfl, I4, rfl, h4, hf4b⟩
    refine mjT_go 2 (pc' := if ¬ sI (tkN tp tl p k) = nI 114 then 63 else 26) (L' := [some (.ref 86), some (.ref 75), some (.int (nI k))]) (st' := []) (w1 := (KC, I4, J, GC)) rfl ?_
    refine mjT_ifF (fun q => q (by rw [show tkN tp tl p k = 114 + 1 by omega, sI_s])) ?_
    exact fin1 _ (frr_tr hf4 (fr_fl hf4b)) (ro_fl hO3 hf4b) h4
  · rintro _ _ ⟨I2, rfl, rfl, hf2, hO2, h2⟩
    refine mjT_go 3 (pc' := if nI 30 ≤ nI W then 63 else 8) (L' := [some (.ref 86), some (.ref 75), some (.int (nI W))]) (st' := []) (w1 := (KC, I2, J, GC)) rfl ?_
    refine mjT_if_le (u := 30) (v := W) rfl rfl (by omega) (by omega) (fun h3 => ?_) (fun h3 => ?_)
    · exact fin _ _ hf2 hO2 h2 (rw_q _ _ _ _) (fun q => by omega)
    have hno := sg_0 hW0
    have hlc := lc_le h.rg (qN tp tl p W)
    have htk : tkN tp tl p W = lcA tp tl (qN tp tl p W) := rfl
    have l1 := c_letter (J := J) h2
    rw [rw_q, ← htk] at l1
    rw [← htk] at hlc
    refine mjT_go 1 (pc' := 9) (L' := [some (.ref 86), some (.ref 75), some (.int (nI W))]) (st' := [.ref 86]) (w1 := (KC, I2, J, GC)) rfl ?_
    refine mjT_call (as := [.ref 86]) (rest := []) rfl rfl rfl rfl rfl ⟨rfl, rfl⟩ (l1) ?_
    rintro _ _ ⟨rfl, I3, rfl, h3', hf3⟩
    have l3 := c_letter (J := J) h3'
    rw [q_q, ← htk] at l3
    refine mjT_go 2 (pc' := if sI (tkN tp tl p W) = nI 46 then 26 else 17) (L' := [some (.ref 86), some (.ref 75), some (.int (nI W))]) (st' := []) (w1 := (KC, I3, J, GC)) rfl ?_
    refine mjT_ifF (fun z => hno ⟨h3, Or.inl ((sI_eq (by omega) (by omega)).mp z)⟩) ?_
    refine mjT_go 1 (pc' := 18) (L' := [some (.ref 86), some (.ref 75), some (.int (nI W))]) (st' := [.ref 86]) (w1 := (KC, I3, J, GC)) rfl ?_
    refine mjT_call (as := [.ref 86]) (rest := []) rfl rfl rfl rfl rfl ⟨rfl, rfl⟩ (l3) ?_
    rintro _ _ ⟨rfl, I4, rfl, h4, hf4⟩
    refine mjT_go 2 (pc' := if ¬ sI (tkN tp tl p W) = nI 114 then 63 else 26) (L' := [some (.ref 86), some (.ref 75), some (.int (nI W))]) (st' := []) (w1 := (KC, I4, J, GC)) rfl ?_
    refine mjT_ifT (fun z => hno ⟨h3, Or.inr ((sI_eq (by omega) (by omega)).mp z)⟩) ?_
    exact fin _ _ (frr_tr hf2 (fr_fl (fl_tr hf3 hf4))) (ro_fl (ro_fl hO2 hf3) hf4) h4 (q_q _ _ _ _) (fun _ => rfl)
noncomputable def offA (R : Nat × Nat) : Int32 := if R.1 = 0 then (-20) - nI R.2 else nI R.1
theorem off_0 (q : Nat) : offA (0, q) = (-20) - nI q := if_pos rfl
theorem c_tail {m e : Nat} {d : Option Value} {k : Int32} {Q : mjW → Option Value → Prop} (hm : 1 ≤ m ∧ m ≤ 7) (hEn : E.n = m) (hEw : E.wet = 0) (h : RdC tp tl I pos) (hp : skN tp tl pos = skN tp tl e) (hO : RO I 75 (ldO E la dr) TT) (hf : FrR I0 I) (hQ : ∀ I', FrR I0 I' → ((tlN tp tl m e).1 ≠ 0 → RO I' 75 (wetO (ldO E la dr) (tlN tp tl m e).2) TT) → Q (KC, I', J, GC) (some (.int (offA (tlN tp tl m e))))) : mj_To 44 62 [some (.ref 86), some (.ref 75), d, some (.int k)] [] (KC, I, J, GC) Q := by
  have hlc := lc_le h.rg (skN tp tl e)
  have s1 := c_skips (J := J) h (show 59 < 127 by omega)
  have eW : wetO (ldO E la dr) 0 = ldO E la dr := by
    show mkO E.n E.day 0 E.dry la dr E.kind E.str E.chair E.own E.wr E.till = _
    rw [← hEw]; rfl
  unfold nxN at s1
  rw [hp] at s1
  unfold tlN at hQ
  unfold offA at hQ
  have last : ∀ (I' : Nat → Nat → Int32) (x wb : Nat), RdC tp tl I' x → FrR I0 I' → RO I' 75 (wetO (ldO E la dr) wb) TT → (∀ I2, FrR I0 I2 → (lcA tp tl (skN tp tl x) = 0 → RO I2 75 (wetO (ldO E la dr) wb) TT) → Q (KC, I2, J, GC) (some (.int (if lcA tp tl (skN tp tl x) = 0 then nI m else (-20) - nI (skN tp tl x))))) → mj_To 44 84 [some (.ref 86), some (.ref 75), d, some (.int k)] [] (KC, I', J, GC) Q := fun I' x wb hx hf' hO' hQ' => by
    have l1 := c_letter (J := J) hx
    have hl2 := lc_le hx.rg (skN tp tl x)
    refine mjT_go 1 (pc' := 85) (L' := [some (.ref 86), some (.ref 75), d, some (.int k)]) (st' := [.ref 86]) (w1 := (KC, I', J, GC)) rfl ?_
    refine mjT_call (as := [.ref 86]) (rest := []) rfl rfl rfl rfl rfl ⟨rfl, rfl⟩ (l1) ?_
    rintro _ _ ⟨rfl, I2, rfl, h2, hf2⟩
    have hO2 := ro_fl hO' hf2
    have hff := frr_tr hf' (fr_fl hf2)
    refine mjT_go 2 (pc' := if ¬ sI (lcA tp tl (skN tp tl x)) = (-1) then 99 else 92) (L' := [some (.ref 86), some (.ref 75), d, some (.int k)]) (st' := []) (w1 := (KC, I2, J, GC)) rfl ?_
    refine mjT_if (fun h3 => ?_) (fun h3 => ?_)
    · rw [sI_m1 (by omega)] at h3
      refine mjT_go 1 (pc' := 100) (L' := [some (.ref 86), some (.ref 75), d, some (.int k)]) (st' := [.ref 86]) (w1 := (KC, I2, J, GC)) rfl ?_
      refine mjT_callE (as := [.ref 86]) (rest := []) (r1 := some (.int ((-20) - nI (skN tp tl x)))) rfl rfl rfl rfl rfl ⟨rfl, rfl⟩ (c_fault h2) ?_
      refine mjT_ret rfl rfl rfl ?_
      have := hQ' I2 hff (fun z => absurd z h3)
      rw [if_neg h3] at this
      exact this
    · rw [Decidable.not_not, sI_m1 (by omega)] at h3
      have hnn : I2 75 0 = nI m := by rw [← hEn]; exact hO2.n
      refine mjT_go 1 (pc' := 93) (L' := [some (.ref 86), some (.ref 75), d, some (.int k)]) (st' := [.ref 75]) (w1 := (KC, I2, J, GC)) rfl ?_
      refine mjT_gfi (v := nI m) rfl (Or.inl rfl) (pc' := 96) rfl rfl (show I2 75 0 = nI m from hnn) ?_
      refine mjT_go 1 (pc' := 103) (L' := [some (.ref 86), some (.ref 75), d, some (.int k)]) (st' := [.int (nI m)]) (w1 := (KC, I2, J, GC)) rfl ?_
      refine mjT_ret rfl rfl rfl ?_
      have := hQ' I2 hff (fun _ => hO2)
      rw [if_pos h3] at this
      exact this
  refine mjT_go 2 (pc' := 65) (L' := [some (.ref 86), some (.ref 75), d, some (.int k)]) (st' := [.int (nI 59), .ref 86]) (w1 := (KC, I, J, GC)) rfl ?_
  refine mjT_call (as := [.ref 86, .int (nI 59)]) (rest := []) rfl rfl rfl rfl rfl ⟨rfl, rfl⟩ (s1) ?_
  rintro _ _ ⟨rfl, I2, rfl, h2, hf2⟩
  have hO2 := ro_fl hO hf2
  have hff := frr_tr hf (fr_fl hf2)
  unfold eqB at h2 ⊢
  by_cases hsc : lcA tp tl (skN tp tl e) = 60
  · rw [if_pos hsc] at h2 ⊢
    rw [if_pos hsc] at hQ
    rw [if_neg (by omega)] at h2
    have w1 := c_readWeather (J := J) h2 hO2 (show (ldO E la dr).wet = 0 from hEw)
    refine mjT_go 1 (pc' := if nI 1 = 0 then 84 else 71) (L' := [some (.ref 86), some (.ref 75), d, some (.int k)]) (st' := []) (w1 := (KC, I2, J, GC)) rfl ?_
    refine mjT_ifF (by decide) ?_
    refine mjT_go 2 (pc' := 73) (L' := [some (.ref 86), some (.ref 75), d, some (.int k)]) (st' := [.ref 75, .ref 86]) (w1 := (KC, I2, J, GC)) rfl ?_
    obtain ⟨hWl, _, _⟩ := sg_W tp tl (skN tp tl e + 1)
    unfold wxN at hQ
    generalize fstN (sgN tp tl (skN tp tl e + 1)) 31 = W at *
    refine mjT_call (as := [.ref 86, .ref 75]) (rest := []) rfl rfl rfl rfl rfl ⟨rfl, rfl⟩ (w1) ?_
    rintro _ _ ⟨rfl, I3, rfl, hf3, hO3, x, hx, ex, ex2⟩
    have hff3 := frr_tr hff hf3
    by_cases hW0 : W = 0
    · rw [if_pos hW0] at hQ ⊢
      have exq := ex2 (by omega)
      refine mjT_go 1 (pc' := if ¬ nI 0 = 0 then 84 else 79) (L' := [some (.ref 86), some (.ref 75), d, some (.int k)]) (st' := []) (w1 := (KC, I3, J, GC)) rfl ?_
      refine mjT_ifF (fun q => q nI_0) ?_
      refine mjT_go 1 (pc' := 80) (L' := [some (.ref 86), some (.ref 75), d, some (.int k)]) (st' := [.ref 86]) (w1 := (KC, I3, J, GC)) rfl ?_
      refine mjT_callE (as := [.ref 86]) (rest := []) (r1 := some (.int ((-20) - nI x))) rfl rfl rfl rfl rfl ⟨rfl, rfl⟩ (c_fault hx) ?_
      refine mjT_ret rfl rfl rfl ?_
      have := hQ I3 hff3 (fun z => absurd rfl z)
      rw [if_pos (show ((0 : Nat), qN tp tl (skN tp tl e + 1) 0).1 = 0 from rfl)] at this
      rw [exq, hW0]
      exact this
    · rw [if_neg hW0] at hQ ⊢
      refine mjT_go 1 (pc' := if ¬ nI 1 = 0 then 84 else 79) (L' := [some (.ref 86), some (.ref 75), d, some (.int k)]) (st' := []) (w1 := (KC, I3, J, GC)) rfl ?_
      refine mjT_ifT (by decide) ?_
      have hxx : lcA tp tl (skN tp tl x) = tkN tp tl (skN tp tl e + 1) W := by rw [ex]; rfl
      refine last I3 x _ hx hff3 hO3 (fun I4 hf4 hO4 => ?_)
      rw [hxx] at hO4 ⊢
      rw [ex]
      by_cases h0 : tkN tp tl (skN tp tl e + 1) W = 0
      · rw [if_pos h0]
        rw [if_pos h0] at hQ
        have := hQ I4 hf4 (fun _ => hO4 h0)
        rw [if_neg (show ¬ (m, wbN tp tl (skN tp tl e + 1) W).1 = 0 from fun z => absurd (show m = 0 from z) (by omega))] at this
        exact this
      · rw [if_neg h0]
        rw [if_neg h0] at hQ
        exact hQ I4 hf4 (fun z => absurd rfl z)
  · rw [if_neg hsc] at h2 ⊢
    rw [if_neg hsc] at hQ
    rw [if_pos rfl] at h2
    refine mjT_go 1 (pc' := if nI 0 = 0 then 84 else 71) (L' := [some (.ref 86), some (.ref 75), d, some (.int k)]) (st' := []) (w1 := (KC, I2, J, GC)) rfl ?_
    refine mjT_ifT nI_0 ?_
    refine last I2 _ 0 h2 hff (by rw [eW]; exact hO2) (fun I4 hf4 hO4 => ?_)
    rw [sk_sk] at hO4 ⊢
    by_cases h0 : lcA tp tl (skN tp tl e) = 0
    · rw [if_pos h0]
      rw [if_pos h0] at hQ
      have := hQ I4 hf4 (fun _ => hO4 h0)
      rw [if_neg (show ¬ (m, 0).1 = 0 from fun z => absurd (show m = 0 from z) (by omega))] at this
      exact this
    · rw [if_neg h0]
      rw [if_neg h0] at hQ
      exact hQ I4 hf4 (fun z => absurd rfl z)
theorem ps_wet (h0 : O0.wet = 0) : ∀ m, (psN tp tl O0 m).1.wet = 0
  | 0 => h0
  | m + 1 => ps_wet h0 m
theorem c_persons {Q : mjW → Option Value → Prop} (hV : VO O0) (h0 : O0.n = 0) (hw0 : O0.wet = 0) (hQ : ∀ I', FrR I0 I' → ((prN tp tl O0 7 0).1 ≠ 0 → RO I' 75 (wetO (ldO (psN tp tl O0 (prN tp tl O0 7 0).1).1 la dr) (prN tp tl O0 7 0).2) TT) → Q (KC, I', J, GC) (some (.int (offA (prN tp tl O0 7 0))))) : ∀ f m, f + m = 7 → 0 < f → (∀ j, j < m → frP tp tl (psN tp tl O0 j).1 (spN tp tl j (psN tp tl O0 j).2) = 10) → prN tp tl O0 7 0 = prN tp tl O0 f m → ∀ I : Nat → Nat → Int32, RdC tp tl I (spN tp tl m (psN tp tl O0 m).2) → RO I 75 (ldO (psN tp tl O0 m).1 la dr) TT → FrR I0 I → mj_To 44 9 [some (.ref 86), some (.ref 75), some (.int (nI 1)), some (.int (nI m))] [] (KC, I, J, GC) Q := by
  intro f
  induction f with
  | zero => intro m _ hf; exact absurd hf (by omega)
  | succ f ih =>
    intro m hfm _ hall heq I h hO hf
    obtain ⟨v1, v2⟩ := v_ps hV h0 m (by omega) hall
    have p1 := c_readPerson (J := J) v1 (by omega) h hO
    obtain ⟨E, hE⟩ : ∃ E, (psN tp tl O0 m).1 = E := ⟨_, rfl⟩
    obtain ⟨p, hp⟩ : ∃ p, spN tp tl m (psN tp tl O0 m).2 = p := ⟨_, rfl⟩
    have eps : psN tp tl O0 (m + 1) = (adP tp tl E p, qN tp tl p 9 + 1) := by rw [← hE, ← hp]; rfl
    have epr : prN tp tl O0 (f + 1) m = if frP tp tl E p = 10 then (if lcA tp tl (skN tp tl (psN tp tl O0 (m + 1)).2) = 45 ∧ f ≠ 0 then prN tp tl O0 f (m + 1) else tlN tp tl (m + 1) (psN tp tl O0 (m + 1)).2) else (0, qN tp tl p (frP tp tl E p)) := by rw [← hE, ← hp]; rfl
    have hall2 : frP tp tl E p = 10 → ∀ j, j < m + 1 → frP tp tl (psN tp tl O0 j).1 (spN tp tl j (psN tp tl O0 j).2) = 10 := fun z j hj => by
      by_cases e : j = m
      · rw [e, hE, hp]; exact z
      · exact hall j (by omega)
    rw [hE] at v1 v2 p1 hO
    rw [hp] at p1 h
    refine mjT_go 3 (pc' := if nI 7 ≤ nI m then 62 else 15) (L' := [some (.ref 86), some (.ref 75), some (.int (nI 1)), some (.int (nI m))]) (st' := []) (w1 := (KC, I, J, GC)) rfl ?_
    refine mjT_ifF (nI_ge (by omega) (by omega)) ?_
    refine mjT_go 2 (pc' := if nI 1 = 0 then 62 else 19) (L' := [some (.ref 86), some (.ref 75), some (.int (nI 1)), some (.int (nI m))]) (st' := []) (w1 := (KC, I, J, GC)) rfl ?_
    refine mjT_ifF (by decide) ?_
    refine mjT_go 2 (pc' := 21) (L' := [some (.ref 86), some (.ref 75), some (.int (nI 1)), some (.int (nI m))]) (st' := [.ref 75, .ref 86]) (w1 := (KC, I, J, GC)) rfl ?_
    refine mjT_call (as := [.ref 86, .ref 75]) (rest := []) rfl rfl rfl rfl rfl ⟨rfl, rfl⟩ p1 ?_
    rintro _ _ ⟨I2, rfl, hf2, ⟨rfl, h10, h2, hO2⟩ | ⟨rfl, hne, h2⟩⟩
    rotate_left
    · rw [if_neg hne] at epr
      generalize qN tp tl p (frP tp tl E p) = q at *
      rw [heq, epr, off_0] at hQ
      refine mjT_go 1 (pc' := if ¬ nI 0 = 0 then 32 else 27) (L' := [some (.ref 86), some (.ref 75), some (.int (nI 1)), some (.int (nI m))]) (st' := []) (w1 := (KC, I2, J, GC)) rfl ?_
      refine mjT_ifF (fun q => q nI_0) ?_
      refine mjT_go 1 (pc' := 28) (L' := [some (.ref 86), some (.ref 75), some (.int (nI 1)), some (.int (nI m))]) (st' := [.ref 86]) (w1 := (KC, I2, J, GC)) rfl ?_
      refine mjT_callE (as := [.ref 86]) (rest := []) (r1 := some (.int ((-20) - nI q))) rfl rfl rfl rfl rfl ⟨rfl, rfl⟩ (c_fault h2) ?_
      refine mjT_ret rfl rfl rfl ?_
      exact hQ I2 (frr_tr hf hf2) (fun z => (z rfl).elim)
    rw [if_pos h10] at epr
    have hff := frr_tr hf hf2
    have h2' : RdC tp tl I2 (psN tp tl O0 (m + 1)).2 := by rw [eps]; exact h2
    have hO2' : RO I2 75 (ldO (psN tp tl O0 (m + 1)).1 la dr) TT := by rw [eps]; exact hO2
    obtain ⟨w1, w2⟩ := v_ps hV h0 (m + 1) (by omega) (hall2 h10)
    have hnn : I2 75 0 = nI (m + 1) := by rw [← w2]; exact hO2'.n
    have tailQ : (¬ (lcA tp tl (skN tp tl (psN tp tl O0 (m + 1)).2) = 45 ∧ f ≠ 0)) → ∀ I', FrR I0 I' → ((tlN tp tl (m + 1) (psN tp tl O0 (m + 1)).2).1 ≠ 0 → RO I' 75 (wetO (ldO (psN tp tl O0 (m + 1)).1 la dr) (tlN tp tl (m + 1) (psN tp tl O0 (m + 1)).2).2) TT) → Q (KC, I', J, GC) (some (.int (offA (tlN tp tl (m + 1) (psN tp tl O0 (m + 1)).2)))) := fun hno I' hf' hO' => by
      rw [if_neg hno] at epr
      rw [heq, epr] at hQ
      refine hQ I' hf' (fun z => ?_)
      rcases tl_or (tp := tp) (tl := tl) (m + 1) (psN tp tl O0 (m + 1)).2 with q | ⟨q, _⟩
      · exact absurd q z
      · rw [q]; exact hO' z
    refine mjT_go 1 (pc' := if ¬ nI 1 = 0 then 32 else 27) (L' := [some (.ref 86), some (.ref 75), some (.int (nI 1)), some (.int (nI m))]) (st' := []) (w1 := (KC, I2, J, GC)) rfl ?_
    refine mjT_ifT (by decide) ?_
    refine mjT_go 1 (pc' := 33) (L' := [some (.ref 86), some (.ref 75), some (.int (nI 1)), some (.int (nI m))]) (st' := [.ref 75]) (w1 := (KC, I2, J, GC)) rfl ?_
    refine mjT_gfi (v := nI (m + 1)) rfl (Or.inl rfl) (pc' := 36) rfl rfl (show I2 75 0 = nI (m + 1) from hnn) ?_
    refine mjT_go 2 (pc' := if nI 7 ≤ nI (m + 1) then 54 else 41) (L' := [some (.ref 86), some (.ref 75), some (.int (nI 1)), some (.int (nI m))]) (st' := []) (w1 := (KC, I2, J, GC)) rfl ?_
    refine mjT_if_le (u := 7) (v := m + 1) rfl rfl (by omega) (by omega) (fun h7 => ?_) (fun h7 => ?_)
    · refine mjT_go 4 (pc' := 9) (L' := [some (.ref 86), some (.ref 75), some (.int (nI 0)), some (.int ((nI m) + (nI 1)))]) (st' := []) (w1 := (KC, I2, J, GC)) rfl ?_
      rw [nI_add]
      refine mjT_go 3 (pc' := if nI 7 ≤ nI (m + 1) then 62 else 15) (L' := [some (.ref 86), some (.ref 75), some (.int (nI 0)), some (.int (nI (m + 1)))]) (st' := []) (w1 := (KC, I2, J, GC)) rfl ?_
      refine mjT_ifT (nI_le h7 (by omega)) ?_
      exact c_tail (e := (psN tp tl O0 (m + 1)).2) (by omega) w2 (ps_wet hw0 _) h2' rfl hO2' hff (tailQ (fun z => by omega))
    have s1 := c_skips (J := J) h2' (show 44 < 127 by omega)
    unfold nxN at s1
    refine mjT_go 2 (pc' := 44) (L' := [some (.ref 86), some (.ref 75), some (.int (nI 1)), some (.int (nI m))]) (st' := [.int (nI 44), .ref 86]) (w1 := (KC, I2, J, GC)) rfl ?_
    refine mjT_call (as := [.ref 86, .int (nI 44)]) (rest := []) rfl rfl rfl rfl rfl ⟨rfl, rfl⟩ (s1) ?_
    rintro _ _ ⟨rfl, I3, rfl, h3, hf3⟩
    unfold eqB at h3 ⊢
    have hff3 := frr_tr hff (fr_fl hf3)
    have hO3 := ro_fl hO2' hf3
    by_cases hcm : lcA tp tl (skN tp tl (psN tp tl O0 (m + 1)).2) = 45
    · rw [if_pos hcm] at h3 ⊢
      rw [if_neg (show ¬ 1 = 0 by omega)] at h3
      refine mjT_go 1 (pc' := if nI 1 = 0 then 54 else 50) (L' := [some (.ref 86), some (.ref 75), some (.int (nI 1)), some (.int (nI m))]) (st' := []) (w1 := (KC, I3, J, GC)) rfl ?_
      refine mjT_ifF (by decide) ?_
      refine mjT_go 5 (pc' := 9) (L' := [some (.ref 86), some (.ref 75), some (.int (nI 1)), some (.int ((nI m) + (nI 1)))]) (st' := []) (w1 := (KC, I3, J, GC)) rfl ?_
      rw [nI_add]
      rw [if_pos ⟨hcm, by omega⟩] at epr
      refine ih (m + 1) (by omega) (by omega) (hall2 h10) (heq.trans epr) I3 ?_ hO3 hff3
      have : spN tp tl (m + 1) (psN tp tl O0 (m + 1)).2 = skN tp tl (psN tp tl O0 (m + 1)).2 + 1 := if_neg (by omega)
      rw [this]; exact h3
    · rw [if_neg hcm] at h3 ⊢
      rw [if_pos rfl] at h3
      refine mjT_go 1 (pc' := if nI 0 = 0 then 54 else 50) (L' := [some (.ref 86), some (.ref 75), some (.int (nI 1)), some (.int (nI m))]) (st' := []) (w1 := (KC, I3, J, GC)) rfl ?_
      refine mjT_ifT nI_0 ?_
      refine mjT_go 4 (pc' := 9) (L' := [some (.ref 86), some (.ref 75), some (.int (nI 0)), some (.int ((nI m) + (nI 1)))]) (st' := []) (w1 := (KC, I3, J, GC)) rfl ?_
      rw [nI_add]
      refine mjT_go 3 (pc' := if nI 7 ≤ nI (m + 1) then 62 else 15) (L' := [some (.ref 86), some (.ref 75), some (.int (nI 0)), some (.int (nI (m + 1)))]) (st' := []) (w1 := (KC, I3, J, GC)) rfl ?_
      refine mjT_ifF (nI_ge (by omega) (by omega)) ?_
      refine mjT_go 2 (pc' := if nI 0 = 0 then 62 else 19) (L' := [some (.ref 86), some (.ref 75), some (.int (nI 0)), some (.int (nI (m + 1)))]) (st' := []) (w1 := (KC, I3, J, GC)) rfl ?_
      refine mjT_ifT nI_0 ?_
      exact c_tail (e := (psN tp tl O0 (m + 1)).2) (by omega) w2 (ps_wet hw0 _) h3 (sk_sk _ _ _) hO3 hff3 (tailQ (fun z => hcm z.1))
theorem c_readInto (hV : VO O0) (h0 : O0.n = 0) (hw0 : O0.wet = 0) (hlen : I 86 1 = nI tl) (hlt : ∀ j, j < tl → I 87 j = nI (tp j)) (hrg : ∀ j, j < tl → 32 ≤ tp j ∧ tp j ≤ 126) (htl : tl ≤ 130) (hO : RO I 75 (ldO O0 la dr) TT) : mj_E 44 [.ref 86, .ref 75] (KC, I, J, GC) (fun w' r => r = some (.int (offA (prN tp tl O0 7 0))) ∧ ∃ I', w' = (KC, I', J, GC) ∧ FrR I I' ∧ ((prN tp tl O0 7 0).1 ≠ 0 → RO I' 75 (wetO (ldO (psN tp tl O0 (prN tp tl O0 7 0).1).1 la dr) (prN tp tl O0 7 0).2) TT)) := by
  refine mjT_go 2 (pc' := 2) (L' := [some (.ref 86), some (.ref 75), none, none]) (st' := [.int (nI 0), .ref 86]) (w1 := (KC, I, J, GC)) rfl ?_
  obtain ⟨V1, eV1⟩ : ∃ z, z = mj_row I 86 (va_up (I 86) 2 (nI 0)) := ⟨_, rfl⟩
  refine mjT_pfi (I' := V1) rfl (pc' := 5) rfl rfl eV1.symm ?_
  refine mjT_go 4 (pc' := 9) (L' := [some (.ref 86), some (.ref 75), some (.int (nI 1)), some (.int (nI 0))]) (st' := []) (w1 := (KC, V1, J, GC)) rfl ?_
  have hr : RdC tp tl V1 0 := ⟨(st_ne eV1 (by omega)).trans hlen, st_at eV1, fun j hj => by rw [st_h eV1 (by omega)]; exact hlt j hj, hrg, htl, by omega⟩
  exact c_persons (I0 := I) hV h0 hw0 (fun I' hf hO' => ⟨rfl, I', rfl, hf, hO'⟩) 7 0 rfl (by omega) (fun _ h => absurd h (by omega)) rfl V1 hr (ro_cong hO (fun k hk => st_h eV1 (by omega))) (fr_fl (fl_st eV1))
/-- nobody there -/
def noO (O : Off) : Off := mkO 0 0 0 0 O.las O.draw O.kind O.str O.chair O.own O.wr O.till
theorem v_no (hV : VO O) : VO (noO O) := ⟨by show 0 ≤ 7; omega, by show 0 ≤ 20000; omega, by show 0 < 2 ^ 30; omega, by show 0 < 256; omega, hV.las, hV.draw, fun p hp => absurd (show p < 0 from hp) (by omega), fun p hp => absurd (show p < 0 from hp) (by omega), fun p hp => absurd (show p < 0 from hp) (by omega), fun p q hp => absurd (show p < 0 from hp) (by omega), fun p hp => absurd (show p < 0 from hp) (by omega), fun p hp => absurd (show p < 0 from hp) (by omega), fun p hp => absurd (show p < 0 from hp) (by omega)⟩
theorem c_clear (hG : OfG o) (hla : I o 3 = nI la) (hdr : I o 4 = nI dr) : mj_E 8 [.ref o] (KC, I, J, GC) (fun w' r => r = none ∧ ∃ I', w' = (KC, I', J, GC) ∧ RO I' o (ldO (noO O) la dr) TT ∧ ∀ h, (h < o ∨ o + 7 < h) → I' h = I h) := by
  refine mjT_go 2 (pc' := 2) (L' := [some (.ref o), none]) (st' := [.int (nI 0), .ref o]) (w1 := (KC, I, J, GC)) rfl ?_
  obtain ⟨V1, eV1⟩ : ∃ z, z = mj_row I o (va_up (I o) 0 (nI 0)) := ⟨_, rfl⟩
  refine mjT_pfi (I' := V1) rfl (pc' := 5) rfl hG.k0 eV1.symm ?_
  refine mjT_go 2 (pc' := 7) (L' := [some (.ref o), none]) (st' := [.int (nI 0), .ref o]) (w1 := (KC, V1, J, GC)) rfl ?_
  obtain ⟨V2, eV2⟩ : ∃ z, z = mj_row V1 o (va_up (V1 o) 1 (nI 0)) := ⟨_, rfl⟩
  refine mjT_pfi (I' := V2) rfl (pc' := 10) rfl hG.k0 eV2.symm ?_
  refine mjT_go 2 (pc' := 12) (L' := [some (.ref o), none]) (st' := [.int (nI 0), .ref o]) (w1 := (KC, V2, J, GC)) rfl ?_
  obtain ⟨V3, eV3⟩ : ∃ z, z = mj_row V2 o (va_up (V2 o) 2 (nI 0)) := ⟨_, rfl⟩
  refine mjT_pfi (I' := V3) rfl (pc' := 15) rfl hG.k0 eV3.symm ?_
  refine mjT_go 1 (pc' := 16) (L' := [some (.ref o), none]) (st' := [.ref o]) (w1 := (KC, V3, J, GC)) rfl ?_
  refine mjT_gfr (h' := (o + 1)) rfl (pc' := 19) rfl hG.k0 hG.r1 ?_
  refine mjT_go 1 (pc' := 20) (L' := [some (.ref o), none]) (st' := [.int (nI 0), .ref (o + 1)]) (w1 := (KC, V3, J, GC)) rfl ?_
  obtain ⟨V4, eV4⟩ : ∃ z, z = mj_row V3 (o + 1) (va_up (V3 (o + 1)) 0 (nI 0)) := ⟨_, rfl⟩
  refine mjT_pfi (I' := V4) rfl (pc' := 23) rfl hG.k1 eV4.symm ?_
  refine mjT_go 2 (pc' := 25) (L' := [some (.ref o), some (.int (nI 0))]) (st' := []) (w1 := (KC, V4, J, GC)) rfl ?_
  refine mj_loop (fun k L w => ∃ I', L = [some (.ref o), some (.int (nI k))] ∧ w = (KC, I', J, GC) ∧ (∀ j, j < k → I' (o + 7) j = -1) ∧ ∀ h, h ≠ o + 7 → I' h = V4 h) 8 (k0 := 0) (Nat.zero_le _) ?_ ?_ ?_
  · exact ⟨_, rfl, rfl, fun _ h => absurd h (by omega), fun _ _ => rfl⟩
  · rintro k _ _ hk ⟨I5, rfl, rfl, g1, g2⟩ hc
    refine mjT_go 3 (pc' := if nI 8 ≤ nI k then 44 else 31) (L' := [some (.ref o), some (.int (nI k))]) (st' := []) (w1 := (KC, I5, J, GC)) rfl ?_
    refine mjT_ifF (nI_ge (by omega) (by omega)) ?_
    refine mjT_go 1 (pc' := 32) (L' := [some (.ref o), some (.int (nI k))]) (st' := [.ref o]) (w1 := (KC, I5, J, GC)) rfl ?_
    refine mjT_gfr (h' := (o + 7)) rfl (pc' := 35) rfl hG.k0 hG.r7 ?_
    refine mjT_go 2 (pc' := 37) (L' := [some (.ref o), some (.int (nI k))]) (st' := [.int (-1), .int (nI k), .ref (o + 7)]) (w1 := (KC, I5, J, GC)) rfl ?_
    obtain ⟨V5, eV5⟩ : ∃ z, z = mj_row I5 (o + 7) (va_up (I5 (o + 7)) k (-1)) := ⟨_, rfl⟩
    refine mjT_ias (I' := V5) k 8 rfl (pc' := 38) rfl hG.k7 rfl (by omega) (by omega) eV5.symm ?_
    refine mjT_go 2 (pc' := 25) (L' := [some (.ref o), some (.int ((nI k) + (nI 1)))]) (st' := []) (w1 := (KC, V5, J, GC)) rfl ?_
    rw [nI_add]
    refine hc _ _ ⟨_, rfl, rfl, fun j hj => ?_, fun h hh => (st_h eV5 hh).trans (g2 h hh)⟩
    by_cases e : j = k
    · rw [e]; exact st_at eV5
    · exact (st_ne eV5 e).trans (g1 j (by omega))
  · rintro _ _ ⟨I5, rfl, rfl, g1, g2⟩
    refine mjT_go 3 (pc' := if nI 8 ≤ nI 8 then 44 else 31) (L' := [some (.ref o), some (.int (nI 8))]) (st' := []) (w1 := (KC, I5, J, GC)) rfl ?_
    refine mjT_ifT (Int32.le_refl _) ?_
    refine mjT_ret rfl rfl rfl ?_
    have e4 : ∀ k, I5 o k = V3 o k := fun k => by rw [g2 o (by omega), st_h eV4 (by omega)]
    refine ⟨rfl, _, rfl, ⟨?_, ?_, ?_, ?_, ?_, ?_, fun p hp => absurd (show p < 0 from hp) (by omega), fun p hp => absurd (show p < 0 from hp) (by omega), fun p hp => absurd (show p < 0 from hp) (by omega), fun c hc => g1 c hc, fun p hp => absurd (show p < 0 from hp) (by omega), fun p hp => absurd (show p < 0 from hp) (by omega)⟩, fun h hh => by rw [g2 h (by omega), st_h eV4 (by omega), st_h eV3 (by omega), st_h eV2 (by omega), st_h eV1 (by omega)]⟩
    · rw [e4, st_ne eV3 (by omega), st_ne eV2 (by omega)]; exact st_at eV1
    · rw [e4, st_ne eV3 (by omega)]; exact st_at eV2
    · rw [e4]; exact st_at eV3
    · rw [e4, st_ne eV3 (by omega), st_ne eV2 (by omega), st_ne eV1 (by omega)]; exact hla
    · rw [e4, st_ne eV3 (by omega), st_ne eV2 (by omega), st_ne eV1 (by omega)]; exact hdr
    · rw [g2 _ (by omega)]; exact st_at eV4
def tapS (S : Sta) : Sta := mkS S.o S.kn S.pa S.im S.io S.ikn S.ipa 0 S.tp S.sz S.ln S.it
def offS (S : Sta) (R : Nat × Nat) : Sta := mkS (wetO (psN S.tp S.tl (noO S.o) R.1).1 R.2) 0 S.pa S.im S.io S.ikn S.ipa 0 S.tp S.sz S.ln S.it
def parS (S : Sta) : Nat × Nat := prN S.tp S.tl (noO S.o) 7 0
noncomputable def aOffice (S : Sta) : Int32 := offA (parS S)
def sOffice (S : Sta) : Sta := if (parS S).1 = 0 then tapS S else offS S (parS S)
theorem ps_env (O0 : Off) : ∀ m, (psN tp tl O0 m).1.las = O0.las ∧ (psN tp tl O0 m).1.draw = O0.draw ∧ (psN tp tl O0 m).1.day = O0.day ∧ (psN tp tl O0 m).1.dry = O0.dry ∧ (psN tp tl O0 m).1.wet = O0.wet
  | 0 => ⟨rfl, rfl, rfl, rfl, rfl⟩
  | m + 1 => ps_env O0 m
theorem vs_office (hV : VS S) : VS (sOffice S) := by
  have hok := pr_ok (tp := S.tp) (tl := S.tl) (v_no hV.o) rfl 7 0 rfl (fun _ h => absurd h (by omega))
  obtain ⟨R, hR⟩ : ∃ R, prN S.tp S.tl (noO S.o) 7 0 = R := ⟨_, rfl⟩
  unfold sOffice parS
  rw [hR] at hok ⊢
  by_cases h : R.1 = 0
  · rw [if_pos h]
    exact ⟨hV.o, hV.day, hV.kn, hV.pa, hV.im, hV.io, Nat.zero_le _, fun j hj => absurd (show j < 0 from hj) (by omega), hV.sz, hV.ln⟩
  · rw [if_neg h]
    obtain ⟨h1, h2, h3, h4⟩ := hok h
    have e := (ps_env (tp := S.tp) (tl := S.tl) (noO S.o) R.1).2.2.1
    unfold offS
    generalize (psN S.tp S.tl (noO S.o) R.1).1 = F at *
    have hd : F.day ≤ 9999 := by rw [e]; exact Nat.zero_le _
    exact ⟨v_wet h3 h2, hd, Nat.zero_le _, fun j hj => absurd (show j < 0 from hj) (by omega), hV.im, hV.io, Nat.zero_le _, fun j hj => absurd (show j < 0 from hj) (by omega), hV.sz, hV.ln⟩
theorem m20_neg : ∀ q, q < 200 → (-20 : Int32) - nI q < 0 := by decide +kernel
theorem wx_pos {q W m : Nat} (ht : tl ≤ 130) (hq : q ≤ tl) (hj : ∀ j, j < W → tkN tp tl q j ≠ 0) (hm : 1 ≤ m) (h : (wxN tp tl q W m).1 = 0) : (wxN tp tl q W m).2 ≤ 130 := by
  have h1 := q_le (tp := tp) hq W hj
  have h0 := sk_le (tp := tp) hq
  unfold wxN at h ⊢
  by_cases c2 : W = 0
  · rw [if_pos c2]
    show skN tp tl q ≤ 130
    omega
  · rw [if_neg c2] at h ⊢
    by_cases c3 : tkN tp tl q W = 0
    · rw [if_pos c3] at h
      exact absurd (show m = 0 from h) (by omega)
    · rw [if_neg c3]
      exact Nat.le_trans h1 ht
theorem tl_pos {m e : Nat} (ht : tl ≤ 130) (he : e ≤ tl) (hm : 1 ≤ m) (h : (tlN tp tl m e).1 = 0) : (tlN tp tl m e).2 ≤ 130 := by
  have h1 := sk_le (tp := tp) he
  unfold tlN at h ⊢
  by_cases c1 : lcA tp tl (skN tp tl e) = 60
  · rw [if_pos c1] at h ⊢
    have h2 := lc_pos (tp := tp) (tl := tl) (q := skN tp tl e) (by omega)
    exact wx_pos ht h2 (fun j hj => by
      have := sg_1 ((sg_W tp tl (skN tp tl e + 1)).2.2 j hj)
      omega) hm h
  · rw [if_neg c1] at h ⊢
    by_cases c2 : lcA tp tl (skN tp tl e) = 0
    · rw [if_pos c2]; exact Nat.zero_le _
    · rw [if_neg c2]; exact Nat.le_trans h1 ht
theorem pr_pos (ht : tl ≤ 130) : ∀ f m, 1 ≤ f + m → spN tp tl m (psN tp tl O0 m).2 ≤ tl → (psN tp tl O0 m).2 ≤ tl → (prN tp tl O0 f m).1 = 0 → (prN tp tl O0 f m).2 ≤ 130 := by
  intro f
  induction f with
  | zero =>
    intro m hm _ he h
    rw [prN_0] at h ⊢
    exact tl_pos ht he (by omega) h
  | succ f ih =>
    intro m hm hsp he h
    rw [prN_s] at h ⊢
    by_cases c1 : frP tp tl (psN tp tl O0 m).1 (spN tp tl m (psN tp tl O0 m).2) = 10
    · rw [if_pos c1] at h ⊢
      have hall := fr_all c1
      have hq9 := tk_lt (gd_tk (by omega) (hall 9 (by omega)))
      have he2 : (psN tp tl O0 (m + 1)).2 ≤ tl := hq9
      by_cases c2 : lcA tp tl (skN tp tl (psN tp tl O0 (m + 1)).2) = 45 ∧ f ≠ 0
      · rw [if_pos c2] at h ⊢
        have h2 := lc_pos (tp := tp) (tl := tl) (q := skN tp tl (psN tp tl O0 (m + 1)).2) (by omega)
        refine ih (m + 1) (by omega) ?_ he2 h
        unfold spN
        rw [if_neg (by omega)]
        exact h2
      · rw [if_neg c2] at h ⊢; exact tl_pos ht he2 (by omega) h
    · rw [if_neg c1]
      obtain ⟨F, hF⟩ : ∃ F, fstN (gdN tp tl (psN tp tl O0 m).1 (spN tp tl m (psN tp tl O0 m).2)) 10 = F := ⟨_, rfl⟩
      have hle := fst_le (gdN tp tl (psN tp tl O0 m).1 (spN tp tl m (psN tp tl O0 m).2)) 10
      have hit := fst_hit (g := gdN tp tl (psN tp tl O0 m).1 (spN tp tl m (psN tp tl O0 m).2)) (N := 10)
      unfold frP at c1 ⊢
      rw [hF] at hle hit c1 ⊢
      have hj := (hit (by omega)).2
      have hq : qN tp tl (spN tp tl m (psN tp tl O0 m).2) F ≤ tl := q_le (tp := tp) hsp F (fun j hjj => gd_tk (show j < 10 by omega) (hj j hjj))
      show qN tp tl (spN tp tl m (psN tp tl O0 m).2) F ≤ 130
      exact Nat.le_trans hq ht
theorem cc_office (hV : VS S) (hC : CW I J S) : mj_E 81 [.ref 0] (KC, I, J, GC) (fun w' r => r = some (.int (aOffice S)) ∧ ∃ I' J', w' = (KC, I', J', GC) ∧ CW I' J' (sOffice S)) := by
  obtain ⟨la, hla⟩ := nI_surj (I 75 3)
  obtain ⟨dr, hdr⟩ := nI_surj (I 75 4)
  have hpo := pr_pos (tp := S.tp) (O0 := noO S.o) hV.tl 7 0 (by omega) (Nat.zero_le _) (Nat.zero_le _)
  have hok := pr_ok (tp := S.tp) (tl := S.tl) (v_no hV.o) rfl 7 0 rfl (fun _ h => absurd h (by omega))
  refine mjT_go 2 (pc' := 4) (L' := [some (.ref 0), none]) (st' := [.ref 75]) (w1 := (KC, I, J, GC)) rfl ?_
  refine mjT_call (as := [.ref 75]) (rest := []) rfl rfl rfl rfl rfl ⟨rfl, rfl⟩ (c_clear (O := S.o) og_75 hla hdr) ?_
  rintro _ _ ⟨rfl, I2, rfl, hO2, hf2⟩
  have rd := c_readInto (J := J) (O0 := noO S.o) (tp := S.tp) (tl := S.tl) (la := la) (dr := dr) (v_no hV.o) rfl rfl (by rw [hf2 86 (by omega)]; exact hC.tl) (by rw [hf2 87 (by omega)]; exact hC.tp) hV.tp hV.tl hO2
  unfold aOffice sOffice parS
  generalize prN S.tp S.tl (noO S.o) 7 0 = R at *
  refine mjT_go 4 (pc' := 15) (L' := [some (.ref 0), none]) (st' := [.ref 75, .ref 86]) (w1 := (KC, I2, J, GC)) rfl ?_
  refine mjT_call (as := [.ref 86, .ref 75]) (rest := []) rfl rfl rfl rfl rfl ⟨rfl, rfl⟩ (rd) ?_
  rintro _ _ ⟨rfl, I3, rfl, hf3, hO3⟩
  have e3 : ∀ h, (h < 75 ∨ 86 < h) → I3 h = I h := fun h hh => by rw [hf3.1 h hh, hf2 h (by omega)]
  refine mjT_go 3 (pc' := 23) (L' := [some (.ref 0), some (.int (offA R))]) (st' := [.ref 86]) (w1 := (KC, I3, J, GC)) rfl ?_
  have key : mj_E 43 [.ref 86] (KC, I3, J, GC) (fun w' r => r = none ∧ ∃ I', w' = (KC, I', J, GC) ∧ I' = mj_row I3 86 (va_up (I3 86) 1 (nI 0))) := by
    refine mjT_go 2 (pc' := 2) (L' := [some (.ref 86)]) (st' := [.int (nI 0), .ref 86]) (w1 := (KC, I3, J, GC)) rfl ?_
    obtain ⟨V1, eV1⟩ : ∃ z, z = mj_row I3 86 (va_up (I3 86) 1 (nI 0)) := ⟨_, rfl⟩
    refine mjT_pfi (I' := V1) rfl (pc' := 5) rfl rfl eV1.symm ?_
    refine mjT_ret rfl rfl rfl ?_
    exact ⟨rfl, _, rfl, eV1⟩
  refine mjT_call (as := [.ref 86]) (rest := []) rfl rfl rfl rfl rfl ⟨rfl, rfl⟩ (key) ?_
  rintro _ _ ⟨rfl, I4, rfl, e4⟩
  have e4h : ∀ h, (h < 75 ∨ 86 < h) → I4 h = I h := fun h hh => by rw [st_h e4 (by omega)]; exact e3 h hh
  unfold offA
  by_cases h0 : R.1 = 0
  · rw [if_pos h0, if_pos h0]
    have hneg := m20_neg R.2 (by have := hpo h0; omega)
    refine mjT_go 2 (pc' := if 0 ≤ (-20) - nI R.2 then 32 else 30) (L' := [some (.ref 0), some (.int ((-20) - nI R.2))]) (st' := []) (w1 := (KC, I4, J, GC)) rfl ?_
    refine mjT_ifF (fun z => i32_nlt.mpr z hneg) ?_
    refine mjT_go 1 (pc' := 31) (L' := [some (.ref 0), some (.int ((-20) - nI R.2))]) (st' := [.int ((-20) - nI R.2)]) (w1 := (KC, I4, J, GC)) rfl ?_
    refine mjT_ret rfl rfl rfl ?_
    refine ⟨rfl, _, _, rfl, ro_cong hC.o (fun k hk => e4h _ (by omega)), pc_cong hC.past (e4h _ (by omega)) (fun k hk => e4h _ (by omega)), by rw [e4h 0 (by omega)]; exact hC.im, fun hi => ⟨ro_cong (hC.io hi).1 (fun k hk => e4h _ (by omega)), pc_cong (hC.io hi).2 (e4h _ (by omega)) (fun k hk => e4h _ (by omega))⟩, st_at e4, fun j hj => absurd (show j < 0 from hj) (by omega), ?_, ?_, hC.it⟩
    · rw [e4h _ (by omega)]; exact hC.sz
    · rw [e4h _ (by omega)]; exact hC.ln
  · rw [if_neg h0, if_neg h0]
    obtain ⟨r7, r30, v1, v2⟩ := hok h0
    have hO4 : RO I4 75 (wetO (ldO (psN S.tp S.tl (noO S.o) R.1).1 la dr) R.2) TT := ro_cong (hO3 h0) (fun k hk => st_h e4 (by omega))
    obtain ⟨x1, x2, _⟩ := ps_env (tp := S.tp) (tl := S.tl) (noO S.o) R.1
    have eF : ldO (wetO (ldO (psN S.tp S.tl (noO S.o) R.1).1 la dr) R.2) S.o.las S.o.draw = wetO (psN S.tp S.tl (noO S.o) R.1).1 R.2 := by
      show mkO _ _ R.2 _ S.o.las S.o.draw _ _ _ _ _ _ = mkO _ _ R.2 _ (psN S.tp S.tl (noO S.o) R.1).1.las (psN S.tp S.tl (noO S.o) R.1).1.draw _ _ _ _ _ _
      rw [x1, x2]; rfl
    have hla1 : I4 1 3 = nI S.o.las := by rw [e4h 1 (by omega)]; exact hC.o.las
    have hdr1 : I4 1 4 = nI S.o.draw := by rw [e4h 1 (by omega)]; exact hC.o.draw
    have hen : (wetO (ldO (psN S.tp S.tl (noO S.o) R.1).1 la dr) R.2).n ≤ 7 := v1.n
    unfold offS
    generalize wetO (ldO (psN S.tp S.tl (noO S.o) R.1).1 la dr) R.2 = F at *
    generalize wetO (psN S.tp S.tl (noO S.o) R.1).1 R.2 = F2 at *
    refine mjT_go 2 (pc' := if 0 ≤ nI R.1 then 32 else 30) (L' := [some (.ref 0), some (.int (nI R.1))]) (st' := []) (w1 := (KC, I4, J, GC)) rfl ?_
    refine mjT_ifT (nI_pos' (by omega)) ?_
    refine mjT_go 4 (pc' := 40) (L' := [some (.ref 0), some (.int (nI R.1))]) (st' := [.ref 75, .ref 1]) (w1 := (KC, I4, J, GC)) rfl ?_
    refine mjT_call (as := [.ref 1, .ref 75]) (rest := []) rfl rfl rfl rfl rfl ⟨rfl, rfl⟩ (c_moveIn hen og_1 og_75 (by omega) hO4 hla1 hdr1) ?_
    rintro _ _ ⟨rfl, I5, rfl, hO5, hf5⟩
    rw [eF] at hO5
    refine mjT_go 2 (pc' := 47) (L' := [some (.ref 0), some (.int (nI R.1))]) (st' := [.ref 12]) (w1 := (KC, I5, J, GC)) rfl ?_
    refine mjT_call (as := [.ref 12]) (rest := []) rfl rfl rfl rfl rfl ⟨rfl, rfl⟩ (c_forget) ?_
    rintro _ _ ⟨rfl, I6, rfl, e6⟩
    refine mjT_go 1 (pc' := 51) (L' := [some (.ref 0), some (.int (nI R.1))]) (st' := [.int (nI R.1)]) (w1 := (KC, I6, J, GC)) rfl ?_
    refine mjT_ret rfl rfl rfl ?_
    have e6h : ∀ h, (8 < h ∧ h < 75 ∨ h = 0 ∨ 86 < h) → h ≠ 12 → I6 h = I h := fun h hh h12 => by rw [st_h e6 h12, hf5 h (by omega), e4h h (by omega)]
    obtain ⟨nx, g1, g2, g3, g4⟩ := hC.past
    refine ⟨rfl, _, _, rfl, ro_cong hO5 (fun k hk => st_h e6 (by omega)), ⟨nx, g1, ?_, st_at e6, fun j hj => absurd (show j < 0 from hj) (by omega)⟩, by rw [e6h 0 (by omega) (by omega)]; exact hC.im, fun hi => ⟨ro_cong (hC.io hi).1 (fun k hk => e6h _ (by omega) (by omega)), pc_cong (hC.io hi).2 (e6h _ (by omega) (by omega)) (fun k hk => e6h _ (by omega) (by omega))⟩, ?_, fun j hj => absurd (show j < 0 from hj) (by omega), ?_, ?_, hC.it⟩
    · rw [st_ne e6 (by omega), hf5 12 (by omega), e4h 12 (by omega)]; exact g2
    · rw [st_h e6 (by omega), hf5 86 (by omega)]; exact st_at e4
    · rw [e6h _ (by omega) (by omega)]; exact hC.sz
    · rw [e6h _ (by omega) (by omega)]; exact hC.ln
end RW
