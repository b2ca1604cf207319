/-! the class reads an office -/
def rwN (tp : Nat → Nat) (tl p : Nat) : Nat → Nat
  | 0 => p
  | i + 1 => qN tp tl p i + 1
theorem rw_q (tp : Nat → Nat) (tl p : Nat) : ∀ i, skN tp tl (rwN tp tl p i) = qN tp tl p i
  | 0 => rfl
  | _ + 1 => rfl
theorem nx_0 {tp : Nat → Nat} {tl p i v : Nat} (h : v = 0) : nxN tp tl (rwN tp tl p i) v = qN tp tl p i := by unfold nxN; rw [if_pos h, rw_q]
theorem nx_1 {tp : Nat → Nat} {tl p i v : Nat} (h : v ≠ 0) : nxN tp tl (rwN tp tl p i) v = rwN tp tl p (i + 1) := by unfold nxN; rw [if_neg h, rw_q]; rfl
def rkN (d : Nat → Nat) : Nat → Nat
  | 0 => 0
  | k + 1 => rkN d k * 8 + d k
theorem rk_6 (d : Nat → Nat) : rkN d 6 = rw6 d := by simp only [rkN, rw6]; omega
theorem rk_lt {d : Nat → Nat} (h : dgo d) : ∀ k, k ≤ 6 → rkN d k < 8 ^ k
  | 0, _ => Nat.one_pos
  | k + 1, hk => by
    have ih := rk_lt h k (by omega)
    have := h k (by omega)
    unfold rkN
    rw [Nat.pow_succ]; omega
theorem dgs_8 : ∀ c, c < 128 → ((sI c - nI 48 < 0 ∨ nI 8 ≤ sI c - nI 48) ↔ dgC c 7 = 0) ∧ (dgC c 7 ≠ 0 → sI c - nI 48 = nI (dgC c 7 - 1)) := by decide +kernel
section RO2
variable {I I' I0 : Nat → Nat → Int32} {J : Nat → Nat → Int64} {tp : Nat → Nat} {tl pos p la dr : Nat} {O E O0 : Off} {o : Nat} {P : Nat → Prop}
abbrev FrR (I I' : Nat → Nat → Int32) : Prop := (∀ h, (h < 75 ∨ 86 < h) → I' h = I h) ∧ ∀ k, k ≠ 2 → I' 86 k = I 86 k
theorem fr_fl (h : FrL I I') : FrR I I' := ⟨fun a b => h.1 a (by omega), h.2⟩
theorem frr_tr {I2 : Nat → Nat → Int32} (h : FrR I I') (h' : FrR I' I2) : FrR I I2 := ⟨fun a b => (h'.1 a b).trans (h.1 a b), fun a b => (h'.2 a b).trans (h.2 a b)⟩
theorem frr_o (h : ∀ h, (h < 75 ∨ 85 < h) → I' h = I h) : FrR I I' := ⟨fun a b => h a (by omega), fun k _ => by rw [h 86 (by omega)]⟩
theorem rd_fr (h : RdC tp tl I pos) (hf : ∀ h, (h < 75 ∨ 85 < h) → I' h = I h) : RdC tp tl I' pos :=
  ⟨by rw [hf 86 (by omega)]; exact h.len, by rw [hf 86 (by omega)]; exact h.ps, by rw [hf 87 (by omega)]; exact h.lt, h.rg, h.le⟩
theorem ro_fl (hO : RO I 75 O P) (hf : FrL I I') : RO I' 75 O P := ro_cong hO (fun k hk => hf.1 _ (by omega))
theorem c_sitterW (hn : O.n ≤ 7) (hG : OfG o) (hO : RO I o O P) {c : Nat} (hc : c < 8) : mj_Ev 17 [.ref o, .int (nI c)] (KC, I, J, GC) (KC, I, J, GC) (some (.int (sI (sitr O c)))) := by
  refine mj_ev_of ?_
  refine mjT_go 2 (pc' := if nI c < 0 then 19 else 4) (L' := [some (.ref o), some (.int (nI c))]) (st' := []) (w1 := (KC, I, J, GC)) rfl ?_
  refine mjT_ifF (nI_pos (by omega)) ?_
  refine mjT_go 3 (pc' := if nI 8 ≤ nI c then 19 else 10) (L' := [some (.ref o), some (.int (nI c))]) (st' := []) (w1 := (KC, I, J, GC)) rfl ?_
  refine mjT_ifF (nI_ge (by omega) (by omega)) ?_
  refine mjT_go 1 (pc' := 11) (L' := [some (.ref o), some (.int (nI c))]) (st' := [.ref o]) (w1 := (KC, I, J, GC)) rfl ?_
  refine mjT_gfr (h' := (o + 7)) rfl (pc' := 14) rfl hG.k0 hG.r7 ?_
  refine mjT_go 1 (pc' := 15) (L' := [some (.ref o), some (.int (nI c))]) (st' := [.int (nI c), .ref (o + 7)]) (w1 := (KC, I, J, GC)) rfl ?_
  refine mjT_ial (v := sI (sitr O c)) c 8 rfl (pc' := 16) rfl hG.k7 rfl (by omega) (by omega) (mo_at (hO.sit c (by omega)) (by omega) (by omega)) ?_
  refine mjT_go 1 (pc' := 20) (L' := [some (.ref o), some (.int (nI c))]) (st' := [.int (sI (sitr O c))]) (w1 := (KC, I, J, GC)) rfl ?_
  refine mjT_ret rfl rfl rfl ?_
  exact ⟨rfl, rfl⟩
theorem sit_ld {c : Nat} : sitr (ldO E la dr) c = sitr E c := sitL_ch (O := ldO E la dr) (O' := E) rfl c E.n
theorem c_readHand (h : RdC tp tl I (rwN tp tl p 2)) : mj_E 48 [.ref 86] (KC, I, J, GC) (fun w' r => ∃ I', w' = (KC, I', J, GC) ∧ FrL I I' ∧ ((r = some (.int (nI (rw6 (fun i => gdN tp tl E p (2 + i) - 1)))) ∧ (∀ k, k < 6 → gdN tp tl E p (2 + k) ≠ 0) ∧ RdC tp tl I' (rwN tp tl p 8)) ∨ (r = some (.int (-1)) ∧ ∃ k, k < 6 ∧ gdN tp tl E p (2 + k) = 0 ∧ (∀ j, j < k → gdN tp tl E p (2 + j) ≠ 0) ∧ RdC tp tl I' (qN tp tl p (2 + k))))) := by
  refine mjT_go 4 (pc' := 4) (L' := [some (.ref 86), some (.int (nI 0)), some (.int (nI 0)), none]) (st' := []) (w1 := (KC, I, J, GC)) rfl ?_
  refine mj_loop (fun k L w => ∃ (d : Option Value) (I' : Nat → Nat → Int32), L = [some (.ref 86), some (.int (nI (rkN (fun i => gdN tp tl E p (2 + i) - 1) k))), some (.int (nI k)), d] ∧ w = (KC, I', J, GC) ∧ FrL I I' ∧ RdC tp tl I' (rwN tp tl p (2 + k)) ∧ ∀ j, j < k → gdN tp tl E p (2 + j) ≠ 0) 6 (k0 := 0) (Nat.zero_le _) ?_ ?_ ?_
  · exact ⟨_, _, rfl, rfl, ⟨fun _ _ => rfl, fun _ _ => rfl⟩, h, fun _ h => absurd h (by omega)⟩
  · rintro k _ _ hk ⟨d, I2, rfl, rfl, hf2, h2, hb⟩ hc
    have hgd : gdN tp tl E p (2 + k) = dgC (lcA tp tl (skN tp tl (rwN tp tl p (2 + k)))) 7 := by rw [gd_i hk, rw_q]; rfl
    have hdl := dg_le (lcA tp tl (skN tp tl (rwN tp tl p (2 + k)))) 7
    have nx0 := nx_0 (tp := tp) (tl := tl) (p := p) (i := 2 + k) (v := gdN tp tl E p (2 + k))
    have nx1 := nx_1 (tp := tp) (tl := tl) (p := p) (i := 2 + k) (v := gdN tp tl E p (2 + k))
    have hrd := c_readDigit (J := J) h2 (Or.inl rfl)
    rw [← hgd] at hdl hrd
    obtain ⟨v, hv⟩ : ∃ v, gdN tp tl E p (2 + k) = v := ⟨_, rfl⟩
    have hrl : rkN (fun i => gdN tp tl E p (2 + i) - 1) k < 8 ^ 6 ∨ k = k := Or.inr rfl
    rw [hv] at hdl nx0 nx1 hrd
    refine mjT_go 3 (pc' := if nI 6 ≤ nI k then 35 else 10) (L' := [some (.ref 86), some (.int (nI (rkN (fun i => gdN tp tl E p (2 + i) - 1) k))), some (.int (nI k)), d]) (st' := []) (w1 := (KC, I2, J, GC)) rfl ?_
    refine mjT_ifF (nI_ge (by omega) (by omega)) ?_
    refine mjT_go 2 (pc' := 13) (L' := [some (.ref 86), some (.int (nI (rkN (fun i => gdN tp tl E p (2 + i) - 1) k))), some (.int (nI k)), d]) (st' := [.int (nI 7), .ref 86]) (w1 := (KC, I2, J, GC)) rfl ?_
    refine mjT_call (as := [.ref 86, .int (nI 7)]) (rest := []) rfl rfl rfl rfl rfl ⟨rfl, rfl⟩ (hrd) ?_
    rintro _ _ ⟨rfl, I3, rfl, h3, hf3⟩
    cases v with
    | zero =>
      refine mjT_go 3 (pc' := if 0 ≤ sI 0 then 23 else 21) (L' := [some (.ref 86), some (.int (nI (rkN (fun i => gdN tp tl E p (2 + i) - 1) k))), some (.int (nI k)), some (.int (sI 0))]) (st' := []) (w1 := (KC, I3, J, GC)) rfl ?_
      refine mjT_ifF (by decide) ?_
      refine mjT_go 1 (pc' := 22) (L' := [some (.ref 86), some (.int (nI (rkN (fun i => gdN tp tl E p (2 + i) - 1) k))), some (.int (nI k)), some (.int (sI 0))]) (st' := [.int (-1)]) (w1 := (KC, I3, J, GC)) rfl ?_
      refine mjT_ret rfl rfl rfl ?_
      exact ⟨_, rfl, fl_tr hf2 hf3, Or.inr ⟨rfl, k, hk, hv, hb, by rw [nx0 rfl] at h3; exact h3⟩⟩
    | succ v =>
      have hr2 : rkN (fun i => gdN tp tl E p (2 + i) - 1) k < 2 ^ 28 := by
        have hd0 : ∀ j, j < k → gdN tp tl E p (2 + j) - 1 < 8 := fun j hj => by
          have := dg_le (tkN tp tl p (2 + j)) 7
          have := gd_i (tp := tp) (tl := tl) (p := p) (E := E) (show j < 6 by omega)
          have := hb j hj
          omega
        have gen : ∀ m, m ≤ k → rkN (fun i => gdN tp tl E p (2 + i) - 1) m < 8 ^ m := by
          intro m
          induction m with
          | zero => intro _; exact Nat.one_pos
          | succ m ih =>
            intro hm
            have i1 := ih (by omega)
            have i2 := hd0 m (by omega)
            show rkN (fun i => gdN tp tl E p (2 + i) - 1) m * 8 + (gdN tp tl E p (2 + m) - 1) < 8 ^ (m + 1)
            rw [Nat.pow_succ]; omega
        have := gen k (Nat.le_refl _)
        have : 8 ^ k ≤ 8 ^ 6 := Nat.pow_le_pow_right (by omega) (by omega)
        omega
      refine mjT_go 3 (pc' := if 0 ≤ nI v then 23 else 21) (L' := [some (.ref 86), some (.int (nI (rkN (fun i => gdN tp tl E p (2 + i) - 1) k))), some (.int (nI k)), some (.int (nI v))]) (st' := []) (w1 := (KC, I3, J, GC)) rfl ?_
      refine mjT_ifT (nI_pos' (by omega)) ?_
      refine mjT_go 4 (pc' := 27) (L' := [some (.ref 86), some (.int (nI (rkN (fun i => gdN tp tl E p (2 + i) - 1) k))), some (.int (nI k)), some (.int (nI v))]) (st' := [.int (nI v), .int ((nI (rkN (fun i => gdN tp tl E p (2 + i) - 1) k)) <<< ((nI 3) &&& 31))]) (w1 := (KC, I3, J, GC)) rfl ?_
      refine mjT_go 1 (pc' := 28) (L' := [some (.ref 86), some (.int (nI (rkN (fun i => gdN tp tl E p (2 + i) - 1) k))), some (.int (nI k)), some (.int (nI v))]) (st' := [.int (((nI (rkN (fun i => gdN tp tl E p (2 + i) - 1) k)) <<< ((nI 3) &&& 31)) ||| (nI v))]) (w1 := (KC, I3, J, GC)) rfl ?_
      rw [shl3 hr2, nI_or, or8 _ _ (show v < 8 by omega), show rkN (fun i => gdN tp tl E p (2 + i) - 1) k * 8 + v = rkN (fun i => gdN tp tl E p (2 + i) - 1) (k + 1) by show _ = _ * 8 + (gdN tp tl E p (2 + k) - 1); rw [hv, Nat.add_sub_cancel]]
      refine mjT_go 3 (pc' := 4) (L' := [some (.ref 86), some (.int (nI (rkN (fun i => gdN tp tl E p (2 + i) - 1) (k + 1)))), some (.int ((nI k) + (nI 1))), some (.int (nI v))]) (st' := []) (w1 := (KC, I3, J, GC)) rfl ?_
      rw [nI_add]
      refine hc _ _ ⟨_, _, rfl, rfl, fl_tr hf2 hf3, by rw [nx1 (by omega)] at h3; exact h3, fun j hj => ?_⟩
      by_cases e : j = k
      · rw [e, hv]; omega
      · exact hb j (by omega)
  · rintro _ _ ⟨d, I2, rfl, rfl, hf2, h2, hb⟩
    refine mjT_go 3 (pc' := if nI 6 ≤ nI 6 then 35 else 10) (L' := [some (.ref 86), some (.int (nI (rkN (fun i => gdN tp tl E p (2 + i) - 1) 6))), some (.int (nI 6)), d]) (st' := []) (w1 := (KC, I2, J, GC)) rfl ?_
    refine mjT_ifT (Int32.le_refl _) ?_
    refine mjT_go 1 (pc' := 36) (L' := [some (.ref 86), some (.int (nI (rkN (fun i => gdN tp tl E p (2 + i) - 1) 6))), some (.int (nI 6)), d]) (st' := [.int (nI (rkN (fun i => gdN tp tl E p (2 + i) - 1) 6))]) (w1 := (KC, I2, J, GC)) rfl ?_
    refine mjT_ret rfl rfl rfl ?_
    exact ⟨_, rfl, hf2, Or.inl ⟨by rw [rk_6], hb, h2⟩⟩
theorem c_readFreeChair (hn : E.n ≤ 7) (h : RdC tp tl I (rwN tp tl p 9)) (hO : RO I 75 (ldO E la dr) TT) : mj_E 49 [.ref 86, .ref 75] (KC, I, J, GC) (fun w' r => r = some (.int (sI (gdN tp tl E p 9))) ∧ ∃ I', w' = (KC, I', J, GC) ∧ RdC tp tl I' (nxN tp tl (rwN tp tl p 9) (gdN tp tl E p 9)) ∧ FrL I I') := by
  have hlc := lc_le h.rg (qN tp tl p 9)
  have hpo := lc_pos (tp := tp) (tl := tl) (q := qN tp tl p 9)
  have e9 := gd_9 (tp := tp) (tl := tl) (p := p) (E := E)
  have hlet := c_letter (J := J) h
  rw [rw_q] at hlet
  unfold nxN
  rw [rw_q]
  have et : tkN tp tl p 9 = lcA tp tl (qN tp tl p 9) := rfl
  rw [et] at e9
  generalize lcA tp tl (qN tp tl p 9) = c at *
  have hd := dgs_8 c hlc
  have hdl := dg_le c 7
  have hn0 := dg_n0 (c := c) (g := 7)
  have hsl := sitr_le E (dgC c 7 - 1)
  refine mjT_go 1 (pc' := 1) (L' := [some (.ref 86), some (.ref 75), none]) (st' := [.ref 86]) (w1 := (KC, I, J, GC)) rfl ?_
  refine mjT_call (as := [.ref 86]) (rest := []) rfl rfl rfl rfl rfl ⟨rfl, rfl⟩ (hlet) ?_
  rintro _ _ ⟨rfl, I2, rfl, h2, hf2⟩
  refine mjT_go 5 (pc' := if (sI c) - (nI 48) < 0 then 27 else 12) (L' := [some (.ref 86), some (.ref 75), some (.int ((sI c) - (nI 48)))]) (st' := []) (w1 := (KC, I2, J, GC)) rfl ?_
  refine mjT_if (fun h3 => ?_) (fun h3 => ?_)
  · have e := hd.1.mp (Or.inl h3)
    rw [e, ite_self] at e9
    refine mjT_go 1 (pc' := 28) (L' := [some (.ref 86), some (.ref 75), some (.int ((sI c) - (nI 48)))]) (st' := [.int (-1)]) (w1 := (KC, I2, J, GC)) rfl ?_
    refine mjT_ret rfl rfl rfl ?_
    exact ⟨by rw [e9]; rfl, _, rfl, by rw [if_pos e9]; exact h2, hf2⟩
  refine mjT_go 3 (pc' := if nI 8 ≤ (sI c) - (nI 48) then 27 else 18) (L' := [some (.ref 86), some (.ref 75), some (.int ((sI c) - (nI 48)))]) (st' := []) (w1 := (KC, I2, J, GC)) rfl ?_
  refine mjT_if (fun h4 => ?_) (fun h4 => ?_)
  · have e := hd.1.mp (Or.inr h4)
    rw [e, ite_self] at e9
    refine mjT_go 1 (pc' := 28) (L' := [some (.ref 86), some (.ref 75), some (.int ((sI c) - (nI 48)))]) (st' := [.int (-1)]) (w1 := (KC, I2, J, GC)) rfl ?_
    refine mjT_ret rfl rfl rfl ?_
    exact ⟨by rw [e9]; rfl, _, rfl, by rw [if_pos e9]; exact h2, hf2⟩
  have hne : dgC c 7 ≠ 0 := fun e => by
    rcases hd.1.mpr e with z | z
    · exact h3 z
    · exact h4 z
  have hlt := hpo (hn0 hne)
  rw [hd.2 hne]
  refine mjT_go 2 (pc' := 20) (L' := [some (.ref 86), some (.ref 75), some (.int (nI (dgC c 7 - 1)))]) (st' := [.int (nI (dgC c 7 - 1)), .ref 75]) (w1 := (KC, I2, J, GC)) rfl ?_
  refine mjT_callE (as := [.ref 75, .int (nI (dgC c 7 - 1))]) (rest := []) (r1 := some (.int (sI (sitr E (dgC c 7 - 1))))) rfl rfl rfl rfl rfl ⟨rfl, rfl⟩ (by have hh := c_sitterW (J := J) (O := ldO E la dr) hn og_75 (ro_fl hO hf2) (show dgC c 7 - 1 < 8 by omega); rw [sit_ld] at hh; exact hh) ?_
  refine mjT_go 2 (pc' := if sI (sitr E (dgC c 7 - 1)) = (-1) then 29 else 27) (L' := [some (.ref 86), some (.ref 75), some (.int (nI (dgC c 7 - 1)))]) (st' := []) (w1 := (KC, I2, J, GC)) rfl ?_
  refine mjT_if (fun h5 => ?_) (fun h5 => ?_)
  rotate_left
  · rw [sI_m1 (by omega)] at h5
    rw [if_neg h5] at e9
    refine mjT_go 1 (pc' := 28) (L' := [some (.ref 86), some (.ref 75), some (.int (nI (dgC c 7 - 1)))]) (st' := [.int (-1)]) (w1 := (KC, I2, J, GC)) rfl ?_
    refine mjT_ret rfl rfl rfl ?_
    exact ⟨by rw [e9]; rfl, _, rfl, by rw [if_pos e9]; exact h2, hf2⟩
  rw [sI_m1 (by omega)] at h5
  rw [if_pos h5] at e9
  refine mjT_go 2 (pc' := 31) (L' := [some (.ref 86), some (.ref 75), some (.int (nI (dgC c 7 - 1)))]) (st' := [.ref 86, .ref 86]) (w1 := (KC, I2, J, GC)) rfl ?_
  refine mjT_gfi (v := nI (qN tp tl p 9)) rfl (Or.inl rfl) (pc' := 34) rfl rfl (show I2 86 2 = nI (qN tp tl p 9) from h2.ps) ?_
  refine mjT_go 2 (pc' := 36) (L' := [some (.ref 86), some (.ref 75), some (.int (nI (dgC c 7 - 1)))]) (st' := [.int ((nI (qN tp tl p 9)) + (nI 1)), .ref 86]) (w1 := (KC, I2, J, GC)) rfl ?_
  obtain ⟨V1, eV1⟩ : ∃ z, z = mj_row I2 86 (va_up (I2 86) 2 ((nI (qN tp tl p 9)) + (nI 1))) := ⟨_, rfl⟩
  refine mjT_pfi (I' := V1) rfl (pc' := 39) rfl rfl eV1.symm ?_
  rw [nI_add] at eV1
  refine mjT_go 1 (pc' := 40) (L' := [some (.ref 86), some (.ref 75), some (.int (nI (dgC c 7 - 1)))]) (st' := [.int (nI (dgC c 7 - 1))]) (w1 := (KC, V1, J, GC)) rfl ?_
  refine mjT_ret rfl rfl rfl ?_
  refine ⟨?_, _, rfl, by rw [if_neg (by omega)]; exact rd_at h2 (fl_st eV1) (st_at eV1) (by omega), fl_tr hf2 (fl_st eV1)⟩
  rw [e9]
  obtain ⟨v, hv⟩ : ∃ v, dgC c 7 = v + 1 := ⟨dgC c 7 - 1, by omega⟩
  rw [hv, sI_s, Nat.add_sub_cancel]
theorem c_readPerson (hV : VO E) (hn : E.n ≤ 6) (h : RdC tp tl I p) (hO : RO I 75 (ldO E la dr) TT) : mj_E 45 [.ref 86, .ref 75] (KC, I, J, GC) (fun w' r => ∃ I', w' = (KC, I', J, GC) ∧ FrR I I' ∧ ((r = some (.int (nI 1)) ∧ frP tp tl E p = 10 ∧ RdC tp tl I' (rwN tp tl p 10) ∧ RO I' 75 (ldO (adP tp tl E p) la dr) TT) ∨ (r = some (.int (nI 0)) ∧ frP tp tl E p ≠ 10 ∧ RdC tp tl I' (qN tp tl p (frP tp tl E p))))) := by
  have k0 := c_readKind (J := J) h
  have a0 := kd_lt (tkN tp tl p 0)
  have a1 := dg_le (tkN tp tl p 1) 9
  rw [show kdC (lcA tp tl (skN tp tl p)) = gdN tp tl E p 0 from rfl] at k0
  rw [show kdC (tkN tp tl p 0) = gdN tp tl E p 0 from rfl] at a0
  rw [show dgC (tkN tp tl p 1) 9 = gdN tp tl E p 1 from rfl] at a1
  refine mjT_gen fun Q hQ => ?_
  have bad : ∀ (I' : Nat → Nat → Int32) (i : Nat), i < 10 → gdN tp tl E p i = 0 → (∀ j, j < i → gdN tp tl E p j ≠ 0) → FrR I I' → RdC tp tl I' (qN tp tl p i) → Q (KC, I', J, GC) (some (.int (nI 0))) := fun I' i hi h0 hj hf hr => by
    have e : frP tp tl E p = i := fst_at h0 hj hi
    exact hQ _ _ ⟨_, rfl, hf, Or.inr ⟨rfl, by omega, by rw [e]; exact hr⟩⟩
  refine mjT_go 1 (pc' := 1) (L' := [some (.ref 86), some (.ref 75), none, none, none, none]) (st' := [.ref 86]) (w1 := (KC, I, J, GC)) rfl ?_
  refine mjT_call (as := [.ref 86]) (rest := []) rfl rfl rfl rfl rfl ⟨rfl, rfl⟩ (k0) ?_
  rintro _ _ ⟨rfl, I2, rfl, h2, hf2⟩
  obtain ⟨v0, hv0⟩ : ∃ v, gdN tp tl E p 0 = v := ⟨_, rfl⟩
  rw [hv0] at h2 a0 ⊢
  cases v0 with
  | zero =>
    refine mjT_go 3 (pc' := if 0 ≤ sI 0 then 11 else 9) (L' := [some (.ref 86), some (.ref 75), some (.int (sI 0)), none, none, none]) (st' := []) (w1 := (KC, I2, J, GC)) rfl ?_
    refine mjT_ifF (by decide) ?_
    refine mjT_go 1 (pc' := 10) (L' := [some (.ref 86), some (.ref 75), some (.int (sI 0)), none, none, none]) (st' := [.int (nI 0)]) (w1 := (KC, I2, J, GC)) rfl ?_
    refine mjT_retb rfl rfl (by decide) ?_
    exact bad _ 0 (by omega) hv0 (fun _ h => absurd h (by omega)) (fr_fl hf2) (by unfold nxN at h2; rw [if_pos rfl] at h2; exact h2)
  | succ v0 =>
  have h2' : RdC tp tl I2 (rwN tp tl p 1) := by unfold nxN at h2; rw [if_neg (by omega)] at h2; exact h2
  have k1 := c_readDigit (J := J) h2' (Or.inr rfl)
  rw [rw_q, show dgC (lcA tp tl (qN tp tl p 1)) 9 = gdN tp tl E p 1 from rfl] at k1
  have nx10 := nx_0 (tp := tp) (tl := tl) (p := p) (i := 1) (v := gdN tp tl E p 1)
  have nx11 := nx_1 (tp := tp) (tl := tl) (p := p) (i := 1) (v := gdN tp tl E p 1)
  refine mjT_go 3 (pc' := if 0 ≤ nI v0 then 11 else 9) (L' := [some (.ref 86), some (.ref 75), some (.int (nI v0)), none, none, none]) (st' := []) (w1 := (KC, I2, J, GC)) rfl ?_
  refine mjT_ifT (nI_pos' (by omega)) ?_
  refine mjT_go 2 (pc' := 14) (L' := [some (.ref 86), some (.ref 75), some (.int (nI v0)), none, none, none]) (st' := [.int (nI 9), .ref 86]) (w1 := (KC, I2, J, GC)) rfl ?_
  refine mjT_call (as := [.ref 86, .int (nI 9)]) (rest := []) rfl rfl rfl rfl rfl ⟨rfl, rfl⟩ (k1) ?_
  rintro _ _ ⟨rfl, I3, rfl, h3, hf3⟩
  obtain ⟨v1, hv1⟩ : ∃ v, gdN tp tl E p 1 = v := ⟨_, rfl⟩
  rw [hv1] at h3 a1 nx10 nx11 ⊢
  have g0 : ∀ j, j < 1 → gdN tp tl E p j ≠ 0 := fun j hj => by
    obtain rfl : j = 0 := by omega
    omega
  cases v1 with
  | zero =>
    refine mjT_go 3 (pc' := if 0 ≤ sI 0 then 24 else 22) (L' := [some (.ref 86), some (.ref 75), some (.int (nI v0)), some (.int (sI 0)), none, none]) (st' := []) (w1 := (KC, I3, J, GC)) rfl ?_
    refine mjT_ifF (by decide) ?_
    refine mjT_go 1 (pc' := 23) (L' := [some (.ref 86), some (.ref 75), some (.int (nI v0)), some (.int (sI 0)), none, none]) (st' := [.int (nI 0)]) (w1 := (KC, I3, J, GC)) rfl ?_
    refine mjT_retb rfl rfl (by decide) ?_
    exact bad _ 1 (by omega) hv1 g0 (fr_fl (fl_tr hf2 hf3)) (by rw [nx10 rfl] at h3; exact h3)
  | succ v1 =>
  have g1 : ∀ j, j < 2 → gdN tp tl E p j ≠ 0 := fun j hj => by
    obtain rfl | rfl : j = 0 ∨ j = 1 := by omega
    · omega
    · omega
  rw [nx11 (by omega)] at h3
  refine mjT_go 3 (pc' := if 0 ≤ nI v1 then 24 else 22) (L' := [some (.ref 86), some (.ref 75), some (.int (nI v0)), some (.int (nI v1)), none, none]) (st' := []) (w1 := (KC, I3, J, GC)) rfl ?_
  refine mjT_ifT (nI_pos' (by omega)) ?_
  refine mjT_go 1 (pc' := 25) (L' := [some (.ref 86), some (.ref 75), some (.int (nI v0)), some (.int (nI v1)), none, none]) (st' := [.ref 86]) (w1 := (KC, I3, J, GC)) rfl ?_
  refine mjT_call (as := [.ref 86]) (rest := []) rfl rfl rfl rfl rfl ⟨rfl, rfl⟩ (c_readHand (E := E) h3) ?_
  rintro _ _ ⟨I4, rfl, hf4, ⟨rfl, hall, h4⟩ | ⟨rfl, k, hk6, hz, hbk, h4⟩⟩
  rotate_left
  · refine mjT_go 3 (pc' := if (-1) < 0 then 44 else 35) (L' := [some (.ref 86), some (.ref 75), some (.int (nI v0)), some (.int (nI v1)), some (.int (-1)), none]) (st' := []) (w1 := (KC, I4, J, GC)) rfl ?_
    refine mjT_ifT (by decide) ?_
    refine mjT_go 1 (pc' := 45) (L' := [some (.ref 86), some (.ref 75), some (.int (nI v0)), some (.int (nI v1)), some (.int (-1)), none]) (st' := [.int (nI 0)]) (w1 := (KC, I4, J, GC)) rfl ?_
    refine mjT_retb rfl rfl (by decide) ?_
    refine bad _ (2 + k) (by omega) hz (fun j hj => ?_) (fr_fl (fl_tr hf2 (fl_tr hf3 hf4))) h4
    by_cases e : j < 2
    · exact g1 j e
    · have := hbk (j - 2) (by omega)
      rw [show 2 + (j - 2) = j by omega] at this
      exact this
  have g7 : ∀ j, j < 8 → gdN tp tl E p j ≠ 0 := fun j hj => by
    by_cases e : j < 2
    · exact g1 j e
    · have := hall (j - 2) (by omega)
      rw [show 2 + (j - 2) = j by omega] at this
      exact this
  have hdgo : dgo (fun i => gdN tp tl E p (2 + i) - 1) := fun k hk => by
    have h1 := hall k hk
    have h2 := gd_i (tp := tp) (tl := tl) (p := p) (E := E) hk
    have h3 := dg_le (tkN tp tl p (2 + k)) 7
    show gdN tp tl E p (2 + k) - 1 < 8
    omega
  have hrl := rw6_lt hdgo
  have k8 := c_skips (J := J) h4 (show 64 < 127 by omega)
  rw [rw_q, show eqB (lcA tp tl (qN tp tl p 8)) (64 + 1) = gdN tp tl E p 8 from rfl] at k8
  have nx80 := nx_0 (tp := tp) (tl := tl) (p := p) (i := 8) (v := gdN tp tl E p 8)
  have nx81 := nx_1 (tp := tp) (tl := tl) (p := p) (i := 8) (v := gdN tp tl E p 8)
  have b8 : gdN tp tl E p 8 < 2 := eqB_lt _ _
  refine mjT_go 3 (pc' := if nI (rw6 (fun i => gdN tp tl E p (2 + i) - 1)) < 0 then 44 else 35) (L' := [some (.ref 86), some (.ref 75), some (.int (nI v0)), some (.int (nI v1)), some (.int (nI (rw6 (fun i => gdN tp tl E p (2 + i) - 1)))), none]) (st' := []) (w1 := (KC, I4, J, GC)) rfl ?_
  refine mjT_ifF (nI_pos (by omega)) ?_
  refine mjT_go 2 (pc' := 38) (L' := [some (.ref 86), some (.ref 75), some (.int (nI v0)), some (.int (nI v1)), some (.int (nI (rw6 (fun i => gdN tp tl E p (2 + i) - 1)))), none]) (st' := [.int (nI 64), .ref 86]) (w1 := (KC, I4, J, GC)) rfl ?_
  refine mjT_call (as := [.ref 86, .int (nI 64)]) (rest := []) rfl rfl rfl rfl rfl ⟨rfl, rfl⟩ (k8) ?_
  rintro _ _ ⟨rfl, I5, rfl, h5, hf5⟩
  refine mjT_go 1 (pc' := if ¬ nI (gdN tp tl E p 8) = 0 then 46 else 44) (L' := [some (.ref 86), some (.ref 75), some (.int (nI v0)), some (.int (nI v1)), some (.int (nI (rw6 (fun i => gdN tp tl E p (2 + i) - 1)))), none]) (st' := []) (w1 := (KC, I5, J, GC)) rfl ?_
  refine mjT_if_ne (u := gdN tp tl E p 8) (v := 0) rfl nI_0.symm (by omega) (by omega) (fun h6 => ?_) (fun h6 => ?_)
  rotate_left
  · refine mjT_go 1 (pc' := 45) (L' := [some (.ref 86), some (.ref 75), some (.int (nI v0)), some (.int (nI v1)), some (.int (nI (rw6 (fun i => gdN tp tl E p (2 + i) - 1)))), none]) (st' := [.int (nI 0)]) (w1 := (KC, I5, J, GC)) rfl ?_
    refine mjT_retb rfl rfl (by decide) ?_
    exact bad _ 8 (by omega) h6 g7 (fr_fl (fl_tr hf2 (fl_tr hf3 (fl_tr hf4 hf5)))) (by rw [nx80 h6] at h5; exact h5)
  rw [nx81 h6] at h5
  have hfl5 := fl_tr hf2 (fl_tr hf3 (fl_tr hf4 hf5))
  have hO5 := ro_fl hO hfl5
  have g8 : ∀ j, j < 9 → gdN tp tl E p j ≠ 0 := fun j hj => by
    by_cases e : j = 8
    · rw [e]; exact h6
    · exact g7 j (by omega)
  have nx90 := nx_0 (tp := tp) (tl := tl) (p := p) (i := 9) (v := gdN tp tl E p 9)
  have nx91 := nx_1 (tp := tp) (tl := tl) (p := p) (i := 9) (v := gdN tp tl E p 9)
  have e9 := gd_9 (tp := tp) (tl := tl) (p := p) (E := E)
  have a9 := dg_le (tkN tp tl p 9) 7
  refine mjT_go 2 (pc' := 48) (L' := [some (.ref 86), some (.ref 75), some (.int (nI v0)), some (.int (nI v1)), some (.int (nI (rw6 (fun i => gdN tp tl E p (2 + i) - 1)))), none]) (st' := [.ref 75, .ref 86]) (w1 := (KC, I5, J, GC)) rfl ?_
  refine mjT_call (as := [.ref 86, .ref 75]) (rest := []) rfl rfl rfl rfl rfl ⟨rfl, rfl⟩ (c_readFreeChair hV.n h5 hO5) ?_
  rintro _ _ ⟨rfl, I6, rfl, h7, hf6⟩
  obtain ⟨v9, hv9⟩ : ∃ v, gdN tp tl E p 9 = v := ⟨_, rfl⟩
  rw [hv9] at h7 nx90 nx91 ⊢
  cases v9 with
  | zero =>
    refine mjT_go 3 (pc' := if sI 0 < 0 then 75 else 58) (L' := [some (.ref 86), some (.ref 75), some (.int (nI v0)), some (.int (nI v1)), some (.int (nI (rw6 (fun i => gdN tp tl E p (2 + i) - 1)))), some (.int (sI 0))]) (st' := []) (w1 := (KC, I6, J, GC)) rfl ?_
    refine mjT_ifT (by decide) ?_
    refine mjT_go 1 (pc' := 76) (L' := [some (.ref 86), some (.ref 75), some (.int (nI v0)), some (.int (nI v1)), some (.int (nI (rw6 (fun i => gdN tp tl E p (2 + i) - 1)))), some (.int (sI 0))]) (st' := [.int (nI 0)]) (w1 := (KC, I6, J, GC)) rfl ?_
    refine mjT_retb rfl rfl (by decide) ?_
    exact bad _ 9 (by omega) hv9 g8 (fr_fl (fl_tr hfl5 hf6)) (by rw [nx90 rfl] at h7; exact h7)
  | succ v9 =>
  have g9 : ∀ j, j < 10 → gdN tp tl E p j ≠ 0 := fun j hj => by
    by_cases e : j = 9
    · rw [e, hv9]; omega
    · exact g8 j (by omega)
  have hv8 : v9 < 8 := by
    rw [hv9] at e9
    by_cases q : sitr E (dgC (tkN tp tl p 9) 7 - 1) = 0
    · rw [if_pos q] at e9; omega
    · rw [if_neg q] at e9; omega
  rw [nx91 (by omega)] at h7
  have hO6 := ro_fl hO5 hf6
  have hrw : rw6 (fun i => gdN tp tl E p (2 + i) - 1) = rw6 (dig (hdN tp tl E p)) := rw6_congr (fun k hk => ((dig_fg hdgo).2 k hk).symm)
  rw [hrw]
  have eadd : addO (ldO E la dr) v0 v1 (dig (hdN tp tl E p)) v9 = ldO (adP tp tl E p) la dr := by
    unfold adP
    rw [hv0, hv1, hv9]; rfl
  have c1 := c_add (J := J) (k := v0) (s := v1) (d := dig (hdN tp tl E p)) (c := v9) (show (ldO E la dr).n ≤ 7 from hV.n) og_75 hO6 hv8 (show (ldO E la dr).n ≤ 6 from hn)
  rw [eadd] at c1
  have hen : (ldO E la dr).n = E.n := rfl
  refine mjT_go 3 (pc' := if nI v9 < 0 then 75 else 58) (L' := [some (.ref 86), some (.ref 75), some (.int (nI v0)), some (.int (nI v1)), some (.int (nI (rw6 (dig (hdN tp tl E p))))), some (.int (nI v9))]) (st' := []) (w1 := (KC, I6, J, GC)) rfl ?_
  refine mjT_ifF (nI_pos (by omega)) ?_
  refine mjT_go 5 (pc' := 65) (L' := [some (.ref 86), some (.ref 75), some (.int (nI v0)), some (.int (nI v1)), some (.int (nI (rw6 (dig (hdN tp tl E p))))), some (.int (nI v9))]) (st' := [.int (nI v9), .int (nI (rw6 (dig (hdN tp tl E p)))), .int (nI v1), .int (nI v0), .ref 75]) (w1 := (KC, I6, J, GC)) rfl ?_
  refine mjT_call (as := [.ref 75, .int (nI v0), .int (nI v1), .int (nI (rw6 (dig (hdN tp tl E p)))), .int (nI v9)]) (rest := []) rfl rfl rfl rfl rfl ⟨rfl, rfl⟩ (c1) ?_
  rintro _ _ ⟨rfl, I7, rfl, hO7, hf7⟩
  refine mjT_go 1 (pc' := if nI ((ldO E la dr).n) < 0 then 75 else 71) (L' := [some (.ref 86), some (.ref 75), some (.int (nI v0)), some (.int (nI v1)), some (.int (nI (rw6 (dig (hdN tp tl E p))))), some (.int (nI v9))]) (st' := []) (w1 := (KC, I7, J, GC)) rfl ?_
  refine mjT_ifF (nI_pos (by omega)) ?_
  refine mjT_go 2 (pc' := 76) (L' := [some (.ref 86), some (.ref 75), some (.int (nI v0)), some (.int (nI v1)), some (.int (nI (rw6 (dig (hdN tp tl E p))))), some (.int (nI v9))]) (st' := [.int (nI 1)]) (w1 := (KC, I7, J, GC)) rfl ?_
  refine mjT_retb rfl rfl (by decide) ?_
  exact hQ _ _ ⟨_, rfl, frr_tr (fr_fl (fl_tr hfl5 hf6)) (frr_o (fun h hh => hf7 h (by omega))), Or.inl ⟨rfl, fst_no g9, rd_fr h7 (fun h hh => hf7 h (by omega)), hO7⟩⟩
end RO2
