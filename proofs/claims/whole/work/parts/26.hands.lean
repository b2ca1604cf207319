/-! hands, and the class's readers of an office -/
abbrev HO (I : Nat → Nat → Int32) (q : Nat) (O : Off) (P : Nat → Prop) : Prop :=
  (I q 0 = nI O.day) ∧
  (∀ p, p < O.n → P p → I (q + 1) p = nI (rw6 (O.wr p))) ∧
  (∀ p, p < O.n → P p → ∀ k, k < 6 → I (q + 2) (6 * p + k) = tI (O.till p k))
theorem HO.day {I : Nat → Nat → Int32} {q : Nat} {O : Off} {P : Nat → Prop} (h : HO I q O P) : I q 0 = nI O.day := h.1
theorem HO.wr {I : Nat → Nat → Int32} {q : Nat} {O : Off} {P : Nat → Prop} (h : HO I q O P) : ∀ p, p < O.n → P p → I (q + 1) p = nI (rw6 (O.wr p)) := h.2.1
theorem HO.till {I : Nat → Nat → Int32} {q : Nat} {O : Off} {P : Nat → Prop} (h : HO I q O P) : ∀ p, p < O.n → P p → ∀ k, k < 6 → I (q + 2) (6 * p + k) = tI (O.till p k) := h.2.2
theorem sitL_ch {O O' : Off} (h : O.chair = O'.chair) (c : Nat) : ∀ q, sitL O c q = sitL O' c q
  | 0 => rfl
  | q + 1 => by unfold sitL; rw [sitL_ch h c q, h]
theorem ho_of {I : Nat → Nat → Int32} {o : Nat} {O : Off} {P : Nat → Prop} (h : RO I o O P) : HO I (o + 1) O P := ⟨h.day, h.wr, h.till⟩
theorem ho_ext {I : Nat → Nat → Int32} {q n day wet dry las draw : Nat} {kind str chair : Nat → Nat} {own wr till wr' till' : Nat → Nat → Nat} {P : Nat → Prop} (hO : HO I q (mkO n day wet dry las draw kind str chair own wr till) P) (h1 : ∀ p, p < n → P p → ∀ k, k < 6 → wr p k = wr' p k) (h2 : ∀ p, p < n → P p → ∀ k, k < 6 → till p k = till' p k) : HO I q (mkO n day wet dry las draw kind str chair own wr' till') P :=
  ⟨hO.day, fun p hp hP => (hO.wr p hp hP).trans (congrArg nI (rw6_congr (h1 p hp hP))), fun p hp hP k hk => (hO.till p hp hP k hk).trans (congrArg tI (h2 p hp hP k hk))⟩
theorem ro_hands {I I' : Nat → Nat → Int32} {o n day wet dry las draw d : Nat} {kind str chair : Nat → Nat} {own wr till wr' till' : Nat → Nat → Nat} {P : Nat → Prop} (hO : RO I o (mkO n day wet dry las draw kind str chair own wr till) P) (hf : ∀ h, h ≠ o + 1 → h ≠ o + 2 → h ≠ o + 3 → h ≠ o + 10 → I' h = I h) (hh : HO I' (o + 1) (mkO n d wet dry las draw kind str chair own wr' till') P) : RO I' o (mkO n d wet dry las draw kind str chair own wr' till') P := by
  have e0 : I' o = I o := hf o (by omega) (by omega) (by omega) (by omega)
  have e4 : I' (o + 4) = I (o + 4) := hf _ (by omega) (by omega) (by omega) (by omega)
  have e5 : I' (o + 5) = I (o + 5) := hf _ (by omega) (by omega) (by omega) (by omega)
  have e6 : I' (o + 6) = I (o + 6) := hf _ (by omega) (by omega) (by omega) (by omega)
  have e7 : I' (o + 7) = I (o + 7) := hf _ (by omega) (by omega) (by omega) (by omega)
  refine ⟨?_, ?_, ?_, ?_, ?_, hh.day, ?_, ?_, ?_, ?_, hh.wr, hh.till⟩
  · rw [e0]; exact hO.n
  · rw [e0]; exact hO.dry
  · rw [e0]; exact hO.wet
  · rw [e0]; exact hO.las
  · rw [e0]; exact hO.draw
  · intro p hp; rw [e4]; exact hO.kind p hp
  · intro p hp; rw [e5]; exact hO.str p hp
  · intro p hp; rw [e6]; exact hO.own p hp
  · intro c hc; rw [e7]; exact (hO.sit c hc).trans (congrArg sI (sitL_ch (O := mkO n day wet dry las draw kind str chair own wr till) (O' := mkO n d wet dry las draw kind str chair own wr' till') rfl c n))
theorem ho_cong {I I' : Nat → Nat → Int32} {q : Nat} {O : Off} {P : Nat → Prop} (hO : HO I q O P) (h0 : I' q = I q) (h1 : I' (q + 1) = I (q + 1)) (h2 : I' (q + 2) = I (q + 2)) : HO I' q O P := by
  refine ⟨?_, ?_, ?_⟩
  · rw [h0]; exact hO.day
  · intro p hp hP; rw [h1]; exact hO.wr p hp hP
  · intro p hp hP k hk; rw [h2]; exact hO.till p hp hP k hk
section H1
variable {I : Nat → Nat → Int32} {J : Nat → Nat → Int64} {q o : Nat} {O : Off} {P : Nat → Prop}
theorem c_endOf (hV : VO O) (hG : HaG q) (hO : HO I q O P) {p k : Nat} (hp : p < O.n) (hP : P p) (hk : k < 6) : mj_Ev 3 [.ref q, .int (nI p), .int (nI k)] (KC, I, J, GC) (KC, I, J, GC) (some (.int (tI (O.till p k)))) := by
  refine mj_ev_of ?_
  have hn := hV.n
  refine mjT_go 1 (pc' := 1) (L' := [some (.ref q), some (.int (nI p)), some (.int (nI k))]) (st' := [.ref q]) (w1 := (KC, I, J, GC)) rfl ?_
  refine mjT_gfr (h' := (q + 2)) rfl (pc' := 4) rfl hG.k0 hG.r2 ?_
  refine mjT_go 5 (pc' := 10) (L' := [some (.ref q), some (.int (nI p)), some (.int (nI k))]) (st' := [.int (((nI p) * (nI 6)) + (nI k)), .ref (q + 2)]) (w1 := (KC, I, J, GC)) rfl ?_
  refine mjT_ial (v := tI (O.till p k)) ((p * 6) + k) 42 rfl (pc' := 11) rfl hG.k2 (by simp only [nI_add, pk_mul]) (by omega) (by omega) (mo_at (hO.till p (show p < O.n by omega) (by first | trivial | assumption | simp_all) k (by omega)) (by omega) (by omega)) ?_
  refine mjT_ret rfl rfl rfl ?_
  exact ⟨rfl, rfl⟩
theorem shm : ∀ p, p < 6 → nI 7 <<< (nI 15 - nI 3 * nI p &&& 31) = nI (rw6 (mkN p)) := by decide
theorem c_write (hV : VO O) (hG : HaG q) (hO : HO I q O P) {p k t : Nat} {e : Nat → Nat} (hp : p < O.n) (hP : P p) (hk : k < 6) (he : dgo e) : mj_E 6 [.ref q, .int (nI p), .int (nI k), .int (nI (rw6 e)), .int (tI t)] (KC, I, J, GC) (fun w' r => r = none ∧ ∃ I', w' = (KC, I', J, GC) ∧ HO I' q (setTi (setWr O p k (e k)) p k t) P ∧ ∀ h, h ≠ q + 1 → h ≠ q + 2 → I' h = I h) := by
  have hn := hV.n
  have hw := hV.wr p hp
  refine mjT_go 6 (pc' := 8) (L' := [some (.ref q), some (.int (nI p)), some (.int (nI k)), some (.int (nI (rw6 e))), some (.int (tI t)), none]) (st' := [.int ((nI 15) - ((nI 3) * (nI k))), .int (nI 7)]) (w1 := (KC, I, J, GC)) rfl ?_
  refine mjT_go 1 (pc' := 9) (L' := [some (.ref q), some (.int (nI p)), some (.int (nI k)), some (.int (nI (rw6 e))), some (.int (tI t)), none]) (st' := [.int ((nI 7) <<< (((nI 15) - ((nI 3) * (nI k))) &&& 31))]) (w1 := (KC, I, J, GC)) rfl ?_
  rw [shm k hk]
  refine mjT_go 2 (pc' := 12) (L' := [some (.ref q), some (.int (nI p)), some (.int (nI k)), some (.int (nI (rw6 e))), some (.int (tI t)), some (.int (nI (rw6 (mkN k))))]) (st' := [.ref q]) (w1 := (KC, I, J, GC)) rfl ?_
  refine mjT_gfr (h' := (q + 1)) rfl (pc' := 15) rfl hG.k0 hG.r1 ?_
  refine mjT_go 2 (pc' := 17) (L' := [some (.ref q), some (.int (nI p)), some (.int (nI k)), some (.int (nI (rw6 e))), some (.int (tI t)), some (.int (nI (rw6 (mkN k))))]) (st' := [.ref q, .int (nI p), .ref (q + 1)]) (w1 := (KC, I, J, GC)) rfl ?_
  refine mjT_gfr (h' := (q + 1)) rfl (pc' := 20) rfl hG.k0 hG.r1 ?_
  refine mjT_go 1 (pc' := 21) (L' := [some (.ref q), some (.int (nI p)), some (.int (nI k)), some (.int (nI (rw6 e))), some (.int (tI t)), some (.int (nI (rw6 (mkN k))))]) (st' := [.int (nI p), .ref (q + 1), .int (nI p), .ref (q + 1)]) (w1 := (KC, I, J, GC)) rfl ?_
  refine mjT_ial (v := nI (rw6 (O.wr p))) p 7 rfl (pc' := 22) rfl hG.k1 rfl (by omega) (by omega) (mo_at (hO.wr p (show p < O.n by omega) (by first | trivial | assumption | simp_all)) (by omega) (by omega)) ?_
  refine mjT_go 8 (pc' := 32) (L' := [some (.ref q), some (.int (nI p)), some (.int (nI k)), some (.int (nI (rw6 e))), some (.int (tI t)), some (.int (nI (rw6 (mkN k))))]) (st' := [.int (((nI (rw6 (O.wr p))) &&& ((nI (rw6 (mkN k))) ^^^ (-1))) ||| ((nI (rw6 e)) &&& (nI (rw6 (mkN k))))), .int (nI p), .ref (q + 1)]) (w1 := (KC, I, J, GC)) rfl ?_
  rw [m1_nI, nI_xor, nI_and, nI_and, nI_or, wr_bits hw he k]
  obtain ⟨V1, eV1⟩ : ∃ z, z = mj_row I (q + 1) (va_up (I (q + 1)) p (nI (rw6 (fun j => if j = k then e j else O.wr p j)))) := ⟨_, rfl⟩
  refine mjT_ias (I' := V1) p 7 rfl (pc' := 33) rfl hG.k1 rfl (by omega) (by omega) eV1.symm ?_
  refine mjT_go 1 (pc' := 34) (L' := [some (.ref q), some (.int (nI p)), some (.int (nI k)), some (.int (nI (rw6 e))), some (.int (tI t)), some (.int (nI (rw6 (mkN k))))]) (st' := [.ref q]) (w1 := (KC, V1, J, GC)) rfl ?_
  refine mjT_gfr (h' := (q + 2)) rfl (pc' := 37) rfl hG.k0 hG.r2 ?_
  refine mjT_go 6 (pc' := 45) (L' := [some (.ref q), some (.int (nI p)), some (.int (nI k)), some (.int (nI (rw6 e))), some (.int (tI t)), some (.int (nI (rw6 (mkN k))))]) (st' := [.int (tI t), .int (((nI p) * (nI 6)) + (nI k)), .ref (q + 2)]) (w1 := (KC, V1, J, GC)) rfl ?_
  obtain ⟨V2, eV2⟩ : ∃ z, z = mj_row V1 (q + 2) (va_up (V1 (q + 2)) ((p * 6) + k) (tI t)) := ⟨_, rfl⟩
  refine mjT_ias (I' := V2) ((p * 6) + k) 42 rfl (pc' := 46) rfl hG.k2 (by simp only [nI_add, pk_mul]) (by omega) (by omega) eV2.symm ?_
  refine mjT_ret rfl rfl rfl ?_
  refine ⟨rfl, _, rfl, ⟨?_, ?_, ?_⟩, fun h h1 h2 => by rw [st_h eV2 h2, st_h eV1 h1]⟩
  · rw [st_h eV2 (by omega), st_h eV1 (by omega)]; exact hO.day
  · intro a (ha : a < O.n) hPa
    rw [st_h eV2 (by omega)]
    show V1 (q + 1) a = nI (rw6 (fun j => if a = p ∧ j = k then e k else O.wr a j))
    by_cases h : a = p
    · subst h
      rw [st_at eV1]
      refine congrArg nI (rw6_congr fun j hj => ?_)
      by_cases h2 : j = k
      · subst h2; rw [if_pos rfl, if_pos ⟨rfl, rfl⟩]
      · rw [if_neg h2, if_neg (fun z => h2 z.2)]
    · rw [st_ne eV1 h]
      refine (hO.wr a ha hPa).trans (congrArg nI (rw6_congr fun j hj => ?_))
      rw [if_neg (fun z => h z.1)]
  · intro a (ha : a < O.n) hPa j hj
    show V2 (q + 2) _ = tI (if a = p ∧ j = k then t else O.till a j)
    by_cases h : a = p ∧ j = k
    · obtain ⟨rfl, rfl⟩ := h
      rw [if_pos ⟨rfl, rfl⟩]
      exact mo_at (st_at eV2) rfl (by omega)
    · rw [if_neg h, st_ne eV2 (by omega), st_h eV1 (by omega)]
      exact hO.till a ha hPa j hj
/-- given back where D says so -/
def gdO (O : Off) (D : Nat → Nat → Bool) : Off := mkO O.n O.day O.wet O.dry O.las O.draw O.kind O.str O.chair O.own (fun p k => if D p k = true then gvN O p k else O.wr p k) (fun p k => if D p k = true then gtN O p k else O.till p k)
theorem v_gd {O : Off} (hV : VO O) (D : Nat → Nat → Bool) : VO (gdO O D) := by
  refine ⟨hV.n, hV.day, hV.wet, hV.dry, hV.las, hV.draw, hV.kind, hV.str, hV.chair, hV.inj, hV.own, ?_, ?_⟩
  · intro p hp k hk
    show (if D p k = true then gvN O p k else O.wr p k) < 8
    split
    · exact gv_lt hV hp hk
    · exact hV.wr p hp k hk
  · intro p hp k hk
    show (if D p k = true then gtN O p k else O.till p k) ≤ 30000
    have h3 := hV.till p hp k hk
    split
    · unfold gtN; split <;> omega
    · exact h3
theorem gt_ne (O : Off) (p k : Nat) : gtN O p k ≠ O.day + 1 := by
  unfold gtN; split <;> omega
theorem same_k {D : Nat → Nat → Bool} {a p j k : Nat} (h : ¬ (a = p ∧ j = k)) : (D a j || (a == p && decide (j < k + 1))) = (D a j || (a == p && decide (j < k))) := by
  by_cases e : a = p
  · subst e
    have : j ≠ k := fun z => h ⟨rfl, z⟩
    have e2 : decide (j < k + 1) = decide (j < k) := decide_eq_decide.mpr (by omega)
    rw [e2]
  · have : (a == p) = false := beq_false_of_ne e
    rw [this]; rfl
theorem c_giveBack (hV : VO O) (hG : HaG q) (D : Nat → Nat → Bool) (hO : HO I q (gdO O D) P) {p : Nat} (hp : p < O.n) (hP : P p) : mj_E 5 [.ref q, .int (nI p), .int (nI (rw6 (O.own p)))] (KC, I, J, GC) (fun w' r => r = none ∧ ∃ I', w' = (KC, I', J, GC) ∧ HO I' q (gdO O (fun a j => D a j || a == p)) P ∧ ∀ h, h ≠ q + 1 → h ≠ q + 2 → I' h = I h) := by
  have hn := hV.n
  have hd := hV.day
  have ho := hV.own p hp
  refine mjT_go 2 (pc' := 2) (L' := [some (.ref q), some (.int (nI p)), some (.int (nI (rw6 (O.own p)))), some (.int (nI 0))]) (st' := []) (w1 := (KC, I, J, GC)) rfl ?_
  refine mj_loop (fun k L w => ∃ I', L = [some (.ref q), some (.int (nI p)), some (.int (nI (rw6 (O.own p)))), some (.int (nI k))] ∧ w = (KC, I', J, GC) ∧ HO I' q (gdO O (fun a j => D a j || (a == p && decide (j < k)))) P ∧ ∀ h, h ≠ q + 1 → h ≠ q + 2 → I' h = I h) 6 (k0 := 0) (Nat.zero_le _) ?_ ?_ ?_
  · refine ⟨_, rfl, rfl, ho_ext hO ?_ ?_, fun _ _ _ => rfl⟩
    · intro a ha hPa j hj; simp
    · intro a ha hPa j hj; simp
  · rintro k _ _ hk ⟨I1, rfl, rfl, hO1, hf1⟩ hc
    have hV1 := v_gd hV (fun a j => D a j || (a == p && decide (j < k)))
    have ht := hV1.till p hp k hk
    generalize hT : (gdO O (fun a j => D a j || (a == p && decide (j < k)))).till p k = T at ht
    have hT2 : T = if D p k = true then gtN O p k else O.till p k := by rw [← hT]; simp [gdO, Off.till, mkO]
    refine mjT_go 3 (pc' := if nI 6 ≤ nI k then 36 else 8) (L' := [some (.ref q), some (.int (nI p)), some (.int (nI (rw6 (O.own p)))), some (.int (nI k))]) (st' := []) (w1 := (KC, I1, J, GC)) rfl ?_
    refine mjT_ifF (nI_ge (by omega) (by omega)) ?_
    refine mjT_go 3 (pc' := 11) (L' := [some (.ref q), some (.int (nI p)), some (.int (nI (rw6 (O.own p)))), some (.int (nI k))]) (st' := [.int (nI k), .int (nI p), .ref q]) (w1 := (KC, I1, J, GC)) rfl ?_
    refine mjT_callE (as := [.ref q, .int (nI p), .int (nI k)]) (rest := []) rfl rfl rfl (mj_callI rfl rfl hG.k0) rfl ⟨rfl, rfl⟩ (hT ▸ c_endOf hV1 hG hO1 hp hP hk) ?_
    refine mjT_go 1 (pc' := 15) (L' := [some (.ref q), some (.int (nI p)), some (.int (nI (rw6 (O.own p)))), some (.int (nI k))]) (st' := [.ref q, .int (tI T)]) (w1 := (KC, I1, J, GC)) rfl ?_
    refine mjT_gfi (v := nI O.day) rfl (Or.inl rfl) (pc' := 18) rfl hG.k0 (mo_at (hO1.day) (by omega) (by omega)) ?_
    refine mjT_go 1 (pc' := if ¬ tI T = nI O.day then 30 else 21) (L' := [some (.ref q), some (.int (nI p)), some (.int (nI (rw6 (O.own p)))), some (.int (nI k))]) (st' := []) (w1 := (KC, I1, J, GC)) rfl ?_
    refine mjT_if (fun hq => ?_) (fun hq => ?_)
    · rw [tI_eq (by omega) (by omega)] at hq
      refine mjT_go 2 (pc' := 2) (L' := [some (.ref q), some (.int (nI p)), some (.int (nI (rw6 (O.own p)))), some (.int ((nI k) + (nI 1)))]) (st' := []) (w1 := (KC, I1, J, GC)) rfl ?_
      rw [nI_add]
      refine hc _ _ ⟨_, rfl, rfl, ho_ext hO1 ?_ ?_, hf1⟩
      · intro a ha hPa j hj
        by_cases h : a = p ∧ j = k
        · obtain ⟨rfl, rfl⟩ := h
          cases hD : D a j with
          | true => simp [hD]
          | false =>
            rw [hD] at hT2
            have hng : gvN O a j = O.wr a j := if_neg (fun z => hq (hT2.trans z))
            simp [hD, hng]
        · simp only [same_k (D := D) h]
      · intro a ha hPa j hj
        by_cases h : a = p ∧ j = k
        · obtain ⟨rfl, rfl⟩ := h
          cases hD : D a j with
          | true => simp [hD]
          | false =>
            rw [hD] at hT2
            have hng : gtN O a j = O.till a j := if_neg (fun z => hq (hT2.trans z))
            simp [hD, hng]
        · simp only [same_k (D := D) h]
    · have hq := Decidable.not_not.mp hq
      rw [tI_eq (by omega) (by omega)] at hq
      have hDf : D p k = false := by
        cases hD : D p k with
        | true => rw [hD] at hT2; exact absurd (hT2.symm.trans hq) (gt_ne O p k)
        | false => rfl
      rw [hDf] at hT2
      have hg1 : gvN O p k = O.own p k := if_pos (hT2.symm.trans hq)
      have hg2 : gtN O p k = 0 := if_pos (hT2.symm.trans hq)
      refine mjT_go 5 (pc' := 27) (L' := [some (.ref q), some (.int (nI p)), some (.int (nI (rw6 (O.own p)))), some (.int (nI k))]) (st' := [.int (-4), .int (nI (rw6 (O.own p))), .int (nI k), .int (nI p), .ref q]) (w1 := (KC, I1, J, GC)) rfl ?_
      rw [show (-4 : Int32) = tI 0 from rfl]
      refine mjT_call (as := [.ref q, .int (nI p), .int (nI k), .int (nI (rw6 (O.own p))), .int (tI 0)]) (rest := []) rfl rfl rfl (mj_callI rfl rfl hG.k0) rfl ⟨rfl, rfl⟩ (c_write hV1 hG hO1 hp hP hk ho (t := 0)) ?_
      rintro _ _ ⟨rfl, I2, rfl, hO2, hf2⟩
      refine mjT_go 2 (pc' := 2) (L' := [some (.ref q), some (.int (nI p)), some (.int (nI (rw6 (O.own p)))), some (.int ((nI k) + (nI 1)))]) (st' := []) (w1 := (KC, I2, J, GC)) rfl ?_
      rw [nI_add]
      refine hc _ _ ⟨_, rfl, rfl, ho_ext hO2 ?_ ?_, fun h h1 h2 => (hf2 h h1 h2).trans (hf1 h h1 h2)⟩
      · intro a ha hPa j hj
        by_cases h : a = p ∧ j = k
        · refine (if_pos h).trans ?_
          obtain ⟨rfl, rfl⟩ := h
          simp [hDf, hg1]
        · refine (if_neg h).trans ?_
          show (if _ then _ else _) = _
          simp only [same_k (D := D) h]
      · intro a ha hPa j hj
        by_cases h : a = p ∧ j = k
        · refine (if_pos h).trans ?_
          obtain ⟨rfl, rfl⟩ := h
          simp [hDf, hg2]
        · refine (if_neg h).trans ?_
          show (if _ then _ else _) = _
          simp only [same_k (D := D) h]
  · rintro _ _ ⟨I1, rfl, rfl, hO1, hf1⟩
    refine mjT_go 3 (pc' := if nI 6 ≤ nI 6 then 36 else 8) (L' := [some (.ref q), some (.int (nI p)), some (.int (nI (rw6 (O.own p)))), some (.int (nI 6))]) (st' := []) (w1 := (KC, I1, J, GC)) rfl ?_
    refine mjT_ifT (Int32.le_refl _) ?_
    refine mjT_ret rfl rfl rfl ?_
    refine ⟨rfl, _, rfl, ho_ext hO1 ?_ ?_, hf1⟩
    · intro a ha hPa j hj; simp [hj]
    · intro a ha hPa j hj; simp [hj]
end H1
