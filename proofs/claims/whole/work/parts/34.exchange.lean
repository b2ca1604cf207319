/-! exchanges, foretelling -/
def exC (a b c : Nat) : Nat := if c = a then b else if c = b then a else c
def exO (O : Off) (a b : Nat) : Off := mkO O.n O.day O.wet O.dry O.las O.draw O.kind O.str (fun p => exC a b (O.chair p)) O.own O.wr O.till
theorem exC_lt {a b c : Nat} (ha : a < 8) (hb : b < 8) (hc : c < 8) : exC a b c < 8 := by
  unfold exC
  split
  · exact hb
  · split
    · exact ha
    · exact hc
theorem exC_inv (a b c : Nat) : exC a b (exC a b c) = c := by
  unfold exC
  by_cases h1 : c = a
  · rw [if_pos h1]
    by_cases h2 : b = a
    · rw [if_pos h2]; omega
    · rw [if_neg h2, if_pos rfl]; exact h1.symm
  · rw [if_neg h1]
    by_cases h2 : c = b
    · rw [if_pos h2, if_pos rfl]; exact h2.symm
    · rw [if_neg h2, if_neg h1, if_neg h2]
theorem v_ex {O : Off} (hV : VO O) {a b : Nat} (ha : a < 8) (hb : b < 8) : VO (exO O a b) := by
  refine ⟨hV.n, hV.day, hV.wet, hV.dry, hV.las, hV.draw, hV.kind, hV.str, fun p hp => exC_lt ha hb (hV.chair p hp), fun p q hp hq h => ?_, hV.own, hV.wr, hV.till⟩
  have h' : exC a b (O.chair p) = exC a b (O.chair q) := h
  have := congrArg (exC a b) h'
  rw [exC_inv, exC_inv] at this
  exact hV.inj p q hp hq this
theorem sit_ex {O : Off} (hV : VO O) {a b c : Nat} (ha : a < 8) (hb : b < 8) : sitr (exO O a b) c = sitr O (exC a b c) := by
  have hV2 := v_ex hV ha hb
  have key : ∀ p, sitr (exO O a b) c = p + 1 ↔ sitr O (exC a b c) = p + 1 := fun p => by
    rw [sitr_iff hV2, sitr_iff hV]
    show p < O.n ∧ exC a b (O.chair p) = c ↔ p < O.n ∧ O.chair p = exC a b c
    constructor
    · rintro ⟨h1, h2⟩; exact ⟨h1, by rw [← h2, exC_inv]⟩
    · rintro ⟨h1, h2⟩; exact ⟨h1, by rw [h2, exC_inv]⟩
  rcases Nat.eq_zero_or_pos (sitr (exO O a b) c) with z | z
  · rcases Nat.eq_zero_or_pos (sitr O (exC a b c)) with y | y
    · omega
    · have := (key (sitr O (exC a b c) - 1)).mpr (by omega); omega
  · have := (key (sitr (exO O a b) c - 1)).mp (by omega); omega
theorem nI_surj (x : Int32) : ∃ n, x = nI n := ⟨x.toBitVec.toNat, by
  apply Int32.toBitVec_inj.mp
  show x.toBitVec = BitVec.ofNat 32 _
  rw [BitVec.ofNat_toNat, BitVec.setWidth_eq]⟩
def dryO (O : Off) (d : Nat) : Off := mkO O.n O.day O.wet d O.las O.draw O.kind O.str O.chair O.own O.wr O.till
def lasO (O : Off) (l : Nat) : Off := mkO O.n O.day O.wet O.dry l O.draw O.kind O.str O.chair O.own O.wr O.till
theorem v_dry {O : Off} (hV : VO O) {d : Nat} (hd : d < 256) : VO (dryO O d) := ⟨hV.n, hV.day, hV.wet, hd, hV.las, hV.draw, hV.kind, hV.str, hV.chair, hV.inj, hV.own, hV.wr, hV.till⟩
theorem v_las {O : Off} (hV : VO O) {l : Nat} (hl : 1 ≤ l ∧ l ≤ 30) : VO (lasO O l) := ⟨hV.n, hV.day, hV.wet, hV.dry, hl, hV.draw, hV.kind, hV.str, hV.chair, hV.inj, hV.own, hV.wr, hV.till⟩
section EX
variable {I I' : Nat → Nat → Int32} {J : Nat → Nat → Int64} {o : Nat} {O : Off} {P : Nat → Prop}
theorem ro_ex {a b : Nat} (hV : VO O) (ha : a < 8) (hb : b < 8) (hO : RO I o O P) (hs : ∀ c, c < 8 → I' (o + 7) c = I (o + 7) (exC a b c)) (hf : ∀ h, h ≠ o + 7 → I' h = I h) : RO I' o (exO O a b) P := by
  refine ⟨?_, ?_, ?_, ?_, ?_, ?_, ?_, ?_, ?_, ?_, ?_, ?_⟩
  · rw [hf _ (by omega)]; exact hO.n
  · rw [hf _ (by omega)]; exact hO.dry
  · rw [hf _ (by omega)]; exact hO.wet
  · rw [hf _ (by omega)]; exact hO.las
  · rw [hf _ (by omega)]; exact hO.draw
  · rw [hf _ (by omega)]; exact hO.day
  · rw [hf _ (by omega)]; exact hO.kind
  · rw [hf _ (by omega)]; exact hO.str
  · rw [hf _ (by omega)]; exact hO.own
  · intro c hc; rw [hs c hc, sit_ex hV ha hb]; exact hO.sit _ (exC_lt ha hb hc)
  · rw [hf _ (by omega)]; exact hO.wr
  · rw [hf _ (by omega)]; exact hO.till
theorem ro_dry {d : Nat} (hO : RO I o O P) (e : I' = mj_row I o (va_up (I o) 1 (nI d))) : RO I' o (dryO O d) P := by
  refine ⟨?_, st_at e, ?_, ?_, ?_, ?_, ?_, ?_, ?_, ?_, ?_, ?_⟩
  · rw [st_ne e (by omega)]; exact hO.n
  · rw [st_ne e (by omega)]; exact hO.wet
  · rw [st_ne e (by omega)]; exact hO.las
  · rw [st_ne e (by omega)]; exact hO.draw
  · rw [st_h e (by omega)]; exact hO.day
  · rw [st_h e (by omega)]; exact hO.kind
  · rw [st_h e (by omega)]; exact hO.str
  · rw [st_h e (by omega)]; exact hO.own
  · intro c hc; rw [st_h e (by omega)]; exact (hO.sit c hc).trans (congrArg sI (sitL_ch (O := O) (O' := dryO O d) rfl c O.n))
  · rw [st_h e (by omega)]; exact hO.wr
  · rw [st_h e (by omega)]; exact hO.till
theorem ro_las {l : Nat} (hO : RO I o O P) (e : I' = mj_row I o (va_up (I o) 3 (nI l))) : RO I' o (lasO O l) P := by
  refine ⟨?_, ?_, ?_, st_at e, ?_, ?_, ?_, ?_, ?_, ?_, ?_, ?_⟩
  · rw [st_ne e (by omega)]; exact hO.n
  · rw [st_ne e (by omega)]; exact hO.dry
  · rw [st_ne e (by omega)]; exact hO.wet
  · rw [st_ne e (by omega)]; exact hO.draw
  · rw [st_h e (by omega)]; exact hO.day
  · rw [st_h e (by omega)]; exact hO.kind
  · rw [st_h e (by omega)]; exact hO.str
  · rw [st_h e (by omega)]; exact hO.own
  · intro c hc; rw [st_h e (by omega)]; exact (hO.sit c hc).trans (congrArg sI (sitL_ch (O := O) (O' := lasO O l) rfl c O.n))
  · rw [st_h e (by omega)]; exact hO.wr
  · rw [st_h e (by omega)]; exact hO.till
theorem c_exchange (hV : VO O) (hG : OfG o) (hO : RO I o O P) {a b : Nat} (ha : a < 8) (hb : b < 8) : mj_E 19 [.ref o, .int (nI a), .int (nI b)] (KC, I, J, GC) (fun w' r => r = none ∧ ∃ I', w' = (KC, I', J, GC) ∧ RO I' o (exO O a b) P ∧ ∀ h, h ≠ o + 7 → I' h = I h) := by
  refine mjT_go 2 (pc' := if nI a < 0 then 20 else 4) (L' := [some (.ref o), some (.int (nI a)), some (.int (nI b)), none]) (st' := []) (w1 := (KC, I, J, GC)) rfl ?_
  refine mjT_ifF (nI_pos (by omega)) ?_
  refine mjT_go 3 (pc' := if nI 8 ≤ nI a then 20 else 10) (L' := [some (.ref o), some (.int (nI a)), some (.int (nI b)), none]) (st' := []) (w1 := (KC, I, J, GC)) rfl ?_
  refine mjT_ifF (nI_ge (by omega) (by omega)) ?_
  refine mjT_go 2 (pc' := if nI b < 0 then 20 else 14) (L' := [some (.ref o), some (.int (nI a)), some (.int (nI b)), none]) (st' := []) (w1 := (KC, I, J, GC)) rfl ?_
  refine mjT_ifF (nI_pos (by omega)) ?_
  refine mjT_go 3 (pc' := if nI b < nI 8 then 21 else 20) (L' := [some (.ref o), some (.int (nI a)), some (.int (nI b)), none]) (st' := []) (w1 := (KC, I, J, GC)) rfl ?_
  refine mjT_ifT (nI_lt (by omega) (by omega)) ?_
  refine mjT_go 1 (pc' := 22) (L' := [some (.ref o), some (.int (nI a)), some (.int (nI b)), none]) (st' := [.ref o]) (w1 := (KC, I, J, GC)) rfl ?_
  refine mjT_gfr (h' := (o + 7)) rfl (pc' := 25) rfl hG.k0 hG.r7 ?_
  refine mjT_go 1 (pc' := 26) (L' := [some (.ref o), some (.int (nI a)), some (.int (nI b)), none]) (st' := [.int (nI a), .ref (o + 7)]) (w1 := (KC, I, J, GC)) rfl ?_
  refine mjT_ial (v := I (o + 7) a) a 8 rfl (pc' := 27) rfl hG.k7 rfl (by omega) (by omega) rfl ?_
  refine mjT_go 2 (pc' := 29) (L' := [some (.ref o), some (.int (nI a)), some (.int (nI b)), some (.int (I (o + 7) a))]) (st' := [.ref o]) (w1 := (KC, I, J, GC)) rfl ?_
  refine mjT_gfr (h' := (o + 7)) rfl (pc' := 32) rfl hG.k0 hG.r7 ?_
  refine mjT_go 2 (pc' := 34) (L' := [some (.ref o), some (.int (nI a)), some (.int (nI b)), some (.int (I (o + 7) a))]) (st' := [.ref o, .int (nI a), .ref (o + 7)]) (w1 := (KC, I, J, GC)) rfl ?_
  refine mjT_gfr (h' := (o + 7)) rfl (pc' := 37) rfl hG.k0 hG.r7 ?_
  refine mjT_go 1 (pc' := 38) (L' := [some (.ref o), some (.int (nI a)), some (.int (nI b)), some (.int (I (o + 7) a))]) (st' := [.int (nI b), .ref (o + 7), .int (nI a), .ref (o + 7)]) (w1 := (KC, I, J, GC)) rfl ?_
  refine mjT_ial (v := I (o + 7) b) b 8 rfl (pc' := 39) rfl hG.k7 rfl (by omega) (by omega) rfl ?_
  obtain ⟨V1, eV1⟩ : ∃ z, z = mj_row I (o + 7) (va_up (I (o + 7)) a (I (o + 7) b)) := ⟨_, rfl⟩
  refine mjT_ias (I' := V1) a 8 rfl (pc' := 40) rfl hG.k7 rfl (by omega) (by omega) eV1.symm ?_
  refine mjT_go 1 (pc' := 41) (L' := [some (.ref o), some (.int (nI a)), some (.int (nI b)), some (.int (I (o + 7) a))]) (st' := [.ref o]) (w1 := (KC, V1, J, GC)) rfl ?_
  refine mjT_gfr (h' := (o + 7)) rfl (pc' := 44) rfl hG.k0 hG.r7 ?_
  refine mjT_go 2 (pc' := 46) (L' := [some (.ref o), some (.int (nI a)), some (.int (nI b)), some (.int (I (o + 7) a))]) (st' := [.int (I (o + 7) a), .int (nI b), .ref (o + 7)]) (w1 := (KC, V1, J, GC)) rfl ?_
  obtain ⟨V2, eV2⟩ : ∃ z, z = mj_row V1 (o + 7) (va_up (V1 (o + 7)) b (I (o + 7) a)) := ⟨_, rfl⟩
  refine mjT_ias (I' := V2) b 8 rfl (pc' := 47) rfl hG.k7 rfl (by omega) (by omega) eV2.symm ?_
  refine mjT_ret rfl rfl rfl ?_
  have hf : ∀ h, h ≠ o + 7 → V2 h = I h := fun h hh => by rw [st_h eV2 hh, st_h eV1 hh]
  refine ⟨rfl, _, rfl, ro_ex hV ha hb hO (fun c hc => ?_) hf, hf⟩
  unfold exC
  by_cases h1 : c = a
  · rw [if_pos h1]
    by_cases h2 : c = b
    · subst h1; rw [h2]; exact (st_at eV2).trans (by rw [← h2])
    · rw [st_ne eV2 h2, h1]; exact st_at eV1
  · rw [if_neg h1]
    by_cases h2 : c = b
    · rw [if_pos h2, h2]; exact st_at eV2
    · rw [if_neg h2, st_ne eV2 h2, st_ne eV1 h1]
/-- all but the trial office -/
abbrev FrX (I I' : Nat → Nat → Int32) : Prop := ∀ h, (h < 75 ∨ 85 < h) → I' h = I h
theorem c_foretellAll (hV : VO O) (hO : RO I 1 O (fun _ => True)) {n : Nat} (hnn : O.day + n ≤ 20000) : mj_E 114 [.ref 0, .int (nI n)] (KC, I, J, GC) (fun w' r => r = none ∧ ∃ I', w' = (KC, I', J, GC) ∧ RO I' 75 (goO O n) (fun _ => True) ∧ FrX I I') := by
  obtain ⟨la, hla⟩ := nI_surj (I 75 3)
  obtain ⟨dr, hdr⟩ := nI_surj (I 75 4)
  refine mjT_go 4 (pc' := 8) (L' := [some (.ref 0), some (.int (nI n))]) (st' := [.ref 1, .ref 75]) (w1 := (KC, I, J, GC)) rfl ?_
  refine mjT_call (as := [.ref 75, .ref 1]) (rest := []) rfl rfl rfl rfl rfl ⟨rfl, rfl⟩ (c_become hV.n og_75 og_1 (by omega) hO hla hdr) ?_
  rintro _ _ ⟨rfl, I2, rfl, hO2, hf2⟩
  refine mjT_go 2 (pc' := 15) (L' := [some (.ref 0), some (.int (nI n))]) (st' := [.ref 75]) (w1 := (KC, I2, J, GC)) rfl ?_
  refine mjT_call (as := [.ref 75]) (rest := []) rfl rfl rfl rfl rfl ⟨rfl, rfl⟩ (c_watchAll hV og_75 hO2) ?_
  rintro _ _ ⟨rfl, I3, rfl, hf3, hW3⟩
  refine mjT_go 3 (pc' := 23) (L' := [some (.ref 0), some (.int (nI n))]) (st' := [.int (nI n), .ref 75]) (w1 := (KC, I3, J, GC)) rfl ?_
  refine mjT_call (as := [.ref 75, .int (nI n)]) (rest := []) rfl rfl rfl rfl rfl ⟨rfl, rfl⟩ (c_passDays hV og_75 (ro_watch hO2 hf3) hW3 hnn) ?_
  rintro _ _ ⟨rfl, I4, rfl, hO4, hW4, hf4⟩
  refine mjT_ret rfl rfl rfl ?_
  exact ⟨rfl, _, rfl, hO4, fun h hh => by rw [hf4 _ (by omega) (by omega) (by omega) (by omega), hf3.1 _ (by omega) (by omega) (by omega), hf2 _ (by omega)]⟩
theorem c_foretellOne (hV : VO O) (hO : RO I 1 O (fun _ => True)) {n p : Nat} (hnn : O.day + n ≤ 20000) (hp : p < O.n) : mj_E 115 [.ref 0, .int (nI p), .int (nI n)] (KC, I, J, GC) (fun w' r => r = none ∧ ∃ I', w' = (KC, I', J, GC) ∧ RO I' 75 (goO O n) (PcN O p) ∧ FrX I I') := by
  obtain ⟨la, hla⟩ := nI_surj (I 75 3)
  obtain ⟨dr, hdr⟩ := nI_surj (I 75 4)
  refine mjT_go 4 (pc' := 8) (L' := [some (.ref 0), some (.int (nI p)), some (.int (nI n))]) (st' := [.ref 1, .ref 75]) (w1 := (KC, I, J, GC)) rfl ?_
  refine mjT_call (as := [.ref 75, .ref 1]) (rest := []) rfl rfl rfl rfl rfl ⟨rfl, rfl⟩ (c_become hV.n og_75 og_1 (by omega) hO hla hdr) ?_
  rintro _ _ ⟨rfl, I2, rfl, hO2, hf2⟩
  refine mjT_go 3 (pc' := 16) (L' := [some (.ref 0), some (.int (nI p)), some (.int (nI n))]) (st' := [.int (nI p), .ref 75]) (w1 := (KC, I2, J, GC)) rfl ?_
  refine mjT_call (as := [.ref 75, .int (nI p)]) (rest := []) rfl rfl rfl rfl rfl ⟨rfl, rfl⟩ (c_watchOnly hV og_75 hO2 hp) ?_
  rintro _ _ ⟨rfl, I3, m, rfl, hf3, hW3, _, _⟩
  refine mjT_go 3 (pc' := 24) (L' := [some (.ref 0), some (.int (nI p)), some (.int (nI n))]) (st' := [.int (nI n), .ref 75]) (w1 := (KC, I3, J, GC)) rfl ?_
  refine mjT_call (as := [.ref 75, .int (nI n)]) (rest := []) rfl rfl rfl rfl rfl ⟨rfl, rfl⟩ (c_passDays hV og_75 (ro_P (ro_watch hO2 hf3) (fun _ _ => trivial)) hW3 hnn) ?_
  rintro _ _ ⟨rfl, I4, rfl, hO4, hW4, hf4⟩
  refine mjT_ret rfl rfl rfl ?_
  exact ⟨rfl, _, rfl, hO4, fun h hh => by rw [hf4 _ (by omega) (by omega) (by omega) (by omega), hf3.1 _ (by omega) (by omega) (by omega), hf2 _ (by omega)]⟩
end EX
