/-- behind the takes of those in D -/
def mdO (O : Off) (D : Nat → Bool) : Off := mkO O.n O.day O.wet O.dry O.las O.draw O.kind O.str O.chair O.own (fun p k => if D p = true ∧ takeN O p = k then seenN O p k else gvN O p k) (fun p k => if D p = true ∧ takeN O p = k then O.day + lastsN O (modelN O p - 1) + 1 else gtN O p k)
theorem v_md {O : Off} (hV : VO O) (D : Nat → Bool) : VO (mdO O D) := by
  refine ⟨hV.n, hV.day, hV.wet, hV.dry, hV.las, hV.draw, hV.kind, hV.str, hV.chair, hV.inj, hV.own, ?_, ?_⟩
  · intro p hp k hk
    show (if D p = true ∧ takeN O p = k then seenN O p k else gvN O p k) < 8
    split
    · exact seen_lt hV hp hk
    · exact gv_lt hV hp hk
  · intro p hp k hk
    show (if D p = true ∧ takeN O p = k then O.day + lastsN O (modelN O p - 1) + 1 else gtN O p k) ≤ 30000
    have h1 := hV.day
    have h2 := lasts_le hV (modelN O p - 1)
    have h3 := hV.till p hp k hk
    split
    · omega
    · unfold gtN; split <;> omega
theorem ha_of {o : Nat} (hG : OfG o) : HaG (o + 1) := ⟨hG.k1, hG.k2, hG.k3, hG.r2, hG.r3⟩
section T1
variable {I : Nat → Nat → Int32} {J : Nat → Nat → Int64} {o : Nat} {O : Off} {P : Nat → Prop}
theorem gv_go (hV : VO O) {p : Nat} (hp : p < O.n) : dgo (gvN O p) := fun _ hk => gv_lt hV hp hk
theorem seen_go (hV : VO O) {p : Nat} (hp : p < O.n) : dgo (seenN O p) := fun _ hk => seen_lt hV hp hk
theorem c_take (hV : VO O) (hG : OfG o) (D : Nat → Bool) (hO : RO I o (mdO O D) P) (hbf : ∀ p, p < O.n → P p → I (o + 10) p = nI (rw6 (gvN O p))) {p : Nat} (hp : p < O.n) (hP : P p) (hm9 : I (o + 9) p = sI (modelN O p)) (hcl : modelN O p ≠ 0 → P (modelN O p - 1)) : mj_E 33 [.ref o, .int (nI p)] (KC, I, J, GC) (fun w' r => r = some (.int (nI (if takeN O p < 6 then 1 else 0))) ∧ ∃ I', w' = (KC, I', J, GC) ∧ RO I' o (mdO O (fun a => D a || a == p)) P ∧ ∀ h, h ≠ o + 2 → h ≠ o + 3 → I' h = I h) := by
  have hn := hV.n
  have hd := hV.day
  have hkp := hV.kind p hp
  have hml := modelN_le O p
  have hV1 := v_md hV D
  have hgp := gv_go hV hp
  have hsp := seen_go hV hp
  have hrg := rw6_lt hgp
  have hrs := rw6_lt hsp
  have hno : takeN O p = 6 → RO I o (mdO O (fun a => D a || a == p)) P := by
    intro h6
    refine ro_hands hO (fun _ _ _ _ _ => rfl) (ho_ext (ho_of hO) ?_ ?_)
    · intro q hq hPq j hj
      by_cases e : q = p
      · subst e; rw [if_neg (by omega), if_neg (by omega)]
      · simp [e]
    · intro q hq hPq j hj
      by_cases e : q = p
      · subst e; rw [if_neg (by omega), if_neg (by omega)]
      · simp [e]
  refine mjT_go 1 (pc' := 1) (L' := [some (.ref o), some (.int (nI p)), none, none, none]) (st' := [.ref o]) (w1 := (KC, I, J, GC)) rfl ?_
  refine mjT_gfr (h' := (o + 9)) rfl (pc' := 4) rfl hG.k0 hG.r9 ?_
  refine mjT_go 1 (pc' := 5) (L' := [some (.ref o), some (.int (nI p)), none, none, none]) (st' := [.int (nI p), .ref (o + 9)]) (w1 := (KC, I, J, GC)) rfl ?_
  refine mjT_ial (v := sI (modelN O p)) p 7 rfl (pc' := 6) rfl hG.k9 rfl (by omega) (by omega) (hm9) ?_
  refine mjT_go 3 (pc' := 9) (L' := [some (.ref o), some (.int (nI p)), some (.int (sI (modelN O p))), none, none]) (st' := [.int (sI (modelN O p)), .ref o]) (w1 := (KC, I, J, GC)) rfl ?_
  refine mjT_callE (as := [.ref o, .int (sI (modelN O p))]) (rest := []) (r1 := some (.int (nI (iP (sI (modelN O p)) O.n)))) rfl rfl rfl (mj_callI rfl rfl hG.k0) rfl ⟨rfl, rfl⟩ (c_has hV1 hG hO) ?_
  rw [iP_s hml hn]
  refine mjT_go 1 (pc' := if ¬ nI (if modelN O p = 0 then 0 else 1) = 0 then 17 else 15) (L' := [some (.ref o), some (.int (nI p)), some (.int (sI (modelN O p))), none, none]) (st' := []) (w1 := (KC, I, J, GC)) rfl ?_
  refine mjT_if (fun hz => ?_) (fun hz => ?_)
  · have hz0 : modelN O p ≠ 0 := fun q => hz (by rw [if_pos q]; exact nI_0)
    obtain ⟨m, hm⟩ : ∃ m, modelN O p = m + 1 := ⟨modelN O p - 1, by omega⟩
    have hPm := hcl hz0
    rw [hm, Nat.add_sub_cancel] at hPm
    have hmn : m < O.n := by omega
    have hgm := gv_go hV hmn
    have hsn : ∀ k, seenN O p k = if O.kind p = 2 then 7 - gvN O m k else gvN O m k := by
      intro k; unfold seenN; rw [hm]; rfl
    have htk : takeN O p = fdN (seenN O p) (gvN O p) := if_neg (by omega)
    rw [hm, sI_s]
    refine mjT_go 1 (pc' := 18) (L' := [some (.ref o), some (.int (nI p)), some (.int (nI m)), none, none]) (st' := [.ref o]) (w1 := (KC, I, J, GC)) rfl ?_
    refine mjT_gfr (h' := (o + 4)) rfl (pc' := 21) rfl hG.k0 hG.r4 ?_
    refine mjT_go 1 (pc' := 22) (L' := [some (.ref o), some (.int (nI p)), some (.int (nI m)), none, none]) (st' := [.int (nI p), .ref (o + 4)]) (w1 := (KC, I, J, GC)) rfl ?_
    refine mjT_ial (v := nI (O.kind p)) p 7 rfl (pc' := 23) rfl hG.k4 rfl (by omega) (by omega) (mo_at (hO.kind p (show p < O.n by omega)) (by omega) (by omega)) ?_
    refine mjT_go 2 (pc' := if ¬ nI (O.kind p) = nI 2 then 39 else 27) (L' := [some (.ref o), some (.int (nI p)), some (.int (nI m)), none, none]) (st' := []) (w1 := (KC, I, J, GC)) rfl ?_
    refine mjT_cut (P := fun b => b = 0) (pc1 := 45) (L1 := fun b => [some (.ref o), some (.int (nI p)), some (.int (nI m)), none, none]) (st1 := fun b => [.int (nI (rw6 (seenN O p)))]) (w1 := fun _ => (KC, I, J, GC)) (fun b hb => ?_) (fun h45 => ?_)
    · refine mjT_go 3 (pc' := 48) (L' := [some (.ref o), some (.int (nI p)), some (.int (nI m)), some (.int (nI (rw6 (seenN O p)))), none]) (st' := [.ref o, .int (nI (rw6 (seenN O p)))]) (w1 := (KC, I, J, GC)) rfl ?_
      refine mjT_gfr (h' := (o + 10)) rfl (pc' := 51) rfl hG.k0 hG.r10 ?_
      refine mjT_go 1 (pc' := 52) (L' := [some (.ref o), some (.int (nI p)), some (.int (nI m)), some (.int (nI (rw6 (seenN O p)))), none]) (st' := [.int (nI p), .ref (o + 10), .int (nI (rw6 (seenN O p)))]) (w1 := (KC, I, J, GC)) rfl ?_
      refine mjT_ial (v := nI (rw6 (gvN O p))) p 7 rfl (pc' := 53) rfl hG.k10 rfl (by omega) (by omega) (hbf p hp hP) ?_
      refine mjT_go 1 (pc' := if ¬ nI (rw6 (seenN O p)) = nI (rw6 (gvN O p)) then 58 else 56) (L' := [some (.ref o), some (.int (nI p)), some (.int (nI m)), some (.int (nI (rw6 (seenN O p)))), none]) (st' := []) (w1 := (KC, I, J, GC)) rfl ?_
      refine mjT_if_ne (u := rw6 (seenN O p)) (v := rw6 (gvN O p)) rfl rfl (by omega) (by omega) (fun he => ?_) (fun he => ?_)
      · have hlt : fdN (seenN O p) (gvN O p) < 6 := by
          rcases fd_cases (seenN O p) (gvN O p) with q | q
          · exact absurd (rw6_congr q.2) he
          · exact q.1
        refine mjT_go 2 (pc' := 60) (L' := [some (.ref o), some (.int (nI p)), some (.int (nI m)), some (.int (nI (rw6 (seenN O p)))), none]) (st' := [.ref o, .int (nI (rw6 (seenN O p)))]) (w1 := (KC, I, J, GC)) rfl ?_
        refine mjT_gfr (h' := (o + 10)) rfl (pc' := 63) rfl hG.k0 hG.r10 ?_
        refine mjT_go 1 (pc' := 64) (L' := [some (.ref o), some (.int (nI p)), some (.int (nI m)), some (.int (nI (rw6 (seenN O p)))), none]) (st' := [.int (nI p), .ref (o + 10), .int (nI (rw6 (seenN O p)))]) (w1 := (KC, I, J, GC)) rfl ?_
        refine mjT_ial (v := nI (rw6 (gvN O p))) p 7 rfl (pc' := 65) rfl hG.k10 rfl (by omega) (by omega) (hbf p hp hP) ?_
        refine mjT_go 1 (pc' := 66) (L' := [some (.ref o), some (.int (nI p)), some (.int (nI m)), some (.int (nI (rw6 (seenN O p)))), none]) (st' := [.int ((nI (rw6 (seenN O p))) ^^^ (nI (rw6 (gvN O p))))]) (w1 := (KC, I, J, GC)) rfl ?_
        rw [nI_xor, rw6_xor hsp hgp]
        refine mjT_callE (as := [.int (nI (rw6 (fun k => seenN O p k ^^^ gvN O p k)))]) (rest := []) (r1 := some (.int (nI (fdN (seenN O p) (gvN O p))))) rfl rfl rfl rfl rfl ⟨rfl, rfl⟩ (c_firstPlace hsp hgp hlt) ?_
        rw [← htk] at hlt ⊢
        refine mjT_go 2 (pc' := 72) (L' := [some (.ref o), some (.int (nI p)), some (.int (nI m)), some (.int (nI (rw6 (seenN O p)))), some (.int (nI (takeN O p)))]) (st' := [.ref o]) (w1 := (KC, I, J, GC)) rfl ?_
        refine mjT_gfr (h' := (o + 1)) rfl (pc' := 75) rfl hG.k0 hG.r1 ?_
        refine mjT_go 4 (pc' := 80) (L' := [some (.ref o), some (.int (nI p)), some (.int (nI m)), some (.int (nI (rw6 (seenN O p)))), some (.int (nI (takeN O p)))]) (st' := [.ref o, .int (nI (rw6 (seenN O p))), .int (nI (takeN O p)), .int (nI p), .ref (o + 1)]) (w1 := (KC, I, J, GC)) rfl ?_
        refine mjT_gfr (h' := (o + 1)) rfl (pc' := 83) rfl hG.k0 hG.r1 ?_
        refine mjT_gfi (v := nI O.day) rfl (Or.inl rfl) (pc' := 86) rfl hG.k1 (mo_at (hO.day) (by omega) (by omega)) ?_
        refine mjT_go 2 (pc' := 88) (L' := [some (.ref o), some (.int (nI p)), some (.int (nI m)), some (.int (nI (rw6 (seenN O p)))), some (.int (nI (takeN O p)))]) (st' := [.int (nI m), .ref o, .int (nI O.day), .int (nI (rw6 (seenN O p))), .int (nI (takeN O p)), .int (nI p), .ref (o + 1)]) (w1 := (KC, I, J, GC)) rfl ?_
        refine mjT_callE (as := [.ref o, .int (nI m)]) (rest := [.int (nI O.day), .int (nI (rw6 (seenN O p))), .int (nI (takeN O p)), .int (nI p), .ref (o + 1)]) (r1 := some (.int (nI (lastsN O m)))) rfl rfl rfl (mj_callI rfl rfl hG.k0) rfl ⟨rfl, rfl⟩ (c_lastsFrom hV1 hG hO hmn) ?_
        refine mjT_go 1 (pc' := 92) (L' := [some (.ref o), some (.int (nI p)), some (.int (nI m)), some (.int (nI (rw6 (seenN O p)))), some (.int (nI (takeN O p)))]) (st' := [.int ((nI O.day) + (nI (lastsN O m))), .int (nI (rw6 (seenN O p))), .int (nI (takeN O p)), .int (nI p), .ref (o + 1)]) (w1 := (KC, I, J, GC)) rfl ?_
        rw [nI_add, ← tI_s]
        refine mjT_call (as := [.ref (o + 1), .int (nI p), .int (nI (takeN O p)), .int (nI (rw6 (seenN O p))), .int (tI (O.day + lastsN O m + 1))]) (rest := []) rfl rfl rfl (mj_callI rfl rfl hG.k1) rfl ⟨rfl, rfl⟩ (c_write hV1 (ha_of hG) (ho_of hO) hp hP hlt hsp) ?_
        rintro _ _ ⟨rfl, I2, rfl, hO2, hf2⟩
        refine mjT_go 1 (pc' := 96) (L' := [some (.ref o), some (.int (nI p)), some (.int (nI m)), some (.int (nI (rw6 (seenN O p)))), some (.int (nI (takeN O p)))]) (st' := [.int (nI 1)]) (w1 := (KC, I2, J, GC)) rfl ?_
        refine mjT_ret rfl rfl rfl ?_
        refine ⟨by rw [if_pos hlt], _, rfl, ro_hands hO (fun h h1 h2 h3 h4 => hf2 h h2 h3) (ho_ext hO2 ?_ ?_), hf2⟩
        · intro q hq hPq j hj
          by_cases h : q = p ∧ j = takeN O p
          · refine (if_pos h).trans ?_
            obtain ⟨rfl, rfl⟩ := h
            simp
          · refine (if_neg h).trans ?_
            show (if _ then _ else _) = _
            by_cases e : q = p
            · subst e
              rw [if_neg (fun z => h ⟨rfl, z.2.symm⟩), if_neg (fun z => h ⟨rfl, z.2.symm⟩)]
            · simp [e]
        · intro q hq hPq j hj
          by_cases h : q = p ∧ j = takeN O p
          · refine (if_pos h).trans ?_
            obtain ⟨rfl, rfl⟩ := h
            simp [hm]
          · refine (if_neg h).trans ?_
            show (if _ then _ else _) = _
            by_cases e : q = p
            · subst e
              rw [if_neg (fun z => h ⟨rfl, z.2.symm⟩), if_neg (fun z => h ⟨rfl, z.2.symm⟩)]
            · simp [e]
      · refine mjT_go 1 (pc' := 57) (L' := [some (.ref o), some (.int (nI p)), some (.int (nI m)), some (.int (nI (rw6 (seenN O p)))), none]) (st' := [.int (nI 0)]) (w1 := (KC, I, J, GC)) rfl ?_
        refine mjT_ret rfl rfl rfl ?_
        have h6 : takeN O p = 6 := htk.trans (fd_no (rw6_inj hsp hgp he))
        exact ⟨by rw [h6]; rfl, _, rfl, hno h6, fun _ _ _ => rfl⟩
    · refine mjT_if_ne (u := O.kind p) (v := 2) rfl rfl (by omega) (by omega) (fun hk => ?_) (fun hk => ?_)
      · refine mjT_go 1 (pc' := 40) (L' := [some (.ref o), some (.int (nI p)), some (.int (nI m)), none, none]) (st' := [.ref o]) (w1 := (KC, I, J, GC)) rfl ?_
        refine mjT_gfr (h' := (o + 10)) rfl (pc' := 43) rfl hG.k0 hG.r10 ?_
        refine mjT_go 1 (pc' := 44) (L' := [some (.ref o), some (.int (nI p)), some (.int (nI m)), none, none]) (st' := [.int (nI m), .ref (o + 10)]) (w1 := (KC, I, J, GC)) rfl ?_
        refine mjT_ial (v := nI (rw6 (gvN O m))) m 7 rfl (pc' := 45) rfl hG.k10 rfl (by omega) (by omega) (hbf m hmn hPm) ?_
        rw [show rw6 (gvN O m) = rw6 (seenN O p) from rw6_congr fun k _ => by rw [hsn, if_neg hk]]
        exact h45 0 rfl
      · refine mjT_go 1 (pc' := 28) (L' := [some (.ref o), some (.int (nI p)), some (.int (nI m)), none, none]) (st' := [.ref o]) (w1 := (KC, I, J, GC)) rfl ?_
        refine mjT_gfr (h' := (o + 10)) rfl (pc' := 31) rfl hG.k0 hG.r10 ?_
        refine mjT_go 1 (pc' := 32) (L' := [some (.ref o), some (.int (nI p)), some (.int (nI m)), none, none]) (st' := [.int (nI m), .ref (o + 10)]) (w1 := (KC, I, J, GC)) rfl ?_
        refine mjT_ial (v := nI (rw6 (gvN O m))) m 7 rfl (pc' := 33) rfl hG.k10 rfl (by omega) (by omega) (hbf m hmn hPm) ?_
        refine mjT_go 1 (pc' := 35) (L' := [some (.ref o), some (.int (nI p)), some (.int (nI m)), none, none]) (st' := [.int (nI 262143), .int (nI (rw6 (gvN O m)))]) (w1 := (KC, I, J, GC)) rfl ?_
        refine mjT_go 1 (pc' := 36) (L' := [some (.ref o), some (.int (nI p)), some (.int (nI m)), none, none]) (st' := [.int ((nI (rw6 (gvN O m))) ^^^ (nI 262143))]) (w1 := (KC, I, J, GC)) rfl ?_
        rw [nI_xor, rw6_not hgm, show rw6 (fun k => 7 - gvN O m k) = rw6 (seenN O p) from rw6_congr fun k _ => by rw [hsn, if_pos hk]]
        refine mjT_go 1 (pc' := 45) (L' := [some (.ref o), some (.int (nI p)), some (.int (nI m)), none, none]) (st' := [.int (nI (rw6 (seenN O p)))]) (w1 := (KC, I, J, GC)) rfl ?_
        exact h45 0 rfl
  · have hz0 : modelN O p = 0 := by
      by_cases q : modelN O p = 0
      · exact q
      · rw [if_neg q] at hz; exact absurd (by decide) hz
    have h6 : takeN O p = 6 := if_pos hz0
    refine mjT_go 1 (pc' := 16) (L' := [some (.ref o), some (.int (nI p)), some (.int (sI (modelN O p))), none, none]) (st' := [.int (nI 0)]) (w1 := (KC, I, J, GC)) rfl ?_
    refine mjT_ret rfl rfl rfl ?_
    exact ⟨by rw [h6]; rfl, _, rfl, hno h6, fun _ _ _ => rfl⟩
end T1
