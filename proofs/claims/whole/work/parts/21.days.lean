/-! stores in the model's array -/
def updN (f : Nat → Nat → Nat) (p k v : Nat) : Nat → Nat → Nat := fun a b => if a = p ∧ b = k then v else f a b
def upd1 (f : Nat → Nat) (p v : Nat) : Nat → Nat := fun a => if a = p then v else f a
def setWr (O : Off) (p k v : Nat) : Off := mkO O.n O.day O.wet O.dry O.las O.draw O.kind O.str O.chair O.own (updN O.wr p k v) O.till
def setTi (O : Off) (p k v : Nat) : Off := mkO O.n O.day O.wet O.dry O.las O.draw O.kind O.str O.chair O.own O.wr (updN O.till p k v)
def setCh (O : Off) (p v : Nat) : Off := mkO O.n O.day O.wet O.dry O.las O.draw O.kind O.str (upd1 O.chair p v) O.own O.wr O.till
section ST
variable {I I' I2 : Nat → Nat → Int32} {x : Nat} {O : Off}
theorem st_at {h i : Nat} {v : Int32} (e : I' = mj_row I h (va_up (I h) i v)) : I' h i = v := by subst e; simp [mj_row, va_up]
theorem st_ne {h i : Nat} {v : Int32} (e : I' = mj_row I h (va_up (I h) i v)) {j : Nat} (hj : j ≠ i) : I' h j = I h j := by subst e; simp [mj_row, va_up, hj]
theorem st_h {h i : Nat} {v : Int32} (e : I' = mj_row I h (va_up (I h) i v)) {h' : Nat} (hj : h' ≠ h) : I' h' = I h' := by subst e; simp [mj_row, hj]
theorem mo_cong (hO : MO I x O) (hn : O.n ≤ 7) (h : ∀ k, x ≤ k → k < x + 153 → I' 1 k = I 1 k) : MO I' x O :=
  ⟨(h _ (by omega) (by omega)).trans hO.n, (h _ (by omega) (by omega)).trans hO.day, (h _ (by omega) (by omega)).trans hO.wet, (h _ (by omega) (by omega)).trans hO.dry, (h _ (by omega) (by omega)).trans hO.las, (h _ (by omega) (by omega)).trans hO.draw,
   fun p hp => (h _ (by omega) (by omega)).trans (hO.kind p hp), fun p hp => (h _ (by omega) (by omega)).trans (hO.str p hp), fun p hp => (h _ (by omega) (by omega)).trans (hO.chair p hp),
   fun p hp k hk => (h _ (by omega) (by omega)).trans (hO.own p hp k hk), fun p hp k hk => (h _ (by omega) (by omega)).trans (hO.wr p hp k hk), fun p hp k hk => (h _ (by omega) (by omega)).trans (hO.till p hp k hk)⟩
/-- a store in another cell -/
theorem mo_oth {h i : Nat} {v : Int32} (e : I' = mj_row I h (va_up (I h) i v)) (hh : h ≠ 1) (hO : MO I x O) : MO I' x O := by
  have : I' 1 = I 1 := st_h e (fun q => hh q.symm)
  unfold MO; rw [this]; exact hO
theorem mo_day {i d : Nat} (e : I' = mj_row I 1 (va_up (I 1) i (nI d))) (hi : i = x + 148) (hO : MO I x O) (hn : O.n ≤ 7) : MO I' x (dayO O d) := by
  subst hi
  exact ⟨(st_ne e (by omega)).trans hO.n, st_at e, (st_ne e (by omega)).trans hO.wet, (st_ne e (by omega)).trans hO.dry, (st_ne e (by omega)).trans hO.las, (st_ne e (by omega)).trans hO.draw,
   fun p (hp : p < O.n) => (st_ne e (by omega)).trans (hO.kind p hp), fun p (hp : p < O.n) => (st_ne e (by omega)).trans (hO.str p hp), fun p (hp : p < O.n) => (st_ne e (by omega)).trans (hO.chair p hp),
   fun p (hp : p < O.n) k hk => (st_ne e (by omega)).trans (hO.own p hp k hk), fun p (hp : p < O.n) k hk => (st_ne e (by omega)).trans (hO.wr p hp k hk), fun p (hp : p < O.n) k hk => (st_ne e (by omega)).trans (hO.till p hp k hk)⟩
theorem mo_wr {i p k v : Nat} (e : I' = mj_row I 1 (va_up (I 1) i (nI v))) (hi : i = x + 21 * p + 9 + k) (hO : MO I x O) (hp : p < O.n) (hk : k < 6) (hn : O.n ≤ 7) : MO I' x (setWr O p k v) := by
  subst hi
  refine ⟨(st_ne e (by omega)).trans hO.n, (st_ne e (by omega)).trans hO.day, (st_ne e (by omega)).trans hO.wet, (st_ne e (by omega)).trans hO.dry, (st_ne e (by omega)).trans hO.las, (st_ne e (by omega)).trans hO.draw,
   fun p (hp : p < O.n) => (st_ne e (by omega)).trans (hO.kind p hp), fun p (hp : p < O.n) => (st_ne e (by omega)).trans (hO.str p hp), fun p (hp : p < O.n) => (st_ne e (by omega)).trans (hO.chair p hp),
   fun p (hp : p < O.n) k hk => (st_ne e (by omega)).trans (hO.own p hp k hk), ?_, fun p (hp : p < O.n) k hk => (st_ne e (by omega)).trans (hO.till p hp k hk)⟩
  intro q (hq : q < O.n) j hj
  show I' 1 _ = nI (if q = p ∧ j = k then v else O.wr q j)
  by_cases h : q = p ∧ j = k
  · rw [if_pos h]; obtain ⟨rfl, rfl⟩ := h; exact st_at e
  · rw [if_neg h]; exact (st_ne e (by omega)).trans (hO.wr q hq j hj)
theorem mo_ti {i p k v : Nat} (e : I' = mj_row I 1 (va_up (I 1) i (tI v))) (hi : i = x + 21 * p + 15 + k) (hO : MO I x O) (hp : p < O.n) (hk : k < 6) (hn : O.n ≤ 7) : MO I' x (setTi O p k v) := by
  subst hi
  refine ⟨(st_ne e (by omega)).trans hO.n, (st_ne e (by omega)).trans hO.day, (st_ne e (by omega)).trans hO.wet, (st_ne e (by omega)).trans hO.dry, (st_ne e (by omega)).trans hO.las, (st_ne e (by omega)).trans hO.draw,
   fun p (hp : p < O.n) => (st_ne e (by omega)).trans (hO.kind p hp), fun p (hp : p < O.n) => (st_ne e (by omega)).trans (hO.str p hp), fun p (hp : p < O.n) => (st_ne e (by omega)).trans (hO.chair p hp),
   fun p (hp : p < O.n) k hk => (st_ne e (by omega)).trans (hO.own p hp k hk), fun p (hp : p < O.n) k hk => (st_ne e (by omega)).trans (hO.wr p hp k hk), ?_⟩
  intro q (hq : q < O.n) j hj
  show I' 1 _ = tI (if q = p ∧ j = k then v else O.till q j)
  by_cases h : q = p ∧ j = k
  · rw [if_pos h]; obtain ⟨rfl, rfl⟩ := h; exact st_at e
  · rw [if_neg h]; exact (st_ne e (by omega)).trans (hO.till q hq j hj)
theorem mo_ch {i p v : Nat} (e : I' = mj_row I 1 (va_up (I 1) i (nI v))) (hi : i = x + 21 * p + 2) (hO : MO I x O) (hp : p < O.n) (hn : O.n ≤ 7) : MO I' x (setCh O p v) := by
  subst hi
  refine ⟨(st_ne e (by omega)).trans hO.n, (st_ne e (by omega)).trans hO.day, (st_ne e (by omega)).trans hO.wet, (st_ne e (by omega)).trans hO.dry, (st_ne e (by omega)).trans hO.las, (st_ne e (by omega)).trans hO.draw,
   fun p (hp : p < O.n) => (st_ne e (by omega)).trans (hO.kind p hp), fun p (hp : p < O.n) => (st_ne e (by omega)).trans (hO.str p hp), ?_,
   fun p (hp : p < O.n) k hk => (st_ne e (by omega)).trans (hO.own p hp k hk), fun p (hp : p < O.n) k hk => (st_ne e (by omega)).trans (hO.wr p hp k hk), fun p (hp : p < O.n) k hk => (st_ne e (by omega)).trans (hO.till p hp k hk)⟩
  intro q (hq : q < O.n)
  show I' 1 _ = nI (if q = p then v else O.chair q)
  by_cases h : q = p
  · rw [if_pos h]; obtain rfl := h; exact st_at e
  · rw [if_neg h]; exact (st_ne e (by omega)).trans (hO.chair q hq)
/-- the same hands on the persons that are -/
theorem mo_ext {n day wet dry las draw : Nat} {kind str chair : Nat → Nat} {own wr till wr' till' : Nat → Nat → Nat} (hO : MO I x (mkO n day wet dry las draw kind str chair own wr till)) (h1 : ∀ p, p < n → ∀ k, k < 6 → wr p k = wr' p k) (h2 : ∀ p, p < n → ∀ k, k < 6 → till p k = till' p k) : MO I x (mkO n day wet dry las draw kind str chair own wr' till') :=
  ⟨hO.n, hO.day, hO.wet, hO.dry, hO.las, hO.draw, hO.kind, hO.str, hO.chair, hO.own, fun p hp k hk => (hO.wr p hp k hk).trans (congrArg nI (h1 p hp k hk)), fun p hp k hk => (hO.till p hp k hk).trans (congrArg tI (h2 p hp k hk))⟩
/-- what is not the office at x and not the scratch row -/
abbrev FrM (I I' : Nat → Nat → Int32) (x : Nat) : Prop := (∀ h, h ≠ 1 → h ≠ 4 → I' h = I h) ∧ (∀ k, (k < x ∨ x + 153 ≤ k) → I' 1 k = I 1 k)
theorem fr_refl : FrM I I x := ⟨fun _ _ _ => rfl, fun _ _ => rfl⟩
theorem fr_st {i : Nat} {v : Int32} (e : I' = mj_row I 1 (va_up (I 1) i v)) (hi : x ≤ i ∧ i < x + 153) : FrM I I' x := ⟨fun _ h _ => st_h e h, fun _ hk => st_ne e (by omega)⟩
theorem fr_sc {i : Nat} {v : Int32} (e : I' = mj_row I 4 (va_up (I 4) i v)) : FrM I I' x := ⟨fun _ _ h => st_h e h, fun _ _ => by rw [st_h e (by omega)]⟩
theorem fr_tr (h : FrM I I' x) (h' : FrM I' I2 x) : FrM I I2 x := ⟨fun a b c => (h'.1 a b c).trans (h.1 a b c), fun a b => (h'.2 a b).trans (h.2 a b)⟩
end ST
/-- behind the first m strokes' giving back -/
def gmO (O : Off) (m : Nat) : Off := mkO O.n O.day O.wet O.dry O.las O.draw O.kind O.str O.chair O.own
  (fun p k => if 6 * p + k < m then gvN O p k else O.wr p k) (fun p k => if 6 * p + k < m then gtN O p k else O.till p k)
theorem looksN_mid (O : Off) (w q p : Nat) : ∀ r, looksN (midO O w q) p r = looksN O p r
  | 0 => rfl
  | r + 1 => by unfold looksN; rw [looksN_mid O w q p r]; rfl
theorem modelN_le (O : Off) (p : Nat) : modelN O p ≤ O.n := by
  unfold modelN; split
  · omega
  · exact looksN_le O p O.n
theorem gv_lt {O : Off} (hV : VO O) {p : Nat} (hp : p < O.n) {k : Nat} (hk : k < 6) : gvN O p k < 8 := by
  unfold gvN; split
  · exact hV.own p hp k hk
  · exact hV.wr p hp k hk
theorem seen_lt {O : Off} (hV : VO O) {p : Nat} (hp : p < O.n) {k : Nat} (hk : k < 6) : seenN O p k < 8 := by
  have hm := modelN_le O p
  have := gv_lt hV (p := modelN O p - 1) (by omega) hk
  unfold seenN; split <;> omega
theorem lasts_le {O : Off} (hV : VO O) (p : Nat) : lastsN O p ≤ 67 := by
  have := hV.las
  unfold lastsN; split
  · omega
  · split <;> omega
theorem v_mid {O : Off} (hV : VO O) (w q : Nat) : VO (midO O w q) := by
  refine ⟨hV.n, hV.day, hV.wet, hV.dry, hV.las, hV.draw, hV.kind, hV.str, hV.chair, hV.inj, hV.own, ?_, ?_⟩
  · intro p hp k hk
    show (if w = 1 ∧ p < q ∧ takeN O p = k then seenN O p k else gvN O p k) < 8
    split
    · exact seen_lt hV hp hk
    · exact gv_lt hV hp hk
  · intro p hp k hk
    show (if w = 1 ∧ p < q ∧ takeN O p = k then O.day + lastsN O (modelN O p - 1) + 1 else gtN O p k) ≤ 30000
    have h1 := hV.day
    have h2 := lasts_le hV (modelN O p - 1)
    have h3 := hV.till p hp k hk
    split
    · omega
    · unfold gtN; split <;> omega
theorem v_pass {O : Off} (hV : VO O) (hd : O.day < 20000) (w : Nat) : VO (passO O w) := by
  have h := v_mid hV w O.n
  exact ⟨h.n, hd, h.wet, h.dry, h.las, h.draw, h.kind, h.str, h.chair, h.inj, h.own, h.wr, h.till⟩
theorem v_setWr {O : Off} (hV : VO O) {p k v : Nat} (hv : v < 8) : VO (setWr O p k v) := by
  refine ⟨hV.n, hV.day, hV.wet, hV.dry, hV.las, hV.draw, hV.kind, hV.str, hV.chair, hV.inj, hV.own, ?_, hV.till⟩
  intro q hq j hj
  show (if q = p ∧ j = k then v else O.wr q j) < 8
  split
  · exact hv
  · exact hV.wr q hq j hj
theorem sub7 : ∀ v, v < 8 → nI 7 - nI v = nI (7 - v) := by decide
section M2
variable {I : Nat → Nat → Int32} {J : Nat → Nat → Int64} {x : Nat} {O : Off}
theorem m_ownAgain (hV : VO O) (hO : MO I x O) (hx : x ≤ 1680) : mj_E 163 [.ref 0, .int (nI x)] (KM, I, J, GM) (fun w' r => r = none ∧ ∃ I', w' = (KM, I', J, GM) ∧ MO I' x (midO O 0 0) ∧ (∀ p, p < O.n → ∀ k, k < 6 → I' 4 (6 * p + k) = nI (gvN O p k)) ∧ FrM I I' x) := by
  have hn := hV.n
  have hd := hV.day
  refine mjT_go 2 (pc' := 2) (L' := [some (.ref 0), some (.int (nI x)), some (.int (nI 0)), none, none]) (st' := []) (w1 := (KM, I, J, GM)) rfl ?_
  refine mj_loop (fun k L w => ∃ (d e : Option Value) (I' : Nat → Nat → Int32), L = [some (.ref 0), some (.int (nI x)), some (.int (nI k)), d, e] ∧ w = (KM, I', J, GM) ∧ MO I' x (gmO O (6 * k)) ∧ (∀ p, p < O.n → ∀ j, j < 6 → 6 * p + j < 6 * k → I' 4 (6 * p + j) = nI (gvN O p j)) ∧ FrM I I' x) O.n (k0 := 0) (Nat.zero_le _) ?_ ?_ ?_
  · exact ⟨_, _, _, rfl, rfl, mo_ext hO (fun _ _ _ _ => rfl) (fun _ _ _ _ => rfl), fun _ _ _ _ h => absurd h (by omega), fr_refl⟩
  · rintro p _ _ hp ⟨d, e, I1, rfl, rfl, hO1, hw1, hf1⟩ hc
    refine mjT_go 6 (pc' := 12) (L' := [some (.ref 0), some (.int (nI x)), some (.int (nI p)), d, e]) (st' := [.int ((nI x) + (nI 147)), .ref 1, .int (nI p)]) (w1 := (KM, I1, J, GM)) rfl ?_
    refine mjT_ial (v := nI O.n) (x + 147) 1840 rfl (pc' := 13) rfl rfl (by simp only [nI_add, pk_mul]) (by omega) (by omega) (mo_at hO1.n rfl (by omega)) ?_
    refine mjT_go 1 (pc' := if nI O.n ≤ nI p then 129 else 16) (L' := [some (.ref 0), some (.int (nI x)), some (.int (nI p)), d, e]) (st' := []) (w1 := (KM, I1, J, GM)) rfl ?_
    refine mjT_ifF (nI_ge hp (by omega)) ?_
    refine mjT_go 2 (pc' := 18) (L' := [some (.ref 0), some (.int (nI x)), some (.int (nI p)), some (.int (nI 0)), e]) (st' := []) (w1 := (KM, I1, J, GM)) rfl ?_
    refine mj_loop (fun k L w => ∃ (e : Option Value) (I' : Nat → Nat → Int32), L = [some (.ref 0), some (.int (nI x)), some (.int (nI p)), some (.int (nI k)), e] ∧ w = (KM, I', J, GM) ∧ MO I' x (gmO O (6 * p + k)) ∧ (∀ q, q < O.n → ∀ j, j < 6 → 6 * q + j < 6 * p + k → I' 4 (6 * q + j) = nI (gvN O q j)) ∧ FrM I I' x) 6 (k0 := 0) (Nat.zero_le _) ?_ ?_ ?_
    · exact ⟨_, _, rfl, rfl, hO1, hw1, hf1⟩
    · rintro k _ _ hk ⟨e, I2, rfl, rfl, hO2, hw2, hf2⟩ hc2
      have ht := hV.till p hp k hk
      refine mjT_go 3 (pc' := if nI 6 ≤ nI k then 123 else 24) (L' := [some (.ref 0), some (.int (nI x)), some (.int (nI p)), some (.int (nI k)), e]) (st' := []) (w1 := (KM, I2, J, GM)) rfl ?_
      refine mjT_ifF (nI_ge (by omega) (by omega)) ?_
      refine mjT_go 13 (pc' := 43) (L' := [some (.ref 0), some (.int (nI x)), some (.int (nI p)), some (.int (nI k)), some (.int ((nI x) + ((nI 21) * (nI p))))]) (st' := [.int ((((nI x) + ((nI 21) * (nI p))) + (nI 15)) + (nI k)), .ref 1]) (w1 := (KM, I2, J, GM)) rfl ?_
      refine mjT_ial (v := tI ((gmO O (6 * p + k)).till p k)) (((x + (21 * p)) + 15) + k) 1840 rfl (pc' := 44) rfl rfl (by simp only [nI_add, pk_mul]) (by omega) (by omega) (mo_at (hO2.till p (show p < O.n by omega) k (by omega)) rfl (by omega)) ?_
      refine mjT_go 5 (pc' := 53) (L' := [some (.ref 0), some (.int (nI x)), some (.int (nI p)), some (.int (nI k)), some (.int ((nI x) + ((nI 21) * (nI p))))]) (st' := [.int ((nI x) + (nI 148)), .ref 1, .int (tI ((gmO O (6 * p + k)).till p k))]) (w1 := (KM, I2, J, GM)) rfl ?_
      refine mjT_ial (v := nI O.day) (x + 148) 1840 rfl (pc' := 54) rfl rfl (by simp only [nI_add, pk_mul]) (by omega) (by omega) (mo_at hO2.day rfl (by omega)) ?_
      refine mjT_go 1 (pc' := if ¬ tI ((gmO O (6 * p + k)).till p k) = nI O.day then 94 else 57) (L' := [some (.ref 0), some (.int (nI x)), some (.int (nI p)), some (.int (nI k)), some (.int ((nI x) + ((nI 21) * (nI p))))]) (st' := []) (w1 := (KM, I2, J, GM)) rfl ?_
      rw [show (gmO O (6 * p + k)).till p k = O.till p k from if_neg (by omega)]
      refine mjT_if (fun hq => ?_) (fun hq => ?_)
      · rw [tI_eq (by omega) (by omega)] at hq
        refine mjT_go 14 (pc' := 115) (L' := [some (.ref 0), some (.int (nI x)), some (.int (nI p)), some (.int (nI k)), some (.int ((nI x) + ((nI 21) * (nI p))))]) (st' := [.int ((((nI x) + ((nI 21) * (nI p))) + (nI 9)) + (nI k)), .ref 1, .int (((nI 6) * (nI p)) + (nI k)), .ref 4]) (w1 := (KM, I2, J, GM)) rfl ?_
        refine mjT_ial (v := nI ((gmO O (6 * p + k)).wr p k)) (((x + (21 * p)) + 9) + k) 1840 rfl (pc' := 116) rfl rfl (by simp only [nI_add, pk_mul]) (by omega) (by omega) (mo_at (hO2.wr p (show p < O.n by omega) k (by omega)) rfl (by omega)) ?_
        obtain ⟨V1, eV1⟩ : ∃ z, z = mj_row I2 4 (va_up (I2 4) ((6 * p) + k) (nI ((gmO O (6 * p + k)).wr p k))) := ⟨_, rfl⟩
        refine mjT_ias (I' := V1) ((6 * p) + k) 42 rfl (pc' := 117) rfl rfl (by simp only [nI_add, pk_mul]) (by omega) (by omega) eV1.symm ?_
        refine mjT_go 2 (pc' := 18) (L' := [some (.ref 0), some (.int (nI x)), some (.int (nI p)), some (.int ((nI k) + (nI 1))), some (.int ((nI x) + ((nI 21) * (nI p))))]) (st' := []) (w1 := (KM, V1, J, GM)) rfl ?_
        have eg : gvN O p k = O.wr p k := if_neg hq
        rw [show (gmO O (6 * p + k)).wr p k = gvN O p k from (if_neg (by omega)).trans eg.symm] at eV1
        rw [nI_add]
        refine hc2 _ _ ⟨_, _, rfl, rfl, mo_ext (mo_oth eV1 (by omega) hO2) ?_ ?_, ?_, fr_tr hf2 (fr_sc eV1)⟩
        · intro q hq' j hj
          by_cases h1 : 6 * q + j < 6 * p + k
          · rw [if_pos h1, if_pos (by omega)]
          · rw [if_neg h1]
            by_cases h2 : 6 * q + j = 6 * p + k
            · obtain ⟨rfl, rfl⟩ : q = p ∧ j = k := by omega
              rw [if_pos (by omega), eg]
            · rw [if_neg (by omega)]
        · intro q hq' j hj
          by_cases h1 : 6 * q + j < 6 * p + k
          · rw [if_pos h1, if_pos (by omega)]
          · rw [if_neg h1]
            by_cases h2 : 6 * q + j = 6 * p + k
            · obtain ⟨rfl, rfl⟩ : q = p ∧ j = k := by omega
              rw [if_pos (by omega)]; exact (if_neg hq).symm
            · rw [if_neg (by omega)]
        · intro q hq' j hj h1
          by_cases h2 : 6 * q + j = 6 * p + k
          · obtain ⟨rfl, rfl⟩ : q = p ∧ j = k := by omega
            exact st_at eV1
          · exact (st_ne eV1 h2).trans (hw2 q hq' j hj (by omega))
      · have hq := Decidable.not_not.mp hq
        rw [tI_eq (by omega) (by omega)] at hq
        refine mjT_go 8 (pc' := 70) (L' := [some (.ref 0), some (.int (nI x)), some (.int (nI p)), some (.int (nI k)), some (.int ((nI x) + ((nI 21) * (nI p))))]) (st' := [.int (-4), .int ((((nI x) + ((nI 21) * (nI p))) + (nI 15)) + (nI k)), .ref 1]) (w1 := (KM, I2, J, GM)) rfl ?_
        obtain ⟨V2, eV2⟩ : ∃ z, z = mj_row I2 1 (va_up (I2 1) (((x + (21 * p)) + 15) + k) (-4)) := ⟨_, rfl⟩
        refine mjT_ias (I' := V2) (((x + (21 * p)) + 15) + k) 1840 rfl (pc' := 71) rfl rfl (by simp only [nI_add, pk_mul]) (by omega) (by omega) eV2.symm ?_
        have hO3 := mo_ti (v := 0) eV2 (by omega) hO2 hp hk hn
        refine mjT_go 14 (pc' := 92) (L' := [some (.ref 0), some (.int (nI x)), some (.int (nI p)), some (.int (nI k)), some (.int ((nI x) + ((nI 21) * (nI p))))]) (st' := [.int ((((nI x) + ((nI 21) * (nI p))) + (nI 3)) + (nI k)), .ref 1, .int ((((nI x) + ((nI 21) * (nI p))) + (nI 9)) + (nI k)), .ref 1]) (w1 := (KM, V2, J, GM)) rfl ?_
        refine mjT_ial (v := nI (O.own p k)) (((x + (21 * p)) + 3) + k) 1840 rfl (pc' := 93) rfl rfl (by simp only [nI_add, pk_mul]) (by omega) (by omega) (mo_at (hO3.own p (show p < O.n by omega) k (by omega)) rfl (by omega)) ?_
        obtain ⟨V3, eV3⟩ : ∃ z, z = mj_row V2 1 (va_up (V2 1) (((x + (21 * p)) + 9) + k) (nI (O.own p k))) := ⟨_, rfl⟩
        refine mjT_ias (I' := V3) (((x + (21 * p)) + 9) + k) 1840 rfl (pc' := 94) rfl rfl (by simp only [nI_add, pk_mul]) (by omega) (by omega) eV3.symm ?_
        have hO4 := mo_wr eV3 (by omega) hO3 hp hk hn
        refine mjT_go 14 (pc' := 115) (L' := [some (.ref 0), some (.int (nI x)), some (.int (nI p)), some (.int (nI k)), some (.int ((nI x) + ((nI 21) * (nI p))))]) (st' := [.int ((((nI x) + ((nI 21) * (nI p))) + (nI 9)) + (nI k)), .ref 1, .int (((nI 6) * (nI p)) + (nI k)), .ref 4]) (w1 := (KM, V3, J, GM)) rfl ?_
        refine mjT_ial (v := nI ((setWr (setTi (gmO O (6 * p + k)) p k 0) p k (O.own p k)).wr p k)) (((x + (21 * p)) + 9) + k) 1840 rfl (pc' := 116) rfl rfl (by simp only [nI_add, pk_mul]) (by omega) (by omega) (mo_at (hO4.wr p (show p < O.n by omega) k (by omega)) rfl (by omega)) ?_
        obtain ⟨V4, eV4⟩ : ∃ z, z = mj_row V3 4 (va_up (V3 4) ((6 * p) + k) (nI ((setWr (setTi (gmO O (6 * p + k)) p k 0) p k (O.own p k)).wr p k))) := ⟨_, rfl⟩
        refine mjT_ias (I' := V4) ((6 * p) + k) 42 rfl (pc' := 117) rfl rfl (by simp only [nI_add, pk_mul]) (by omega) (by omega) eV4.symm ?_
        refine mjT_go 2 (pc' := 18) (L' := [some (.ref 0), some (.int (nI x)), some (.int (nI p)), some (.int ((nI k) + (nI 1))), some (.int ((nI x) + ((nI 21) * (nI p))))]) (st' := []) (w1 := (KM, V4, J, GM)) rfl ?_
        have eg : gvN O p k = O.own p k := if_pos hq
        rw [show (setWr (setTi (gmO O (6 * p + k)) p k 0) p k (O.own p k)).wr p k = gvN O p k from (if_pos ⟨rfl, rfl⟩).trans eg.symm] at eV4
        rw [nI_add]
        refine hc2 _ _ ⟨_, _, rfl, rfl, mo_ext (mo_oth eV4 (by omega) hO4) ?_ ?_, ?_, fr_tr hf2 (fr_tr (fr_st eV2 (by omega)) (fr_tr (fr_st eV3 (by omega)) (fr_sc eV4)))⟩
        · intro q hq' j hj
          by_cases h2 : q = p ∧ j = k
          · obtain ⟨rfl, rfl⟩ := h2
            refine (if_pos ⟨rfl, rfl⟩).trans ?_
            rw [if_pos (by omega), eg]
          · refine (if_neg h2).trans ?_
            by_cases h1 : 6 * q + j < 6 * p + k
            · rw [if_pos (by omega)]; exact if_pos h1
            · rw [if_neg (by omega)]; exact if_neg h1
        · intro q hq' j hj
          by_cases h2 : q = p ∧ j = k
          · obtain ⟨rfl, rfl⟩ := h2
            refine (if_pos ⟨rfl, rfl⟩).trans ?_
            rw [if_pos (by omega)]; exact (if_pos hq).symm
          · refine (if_neg h2).trans ?_
            by_cases h1 : 6 * q + j < 6 * p + k
            · rw [if_pos (by omega)]; exact if_pos h1
            · rw [if_neg (by omega)]; exact if_neg h1
        · intro q hq' j hj h1
          by_cases h2 : 6 * q + j = 6 * p + k
          · obtain ⟨rfl, rfl⟩ : q = p ∧ j = k := by omega
            exact st_at eV4
          · refine (st_ne eV4 h2).trans ?_
            rw [st_h eV3 (by omega), st_h eV2 (by omega)]
            exact hw2 q hq' j hj (by omega)
    · rintro _ _ ⟨e, I2, rfl, rfl, hO2, hw2, hf2⟩
      refine mjT_go 3 (pc' := if nI 6 ≤ nI 6 then 123 else 24) (L' := [some (.ref 0), some (.int (nI x)), some (.int (nI p)), some (.int (nI 6)), e]) (st' := []) (w1 := (KM, I2, J, GM)) rfl ?_
      refine mjT_ifT (Int32.le_refl _) ?_
      refine mjT_go 2 (pc' := 2) (L' := [some (.ref 0), some (.int (nI x)), some (.int ((nI p) + (nI 1))), some (.int (nI 6)), e]) (st' := []) (w1 := (KM, I2, J, GM)) rfl ?_
      rw [nI_add]
      exact hc _ _ ⟨_, _, _, rfl, rfl, hO2, hw2, hf2⟩
  · rintro _ _ ⟨d, e, I1, rfl, rfl, hO1, hw1, hf1⟩
    refine mjT_go 6 (pc' := 12) (L' := [some (.ref 0), some (.int (nI x)), some (.int (nI O.n)), d, e]) (st' := [.int ((nI x) + (nI 147)), .ref 1, .int (nI O.n)]) (w1 := (KM, I1, J, GM)) rfl ?_
    refine mjT_ial (v := nI O.n) (x + 147) 1840 rfl (pc' := 13) rfl rfl (by simp only [nI_add, pk_mul]) (by omega) (by omega) (mo_at hO1.n rfl (by omega)) ?_
    refine mjT_go 1 (pc' := if nI O.n ≤ nI O.n then 129 else 16) (L' := [some (.ref 0), some (.int (nI x)), some (.int (nI O.n)), d, e]) (st' := []) (w1 := (KM, I1, J, GM)) rfl ?_
    refine mjT_ifT (Int32.le_refl _) ?_
    refine mjT_ret rfl rfl rfl ?_
    refine ⟨rfl, _, rfl, mo_ext hO1 ?_ ?_, fun p hp k hk => hw1 p hp k hk (by omega), hf1⟩
    · intro p hp k hk
      rw [if_pos (by omega), if_neg (by omega)]
    · intro p hp k hk
      rw [if_pos (by omega), if_neg (by omega)]
theorem m_takes (hV : VO O) {p : Nat} (hp : p < O.n) (hO : MO I x (midO O 1 p)) (hw : ∀ p, p < O.n → ∀ k, k < 6 → I 4 (6 * p + k) = nI (gvN O p k)) (hx : x ≤ 1680) : mj_E 166 [.ref 0, .int (nI x), .int (nI p)] (KM, I, J, GM) (fun w' r => r = some (.int (nI (if takeN O p < 6 then 1 else 0))) ∧ ∃ I', w' = (KM, I', J, GM) ∧ MO I' x (midO O 1 (p + 1)) ∧ FrM I I' x ∧ I' 4 = I 4) := by
  have hn := hV.n
  have hd := hV.day
  have hkp := hV.kind p hp
  have hbd := bitN_lt O.dry (O.chair p)
  have hml := modelN_le O p
  have hVm := v_mid hV 1 p
  -- nothing is taken
  have hno : takeN O p = 6 → MO I x (midO O 1 (p + 1)) := by
    intro h6
    refine mo_ext hO ?_ ?_
    · intro q hq j hj
      by_cases h1 : 1 = 1 ∧ q < p ∧ takeN O q = j
      · rw [if_pos h1, if_pos (by omega)]
      · rw [if_neg h1, if_neg]
        rintro ⟨_, h2, h3⟩
        have : q ≠ p := fun z => by subst z; omega
        exact h1 ⟨rfl, by omega, h3⟩
    · intro q hq j hj
      by_cases h1 : 1 = 1 ∧ q < p ∧ takeN O q = j
      · rw [if_pos h1, if_pos (by omega)]
      · rw [if_neg h1, if_neg]
        rintro ⟨_, h2, h3⟩
        have : q ≠ p := fun z => by subst z; omega
        exact h1 ⟨rfl, by omega, h3⟩
  refine mjT_go 9 (pc' := 12) (L' := [some (.ref 0), some (.int (nI x)), some (.int (nI p)), none, none, none, none]) (st' := [.int (((nI x) + ((nI 21) * (nI p))) + (nI 0)), .ref 1]) (w1 := (KM, I, J, GM)) rfl ?_
  refine mjT_ial (v := nI (O.kind p)) ((x + (21 * p)) + 0) 1840 rfl (pc' := 13) rfl rfl (by simp only [nI_add, pk_mul]) (by omega) (by omega) (mo_at (hO.kind p (show p < O.n by omega)) rfl (by omega)) ?_
  refine mjT_go 4 (pc' := if nI (O.kind p) = nI 3 then 28 else 19) (L' := [some (.ref 0), some (.int (nI x)), some (.int (nI p)), some (.int (nI (O.kind p))), none, none, none]) (st' := []) (w1 := (KM, I, J, GM)) rfl ?_
  refine mjT_cut (P := fun b => b = 0) (pc1 := 39) (L1 := fun b => [some (.ref 0), some (.int (nI x)), some (.int (nI p)), some (.int (nI (O.kind p))), none, none, none]) (st1 := fun b => [.int (tI (modelN O p))]) (w1 := fun _ => (KM, I, J, GM)) (fun b hb => ?_) (fun h39 => ?_)
  · obtain hm | ⟨m, hm⟩ : modelN O p = 0 ∨ ∃ m, modelN O p = m + 1 := by
      rcases Nat.eq_zero_or_pos (modelN O p) with h | h
      · exact Or.inl h
      · exact Or.inr ⟨modelN O p - 1, by omega⟩
    · have h6 : takeN O p = 6 := if_pos hm
      rw [hm, tI_0, h6]
      refine mjT_go 6 (pc' := if nI 6 ≤ nI 0 then 174 else 51) (L' := [some (.ref 0), some (.int (nI x)), some (.int (nI p)), some (.int (nI (O.kind p))), some (.int (-4)), some (.int (nI 0)), none]) (st' := []) (w1 := (KM, I, J, GM)) rfl ?_
      refine mjT_ifF (nI_ge (by omega) (by omega)) ?_
      refine mjT_go 2 (pc' := if (-4) < 0 then 174 else 56) (L' := [some (.ref 0), some (.int (nI x)), some (.int (nI p)), some (.int (nI (O.kind p))), some (.int (-4)), some (.int (nI 0)), none]) (st' := []) (w1 := (KM, I, J, GM)) rfl ?_
      refine mjT_ifT (by decide) ?_
      refine mjT_go 1 (pc' := 175) (L' := [some (.ref 0), some (.int (nI x)), some (.int (nI p)), some (.int (nI (O.kind p))), some (.int (-4)), some (.int (nI 0)), none]) (st' := [.int (nI 0)]) (w1 := (KM, I, J, GM)) rfl ?_
      refine mjT_ret rfl rfl rfl ?_
      exact ⟨rfl, _, rfl, hno h6, fr_refl, rfl⟩
    · rw [hm, tI_s]
      have hmn : m < O.n := by omega
      have hsn : ∀ k, seenN O p k = if O.kind p = 2 then 7 - gvN O m k else gvN O m k := by
        intro k; unfold seenN; rw [hm]; rfl
      have htk : takeN O p = fdN (seenN O p) (gvN O p) := if_neg (by omega)
      refine mjT_go 3 (pc' := 44) (L' := [some (.ref 0), some (.int (nI x)), some (.int (nI p)), some (.int (nI (O.kind p))), some (.int (nI m)), some (.int (nI 0)), none]) (st' := []) (w1 := (KM, I, J, GM)) rfl ?_
      refine mj_loop (fun k L w => ∃ e : Option Value, L = [some (.ref 0), some (.int (nI x)), some (.int (nI p)), some (.int (nI (O.kind p))), some (.int (nI m)), some (.int (nI k)), e] ∧ w = (KM, I, J, GM) ∧ ∀ j, j < k → seenN O p j = gvN O p j) 6 (k0 := 0) (Nat.zero_le _) ?_ ?_ ?_
      · exact ⟨_, rfl, rfl, fun _ h => absurd h (by omega)⟩
      · rintro k _ _ hk ⟨e, rfl, rfl, hal⟩ hc
        have hgm := gv_lt hV hmn hk
        have hgp := gv_lt hV hp hk
        have hsl := seen_lt hV hp hk
        refine mjT_go 3 (pc' := if nI 6 ≤ nI k then 174 else 51) (L' := [some (.ref 0), some (.int (nI x)), some (.int (nI p)), some (.int (nI (O.kind p))), some (.int (nI m)), some (.int (nI k)), e]) (st' := []) (w1 := (KM, I, J, GM)) rfl ?_
        refine mjT_ifF (nI_ge (by omega) (by omega)) ?_
        refine mjT_go 2 (pc' := if nI m < 0 then 174 else 56) (L' := [some (.ref 0), some (.int (nI x)), some (.int (nI p)), some (.int (nI (O.kind p))), some (.int (nI m)), some (.int (nI k)), e]) (st' := []) (w1 := (KM, I, J, GM)) rfl ?_
        refine mjT_ifF (nI_pos (by omega)) ?_
        refine mjT_cut (P := fun b => b = 0) (pc1 := 93) (L1 := fun b => [some (.ref 0), some (.int (nI x)), some (.int (nI p)), some (.int (nI (O.kind p))), some (.int (nI m)), some (.int (nI k)), e]) (st1 := fun b => [.int (nI (seenN O p k))]) (w1 := fun _ => (KM, I, J, GM)) (fun b hb => ?_) (fun h93 => ?_)
        · refine mjT_go 9 (pc' := 108) (L' := [some (.ref 0), some (.int (nI x)), some (.int (nI p)), some (.int (nI (O.kind p))), some (.int (nI m)), some (.int (nI k)), some (.int (nI (seenN O p k)))]) (st' := [.int (((nI 6) * (nI p)) + (nI k)), .ref 4, .int (nI (seenN O p k))]) (w1 := (KM, I, J, GM)) rfl ?_
          refine mjT_ial (v := nI (gvN O p k)) ((6 * p) + k) 42 rfl (pc' := 109) rfl rfl (by simp only [nI_add, pk_mul]) (by omega) (by omega) (mo_at (hw p hp k hk) (by omega) (by omega)) ?_
          refine mjT_go 1 (pc' := if nI (seenN O p k) = nI (gvN O p k) then 168 else 112) (L' := [some (.ref 0), some (.int (nI x)), some (.int (nI p)), some (.int (nI (O.kind p))), some (.int (nI m)), some (.int (nI k)), some (.int (nI (seenN O p k)))]) (st' := []) (w1 := (KM, I, J, GM)) rfl ?_
          refine mjT_if_eq (u := seenN O p k) (v := gvN O p k) rfl rfl (by omega) (by omega) (fun hq => ?_) (fun hq => ?_)
          · refine mjT_go 2 (pc' := 44) (L' := [some (.ref 0), some (.int (nI x)), some (.int (nI p)), some (.int (nI (O.kind p))), some (.int (nI m)), some (.int ((nI k) + (nI 1))), some (.int (nI (seenN O p k)))]) (st' := []) (w1 := (KM, I, J, GM)) rfl ?_
            rw [nI_add]
            exact hc _ _ ⟨_, rfl, rfl, fun j hj => by
              by_cases h : j = k
              · subst h; exact hq
              · exact hal j (by omega)⟩
          · have htk' : takeN O p = k := htk.trans (fd_at hk hal hq)
            refine mjT_go 12 (pc' := 130) (L' := [some (.ref 0), some (.int (nI x)), some (.int (nI p)), some (.int (nI (O.kind p))), some (.int (nI m)), some (.int (nI k)), some (.int (nI (seenN O p k)))]) (st' := [.int (nI (seenN O p k)), .int ((((nI x) + ((nI 21) * (nI p))) + (nI 9)) + (nI k)), .ref 1]) (w1 := (KM, I, J, GM)) rfl ?_
            obtain ⟨V1, eV1⟩ : ∃ z, z = mj_row I 1 (va_up (I 1) (((x + (21 * p)) + 9) + k) (nI (seenN O p k))) := ⟨_, rfl⟩
            refine mjT_ias (I' := V1) (((x + (21 * p)) + 9) + k) 1840 rfl (pc' := 131) rfl rfl (by simp only [nI_add, pk_mul]) (by omega) (by omega) eV1.symm ?_
            have hO1 := mo_wr eV1 (by omega) hO hp hk hn
            have hV1 := v_setWr hVm (p := p) (k := k) hsl
            refine mjT_go 16 (pc' := 156) (L' := [some (.ref 0), some (.int (nI x)), some (.int (nI p)), some (.int (nI (O.kind p))), some (.int (nI m)), some (.int (nI k)), some (.int (nI (seenN O p k)))]) (st' := [.int ((nI x) + (nI 148)), .ref 1, .int ((((nI x) + ((nI 21) * (nI p))) + (nI 15)) + (nI k)), .ref 1]) (w1 := (KM, V1, J, GM)) rfl ?_
            refine mjT_ial (v := nI O.day) (x + 148) 1840 rfl (pc' := 157) rfl rfl (by simp only [nI_add, pk_mul]) (by omega) (by omega) (mo_at hO1.day rfl (by omega)) ?_
            refine mjT_go 3 (pc' := 161) (L' := [some (.ref 0), some (.int (nI x)), some (.int (nI p)), some (.int (nI (O.kind p))), some (.int (nI m)), some (.int (nI k)), some (.int (nI (seenN O p k)))]) (st' := [.int (nI m), .int (nI x), .ref 0, .int (nI O.day), .int ((((nI x) + ((nI 21) * (nI p))) + (nI 15)) + (nI k)), .ref 1]) (w1 := (KM, V1, J, GM)) rfl ?_
            refine mjT_callE (as := [.ref 0, .int (nI x), .int (nI m)]) (rest := [.int (nI O.day), .int ((((nI x) + ((nI 21) * (nI p))) + (nI 15)) + (nI k)), .ref 1]) rfl rfl rfl rfl rfl ⟨rfl, rfl⟩ (m_lastsOf hV1 hO1 hx hmn) ?_
            refine mjT_go 1 (pc' := 165) (L' := [some (.ref 0), some (.int (nI x)), some (.int (nI p)), some (.int (nI (O.kind p))), some (.int (nI m)), some (.int (nI k)), some (.int (nI (seenN O p k)))]) (st' := [.int ((nI O.day) + (nI (lastsN O m))), .int ((((nI x) + ((nI 21) * (nI p))) + (nI 15)) + (nI k)), .ref 1]) (w1 := (KM, V1, J, GM)) rfl ?_
            obtain ⟨V2, eV2⟩ : ∃ z, z = mj_row V1 1 (va_up (V1 1) (((x + (21 * p)) + 15) + k) ((nI O.day) + (nI (lastsN O m)))) := ⟨_, rfl⟩
            refine mjT_ias (I' := V2) (((x + (21 * p)) + 15) + k) 1840 rfl (pc' := 166) rfl rfl (by simp only [nI_add, pk_mul]) (by omega) (by omega) eV2.symm ?_
            refine mjT_go 1 (pc' := 167) (L' := [some (.ref 0), some (.int (nI x)), some (.int (nI p)), some (.int (nI (O.kind p))), some (.int (nI m)), some (.int (nI k)), some (.int (nI (seenN O p k)))]) (st' := [.int (nI 1)]) (w1 := (KM, V2, J, GM)) rfl ?_
            have hO2 := mo_ti (v := O.day + lastsN O m + 1) (eV2.trans (by rw [nI_add, tI_s])) (by omega) hO1 hp hk hn
            refine mjT_ret rfl rfl rfl ?_
            refine ⟨by rw [htk', if_pos hk], _, rfl, mo_ext hO2 ?_ ?_, fr_tr (fr_st eV1 (by omega)) (fr_st eV2 (by omega)), by rw [st_h eV2 (by omega), st_h eV1 (by omega)]⟩
            · intro q hq' j hj
              by_cases h2 : q = p ∧ j = k
              · obtain ⟨rfl, rfl⟩ := h2
                refine (if_pos ⟨rfl, rfl⟩).trans ?_
                rw [if_pos ⟨rfl, by omega, htk'⟩]
              · refine (if_neg h2).trans ?_
                by_cases h1 : 1 = 1 ∧ q < p ∧ takeN O q = j
                · rw [if_pos (by omega)]; exact if_pos h1
                · rw [if_neg]
                  · exact if_neg h1
                  · rintro ⟨_, h4, h5⟩
                    by_cases h6 : q = p
                    · subst h6; omega
                    · omega
            · intro q hq' j hj
              by_cases h2 : q = p ∧ j = k
              · obtain ⟨rfl, rfl⟩ := h2
                refine (if_pos ⟨rfl, rfl⟩).trans ?_
                rw [if_pos ⟨rfl, by omega, htk'⟩, hm]; rfl
              · refine (if_neg h2).trans ?_
                by_cases h1 : 1 = 1 ∧ q < p ∧ takeN O q = j
                · rw [if_pos (by omega)]; exact if_pos h1
                · rw [if_neg]
                  · exact if_neg h1
                  · rintro ⟨_, h4, h5⟩
                    by_cases h6 : q = p
                    · subst h6; omega
                    · omega
        · refine mjT_go 3 (pc' := if ¬ nI (O.kind p) = nI 2 then 80 else 61) (L' := [some (.ref 0), some (.int (nI x)), some (.int (nI p)), some (.int (nI (O.kind p))), some (.int (nI m)), some (.int (nI k)), e]) (st' := []) (w1 := (KM, I, J, GM)) rfl ?_
          refine mjT_if_ne (u := O.kind p) (v := 2) rfl rfl (by omega) (by omega) (fun hk2 => ?_) (fun hk2 => ?_)
          · refine mjT_go 7 (pc' := 92) (L' := [some (.ref 0), some (.int (nI x)), some (.int (nI p)), some (.int (nI (O.kind p))), some (.int (nI m)), some (.int (nI k)), e]) (st' := [.int (((nI 6) * (nI m)) + (nI k)), .ref 4]) (w1 := (KM, I, J, GM)) rfl ?_
            refine mjT_ial (v := nI (gvN O m k)) ((6 * m) + k) 42 rfl (pc' := 93) rfl rfl (by simp only [nI_add, pk_mul]) (by omega) (by omega) (mo_at (hw m hmn k hk) (by omega) (by omega)) ?_
            rw [show gvN O m k = seenN O p k by rw [hsn, if_neg hk2]]
            exact h93 0 rfl
          · refine mjT_go 8 (pc' := 75) (L' := [some (.ref 0), some (.int (nI x)), some (.int (nI p)), some (.int (nI (O.kind p))), some (.int (nI m)), some (.int (nI k)), e]) (st' := [.int (((nI 6) * (nI m)) + (nI k)), .ref 4, .int (nI 7)]) (w1 := (KM, I, J, GM)) rfl ?_
            refine mjT_ial (v := nI (gvN O m k)) ((6 * m) + k) 42 rfl (pc' := 76) rfl rfl (by simp only [nI_add, pk_mul]) (by omega) (by omega) (mo_at (hw m hmn k hk) (by omega) (by omega)) ?_
            refine mjT_go 1 (pc' := 77) (L' := [some (.ref 0), some (.int (nI x)), some (.int (nI p)), some (.int (nI (O.kind p))), some (.int (nI m)), some (.int (nI k)), e]) (st' := [.int ((nI 7) - (nI (gvN O m k)))]) (w1 := (KM, I, J, GM)) rfl ?_
            rw [sub7 _ hgm, show 7 - gvN O m k = seenN O p k by rw [hsn, if_pos hk2]]
            refine mjT_go 1 (pc' := 93) (L' := [some (.ref 0), some (.int (nI x)), some (.int (nI p)), some (.int (nI (O.kind p))), some (.int (nI m)), some (.int (nI k)), e]) (st' := [.int (nI (seenN O p k))]) (w1 := (KM, I, J, GM)) rfl ?_
            exact h93 0 rfl
      · rintro _ _ ⟨e, rfl, rfl, hal⟩
        refine mjT_go 3 (pc' := if nI 6 ≤ nI 6 then 174 else 51) (L' := [some (.ref 0), some (.int (nI x)), some (.int (nI p)), some (.int (nI (O.kind p))), some (.int (nI m)), some (.int (nI 6)), e]) (st' := []) (w1 := (KM, I, J, GM)) rfl ?_
        refine mjT_ifT (Int32.le_refl _) ?_
        refine mjT_go 1 (pc' := 175) (L' := [some (.ref 0), some (.int (nI x)), some (.int (nI p)), some (.int (nI (O.kind p))), some (.int (nI m)), some (.int (nI 6)), e]) (st' := [.int (nI 0)]) (w1 := (KM, I, J, GM)) rfl ?_
        refine mjT_ret rfl rfl rfl ?_
        have h6 : takeN O p = 6 := htk.trans (fd_no hal)
        exact ⟨by rw [h6]; rfl, _, rfl, hno h6, fr_refl, rfl⟩
  · refine mjT_if_eq (u := O.kind p) (v := 3) rfl rfl (by omega) (by omega) (fun h3 => ?_) (fun h3 => ?_)
    · refine mjT_go 2 (pc' := 39) (L' := [some (.ref 0), some (.int (nI x)), some (.int (nI p)), some (.int (nI (O.kind p))), none, none, none]) (st' := [.int (-4)]) (w1 := (KM, I, J, GM)) rfl ?_
      rw [show (-4 : Int32) = tI (modelN O p) by rw [show modelN O p = 0 from if_pos (Or.inl h3)]; rfl]
      exact h39 0 rfl
    · refine mjT_go 3 (pc' := 22) (L' := [some (.ref 0), some (.int (nI x)), some (.int (nI p)), some (.int (nI (O.kind p))), none, none, none]) (st' := [.int (nI p), .int (nI x), .ref 0]) (w1 := (KM, I, J, GM)) rfl ?_
      refine mjT_callE (as := [.ref 0, .int (nI x), .int (nI p)]) (rest := []) rfl rfl rfl rfl rfl ⟨rfl, rfl⟩ (m_isDry hVm hO hx hp) ?_
      refine mjT_go 1 (pc' := if nI (bitN O.dry (O.chair p)) = 0 then 33 else 28) (L' := [some (.ref 0), some (.int (nI x)), some (.int (nI p)), some (.int (nI (O.kind p))), none, none, none]) (st' := []) (w1 := (KM, I, J, GM)) rfl ?_
      refine mjT_if_eq (u := bitN O.dry (O.chair p)) (v := 0) rfl nI_0.symm (by omega) (by omega) (fun h4 => ?_) (fun h4 => ?_)
      · refine mjT_go 3 (pc' := 36) (L' := [some (.ref 0), some (.int (nI x)), some (.int (nI p)), some (.int (nI (O.kind p))), none, none, none]) (st' := [.int (nI p), .int (nI x), .ref 0]) (w1 := (KM, I, J, GM)) rfl ?_
        refine mjT_callE (as := [.ref 0, .int (nI x), .int (nI p)]) (rest := []) rfl rfl rfl rfl rfl ⟨rfl, rfl⟩ (looksN_mid O 1 p p O.n ▸ m_looksAt hVm hO hx hp) ?_
        rw [show looksN O p O.n = modelN O p from (if_neg (by omega)).symm]
        exact h39 0 rfl
      · refine mjT_go 2 (pc' := 39) (L' := [some (.ref 0), some (.int (nI x)), some (.int (nI p)), some (.int (nI (O.kind p))), none, none, none]) (st' := [.int (-4)]) (w1 := (KM, I, J, GM)) rfl ?_
        rw [show (-4 : Int32) = tI (modelN O p) by rw [show modelN O p = 0 from if_pos (Or.inr (by omega))]; rfl]
        exact h39 0 rfl
end M2
