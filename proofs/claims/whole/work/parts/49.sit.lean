/-! sit, dry, type -/
theorem exC_same (a c : Nat) : exC a a c = c := by
  unfold exC
  by_cases h : c = a
  · rw [if_pos h, h]
  · rw [if_neg h, if_neg h]
theorem exO_same (O : Off) (a : Nat) : exO O a a = O := by
  have : (fun p => exC a a (O.chair p)) = O.chair := funext fun p => exC_same a _
  unfold exO
  rw [this]; rfl
theorem mo_ex {I : Nat → Nat → Int32} {x a b : Nat} {O : Off} (ch : Nat → Nat) (hO : MO I x (mkO O.n O.day O.wet O.dry O.las O.draw O.kind O.str ch O.own O.wr O.till)) (h : ∀ p, p < O.n → ch p = exC a b (O.chair p)) : MO I x (exO O a b) :=
  ⟨hO.n, hO.day, hO.wet, hO.dry, hO.las, hO.draw, hO.kind, hO.str, fun p hp => (hO.chair p hp).trans (congrArg nI (h p hp)), hO.own, hO.wr, hO.till⟩
section SI
variable {I : Nat → Nat → Int32} {J : Nat → Nat → Int64} {S : Sta} {o x : Nat} {O : Off} {P : Nat → Prop}
theorem m_exchange (hV : VO O) (hO : MO I x O) (hx : x ≤ 1680) {a b : Nat} (ha : a < 8) (hb : b < 8) (hab : a ≠ b) : mj_E 146 [.ref 0, .int (nI x), .int (nI a), .int (nI b)] (KM, I, J, GM) (fun w' r => r = none ∧ ∃ I', w' = (KM, I', J, GM) ∧ MO I' x (exO O a b) ∧ FrM I I' x) := by
  have hn := hV.n
  have hsa := sitr_le O a
  have hsb := sitr_le O b
  obtain ⟨s, hs⟩ : ∃ s, sitr O a = s := ⟨_, rfl⟩
  obtain ⟨t, ht⟩ : ∃ t, sitr O b = t := ⟨_, rfl⟩
  refine mjT_go 3 (pc' := 3) (L' := [some (.ref 0), some (.int (nI x)), some (.int (nI a)), some (.int (nI b)), none, none]) (st' := [.int (nI a), .int (nI x), .ref 0]) (w1 := (KM, I, J, GM)) rfl ?_
  refine mjT_callE (as := [.ref 0, .int (nI x), .int (nI a)]) (rest := []) (r1 := some (.int (tI s))) rfl rfl rfl rfl rfl ⟨rfl, rfl⟩ (hs ▸ m_sitsOn hV hO hx ha) ?_
  refine mjT_go 4 (pc' := 11) (L' := [some (.ref 0), some (.int (nI x)), some (.int (nI a)), some (.int (nI b)), some (.int (tI s)), none]) (st' := [.int (nI b), .int (nI x), .ref 0]) (w1 := (KM, I, J, GM)) rfl ?_
  refine mjT_callE (as := [.ref 0, .int (nI x), .int (nI b)]) (rest := []) (r1 := some (.int (tI t))) rfl rfl rfl rfl rfl ⟨rfl, rfl⟩ (ht ▸ m_sitsOn hV hO hx hb) ?_
  refine mjT_go 2 (pc' := 18) (L' := [some (.ref 0), some (.int (nI x)), some (.int (nI a)), some (.int (nI b)), some (.int (tI s)), some (.int (tI t))]) (st' := [.int (tI s)]) (w1 := (KM, I, J, GM)) rfl ?_
  cases s with
  | zero =>
    have na : ∀ p, p < O.n → O.chair p ≠ a := sitL_none hs
    refine mjT_go 1 (pc' := if tI 0 < 0 then 36 else 21) (L' := [some (.ref 0), some (.int (nI x)), some (.int (nI a)), some (.int (nI b)), some (.int (tI 0)), some (.int (tI t))]) (st' := []) (w1 := (KM, I, J, GM)) rfl ?_
    refine mjT_ifT (by decide) ?_
    refine mjT_go 1 (pc' := 38) (L' := [some (.ref 0), some (.int (nI x)), some (.int (nI a)), some (.int (nI b)), some (.int (tI 0)), some (.int (tI t))]) (st' := [.int (tI t)]) (w1 := (KM, I, J, GM)) rfl ?_
    cases t with
    | zero =>
      have nb : ∀ p, p < O.n → O.chair p ≠ b := sitL_none ht
      refine mjT_go 1 (pc' := if tI 0 < 0 then 56 else 41) (L' := [some (.ref 0), some (.int (nI x)), some (.int (nI a)), some (.int (nI b)), some (.int (tI 0)), some (.int (tI 0))]) (st' := []) (w1 := (KM, I, J, GM)) rfl ?_
      refine mjT_ifT (by decide) ?_
      refine mjT_ret rfl rfl rfl ?_
      exact ⟨rfl, _, rfl, mo_ex O.chair hO (fun p hp => by unfold exC; rw [if_neg (na p hp), if_neg (nb p hp)]), fr_refl⟩
    | succ q =>
      obtain ⟨hq, hqb⟩ := (sitr_iff hV).mp ht
      refine mjT_go 1 (pc' := if nI q < 0 then 56 else 41) (L' := [some (.ref 0), some (.int (nI x)), some (.int (nI a)), some (.int (nI b)), some (.int (tI 0)), some (.int (nI q))]) (st' := []) (w1 := (KM, I, J, GM)) rfl ?_
      refine mjT_ifF (nI_pos (by omega)) ?_
      refine mjT_go 10 (pc' := 55) (L' := [some (.ref 0), some (.int (nI x)), some (.int (nI a)), some (.int (nI b)), some (.int (tI 0)), some (.int (nI q))]) (st' := [.int (nI a), .int (((nI x) + ((nI 21) * (nI q))) + (nI 2)), .ref 1]) (w1 := (KM, I, J, GM)) rfl ?_
      obtain ⟨V1, eV1⟩ : ∃ z, z = mj_row I 1 (va_up (I 1) ((x + (21 * q)) + 2) (nI a)) := ⟨_, rfl⟩
      refine mjT_ias (I' := V1) ((x + (21 * q)) + 2) 1840 rfl (pc' := 56) rfl rfl (by simp only [nI_add, pk_mul]) (by omega) (by omega) eV1.symm ?_
      refine mjT_ret rfl rfl rfl ?_
      refine ⟨rfl, _, rfl, mo_ex (upd1 O.chair q a) (mo_ch eV1 (by omega) hO hq hn) (fun p hp => ?_), fr_st eV1 (by omega)⟩
      unfold exC upd1
      rw [if_neg (na p hp)]
      by_cases e : p = q
      · subst e; rw [if_pos rfl, if_pos hqb]
      · rw [if_neg e, if_neg (fun h => e (hV.inj p q hp hq (h.trans hqb.symm)))]
  | succ p0 =>
    obtain ⟨hp0, hpa⟩ := (sitr_iff hV).mp hs
    refine mjT_go 1 (pc' := if nI p0 < 0 then 36 else 21) (L' := [some (.ref 0), some (.int (nI x)), some (.int (nI a)), some (.int (nI b)), some (.int (nI p0)), some (.int (tI t))]) (st' := []) (w1 := (KM, I, J, GM)) rfl ?_
    refine mjT_ifF (nI_pos (by omega)) ?_
    refine mjT_go 10 (pc' := 35) (L' := [some (.ref 0), some (.int (nI x)), some (.int (nI a)), some (.int (nI b)), some (.int (nI p0)), some (.int (tI t))]) (st' := [.int (nI b), .int (((nI x) + ((nI 21) * (nI p0))) + (nI 2)), .ref 1]) (w1 := (KM, I, J, GM)) rfl ?_
    obtain ⟨V2, eV2⟩ : ∃ z, z = mj_row I 1 (va_up (I 1) ((x + (21 * p0)) + 2) (nI b)) := ⟨_, rfl⟩
    refine mjT_ias (I' := V2) ((x + (21 * p0)) + 2) 1840 rfl (pc' := 36) rfl rfl (by simp only [nI_add, pk_mul]) (by omega) (by omega) eV2.symm ?_
    refine mjT_go 1 (pc' := 38) (L' := [some (.ref 0), some (.int (nI x)), some (.int (nI a)), some (.int (nI b)), some (.int (nI p0)), some (.int (tI t))]) (st' := [.int (tI t)]) (w1 := (KM, V2, J, GM)) rfl ?_
    have hO1 := mo_ch eV2 (by omega) hO hp0 hn
    cases t with
    | zero =>
      have nb : ∀ p, p < O.n → O.chair p ≠ b := sitL_none ht
      refine mjT_go 1 (pc' := if tI 0 < 0 then 56 else 41) (L' := [some (.ref 0), some (.int (nI x)), some (.int (nI a)), some (.int (nI b)), some (.int (nI p0)), some (.int (tI 0))]) (st' := []) (w1 := (KM, V2, J, GM)) rfl ?_
      refine mjT_ifT (by decide) ?_
      refine mjT_ret rfl rfl rfl ?_
      refine ⟨rfl, _, rfl, mo_ex (upd1 O.chair p0 b) hO1 (fun p hp => ?_), fr_st eV2 (by omega)⟩
      unfold exC upd1
      by_cases e : p = p0
      · subst e; rw [if_pos rfl, if_pos hpa]
      · rw [if_neg e, if_neg (fun h => e (hV.inj p p0 hp hp0 (h.trans hpa.symm))), if_neg (nb p hp)]
    | succ q =>
      obtain ⟨hq, hqb⟩ := (sitr_iff hV).mp ht
      refine mjT_go 1 (pc' := if nI q < 0 then 56 else 41) (L' := [some (.ref 0), some (.int (nI x)), some (.int (nI a)), some (.int (nI b)), some (.int (nI p0)), some (.int (nI q))]) (st' := []) (w1 := (KM, V2, J, GM)) rfl ?_
      refine mjT_ifF (nI_pos (by omega)) ?_
      refine mjT_go 10 (pc' := 55) (L' := [some (.ref 0), some (.int (nI x)), some (.int (nI a)), some (.int (nI b)), some (.int (nI p0)), some (.int (nI q))]) (st' := [.int (nI a), .int (((nI x) + ((nI 21) * (nI q))) + (nI 2)), .ref 1]) (w1 := (KM, V2, J, GM)) rfl ?_
      obtain ⟨V3, eV3⟩ : ∃ z, z = mj_row V2 1 (va_up (V2 1) ((x + (21 * q)) + 2) (nI a)) := ⟨_, rfl⟩
      refine mjT_ias (I' := V3) ((x + (21 * q)) + 2) 1840 rfl (pc' := 56) rfl rfl (by simp only [nI_add, pk_mul]) (by omega) (by omega) eV3.symm ?_
      refine mjT_ret rfl rfl rfl ?_
      refine ⟨rfl, _, rfl, mo_ex (upd1 (upd1 O.chair p0 b) q a) (mo_ch eV3 (by omega) hO1 hq hn) (fun p hp => ?_), fr_tr (fr_st eV2 (by omega)) (fr_st eV3 (by omega))⟩
      unfold exC upd1
      by_cases e : p = q
      · subst e; rw [if_pos rfl, if_neg (by omega), if_pos hqb]
      · rw [if_neg e]
        by_cases e2 : p = p0
        · subst e2; rw [if_pos rfl, if_pos hpa]
        · rw [if_neg e2, if_neg (fun h => e2 (hV.inj p p0 hp hp0 (h.trans hpa.symm))), if_neg (fun h => e (hV.inj p q hp hq (h.trans hqb.symm)))]
def aSit (S : Sta) (x y : Int32) : Int32 := if iP x S.o.n = 1 ∧ iR y 0 7 = 1 then nI (S.o.chair (nn x)) else -1
def sSit (S : Sta) (x y : Int32) : Sta := if iP x S.o.n = 1 ∧ iR y 0 7 = 1 then setO S (exO S.o (S.o.chair (nn x)) (nn y)) else S
theorem vs_sit (hV : VS S) {x y : Int32} : VS (sSit S x y) := by
  unfold sSit
  by_cases h : iP x S.o.n = 1 ∧ iR y 0 7 = 1
  · rw [if_pos h]
    obtain ⟨h1, h2⟩ := h
    obtain ⟨p, hp, rfl⟩ := iP_1 h1 (by have := hV.o.n; omega)
    obtain ⟨c, _, hc, rfl⟩ := iR_1 h2 (by omega) (by omega)
    have := hV.o.n
    rw [nn_N (by omega), nn_N (by omega)]
    exact vs_o hV (v_ex hV.o (hV.o.chair p hp) (by omega)) hV.day rfl
  · rw [if_neg h]; exact hV
theorem cc_sit (hV : VS S) (hC : CW I J S) {x y : Int32} : mj_E 75 [.ref 0, .int x, .int y] (KC, I, J, GC) (fun w' r => r = some (.int (aSit S x y)) ∧ ∃ I' J', w' = (KC, I', J', GC) ∧ CW I' J' (sSit S x y)) := by
  have hn := hV.o.n
  have hp01 := ip01 x S.o.n
  have hr01 := ir01 y 0 7
  unfold aSit sSit
  refine mjT_go 3 (pc' := 5) (L' := [some (.ref 0), some (.int x), some (.int y), none]) (st' := [.int x, .ref 1]) (w1 := (KC, I, J, GC)) rfl ?_
  refine mjT_callE (as := [.ref 1, .int x]) (rest := []) (r1 := some (.int (nI (iP x S.o.n)))) rfl rfl rfl rfl rfl ⟨rfl, rfl⟩ (c_has hV.o og_1 hC.o) ?_
  refine mjT_go 1 (pc' := if nI (iP x S.o.n) = 0 then 18 else 11) (L' := [some (.ref 0), some (.int x), some (.int y), none]) (st' := []) (w1 := (KC, I, J, GC)) rfl ?_
  refine mjT_if_eq (u := iP x S.o.n) (v := 0) rfl nI_0.symm (by omega) (by omega) (fun h1 => ?_) (fun h1 => ?_)
  · rw [if_neg (by omega), if_neg (by omega)]
    refine mjT_go 1 (pc' := 19) (L' := [some (.ref 0), some (.int x), some (.int y), none]) (st' := [.int (-1)]) (w1 := (KC, I, J, GC)) rfl ?_
    refine mjT_ret rfl rfl rfl ?_
    exact ⟨rfl, _, _, rfl, hC⟩
  refine mjT_go 1 (pc' := 12) (L' := [some (.ref 0), some (.int x), some (.int y), none]) (st' := [.int y]) (w1 := (KC, I, J, GC)) rfl ?_
  refine mjT_callE (as := [.int y]) (rest := []) (r1 := some (.int (nI (iR y 0 7)))) rfl rfl rfl rfl rfl ⟨rfl, rfl⟩ c_isChair ?_
  refine mjT_go 1 (pc' := if ¬ nI (iR y 0 7) = 0 then 20 else 18) (L' := [some (.ref 0), some (.int x), some (.int y), none]) (st' := []) (w1 := (KC, I, J, GC)) rfl ?_
  refine mjT_if_ne (u := iR y 0 7) (v := 0) rfl nI_0.symm (by omega) (by omega) (fun h2 => ?_) (fun h2 => ?_)
  rotate_left
  · rw [if_neg (by omega), if_neg (by omega)]
    refine mjT_go 1 (pc' := 19) (L' := [some (.ref 0), some (.int x), some (.int y), none]) (st' := [.int (-1)]) (w1 := (KC, I, J, GC)) rfl ?_
    refine mjT_ret rfl rfl rfl ?_
    exact ⟨rfl, _, _, rfl, hC⟩
  rw [if_pos (by omega), if_pos (by omega)]
  obtain ⟨p, hp, rfl⟩ := iP_1 (x := x) (n := S.o.n) (by omega) (by omega)
  obtain ⟨c, _, hc7, rfl⟩ := iR_1 (x := y) (a := 0) (b := 7) (by omega) (by omega) (by omega)
  rw [nn_N (by omega), nn_N (by omega)]
  have hch := hV.o.chair p hp
  refine mjT_go 3 (pc' := 25) (L' := [some (.ref 0), some (.int (nI p)), some (.int (nI c)), none]) (st' := [.int (nI p), .ref 1]) (w1 := (KC, I, J, GC)) rfl ?_
  refine mjT_callE (as := [.ref 1, .int (nI p)]) (rest := []) (r1 := some (.int (nI (S.o.chair p)))) rfl rfl rfl rfl rfl ⟨rfl, rfl⟩ (c_chairOf hV.o og_1 hC.o hp) ?_
  refine mjT_go 5 (pc' := 35) (L' := [some (.ref 0), some (.int (nI p)), some (.int (nI c)), some (.int (nI (S.o.chair p)))]) (st' := [.int (nI c), .int (nI (S.o.chair p)), .ref 1]) (w1 := (KC, I, J, GC)) rfl ?_
  refine mjT_call (as := [.ref 1, .int (nI (S.o.chair p)), .int (nI c)]) (rest := []) rfl rfl rfl rfl rfl ⟨rfl, rfl⟩ (c_exchange hV.o og_1 hC.o hch (show c < 8 by omega)) ?_
  rintro _ _ ⟨rfl, I2, rfl, hO2, hf2⟩
  refine mjT_go 1 (pc' := 39) (L' := [some (.ref 0), some (.int (nI p)), some (.int (nI c)), some (.int (nI (S.o.chair p)))]) (st' := [.int (nI (S.o.chair p))]) (w1 := (KC, I2, J, GC)) rfl ?_
  refine mjT_ret rfl rfl rfl ?_
  exact ⟨rfl, _, _, rfl, cw_o hC hO2 (fun h hh => hf2 h (by omega))⟩
theorem mm_sit (hV : VS S) (hM : MW I J S) {x y : Int32} : mj_E 147 [.ref 0, .int x, .int y] (KM, I, J, GM) (fun w' r => r = some (.int (aSit S x y)) ∧ ∃ I' J', w' = (KM, I', J', GM) ∧ MW I' J' (sSit S x y)) := by
  have hn := hV.o.n
  have hp01 := ip01 x S.o.n
  have hr01 := ir01 y 0 7
  unfold aSit sSit
  refine mjT_go 2 (pc' := 2) (L' := [some (.ref 0), some (.int x), some (.int y), none]) (st' := [.int x, .ref 0]) (w1 := (KM, I, J, GM)) rfl ?_
  refine mjT_callE (as := [.ref 0, .int x]) (rest := []) (r1 := some (.int (nI (iP x S.o.n)))) rfl rfl rfl rfl rfl ⟨rfl, rfl⟩ (m_isPerson hV.o hM.o) ?_
  refine mjT_go 1 (pc' := if nI (iP x S.o.n) = 0 then 15 else 8) (L' := [some (.ref 0), some (.int x), some (.int y), none]) (st' := []) (w1 := (KM, I, J, GM)) rfl ?_
  refine mjT_if_eq (u := iP x S.o.n) (v := 0) rfl nI_0.symm (by omega) (by omega) (fun h1 => ?_) (fun h1 => ?_)
  · rw [if_neg (by omega), if_neg (by omega)]
    refine mjT_go 1 (pc' := 16) (L' := [some (.ref 0), some (.int x), some (.int y), none]) (st' := [.int (-1)]) (w1 := (KM, I, J, GM)) rfl ?_
    refine mjT_ret rfl rfl rfl ?_
    exact ⟨rfl, _, _, rfl, hM⟩
  refine mjT_go 1 (pc' := 9) (L' := [some (.ref 0), some (.int x), some (.int y), none]) (st' := [.int y]) (w1 := (KM, I, J, GM)) rfl ?_
  refine mjT_callE (as := [.int y]) (rest := []) (r1 := some (.int (nI (iR y 0 7)))) rfl rfl rfl rfl rfl ⟨rfl, rfl⟩ m_isChair ?_
  refine mjT_go 1 (pc' := if ¬ nI (iR y 0 7) = 0 then 17 else 15) (L' := [some (.ref 0), some (.int x), some (.int y), none]) (st' := []) (w1 := (KM, I, J, GM)) rfl ?_
  refine mjT_if_ne (u := iR y 0 7) (v := 0) rfl nI_0.symm (by omega) (by omega) (fun h2 => ?_) (fun h2 => ?_)
  rotate_left
  · rw [if_neg (by omega), if_neg (by omega)]
    refine mjT_go 1 (pc' := 16) (L' := [some (.ref 0), some (.int x), some (.int y), none]) (st' := [.int (-1)]) (w1 := (KM, I, J, GM)) rfl ?_
    refine mjT_ret rfl rfl rfl ?_
    exact ⟨rfl, _, _, rfl, hM⟩
  rw [if_pos (by omega), if_pos (by omega)]
  obtain ⟨p, hp, rfl⟩ := iP_1 (x := x) (n := S.o.n) (by omega) (by omega)
  obtain ⟨c, _, hc7, rfl⟩ := iR_1 (x := y) (a := 0) (b := 7) (by omega) (by omega) (by omega)
  rw [nn_N (by omega), nn_N (by omega)]
  have hch := hV.o.chair p hp
  refine mjT_go 7 (pc' := 27) (L' := [some (.ref 0), some (.int (nI p)), some (.int (nI c)), none]) (st' := [.int (((nI 21) * (nI p)) + (nI 2)), .ref 1]) (w1 := (KM, I, J, GM)) rfl ?_
  refine mjT_ial (v := nI (S.o.chair p)) ((21 * p) + 2) 1840 rfl (pc' := 28) rfl rfl (by simp only [nI_add, pk_mul]) (by omega) (by omega) (mo_at (hM.o.chair p (show p < S.o.n by omega)) rfl (by omega)) ?_
  refine mjT_go 4 (pc' := if nI (S.o.chair p) = nI c then 41 else 34) (L' := [some (.ref 0), some (.int (nI p)), some (.int (nI c)), some (.int (nI (S.o.chair p)))]) (st' := []) (w1 := (KM, I, J, GM)) rfl ?_
  refine mjT_if_eq (u := S.o.chair p) (v := c) rfl rfl (by omega) (by omega) (fun hq => ?_) (fun hq => ?_)
  · have e0 : exO S.o (S.o.chair p) c = S.o := by rw [hq]; exact exO_same _ _
    rw [e0]
    refine mjT_go 1 (pc' := 42) (L' := [some (.ref 0), some (.int (nI p)), some (.int (nI c)), some (.int (nI (S.o.chair p)))]) (st' := [.int (nI (S.o.chair p))]) (w1 := (KM, I, J, GM)) rfl ?_
    refine mjT_ret rfl rfl rfl ?_
    exact ⟨rfl, _, _, rfl, hM⟩
  · refine mjT_go 4 (pc' := 38) (L' := [some (.ref 0), some (.int (nI p)), some (.int (nI c)), some (.int (nI (S.o.chair p)))]) (st' := [.int (nI c), .int (nI (S.o.chair p)), .int (nI 0), .ref 0]) (w1 := (KM, I, J, GM)) rfl ?_
    refine mjT_call (as := [.ref 0, .int (nI 0), .int (nI (S.o.chair p)), .int (nI c)]) (rest := []) rfl rfl rfl rfl rfl ⟨rfl, rfl⟩ (m_exchange hV.o hM.o (by omega) hch (show c < 8 by omega) hq) ?_
    rintro _ _ ⟨rfl, I2, rfl, hO2, hf2⟩
    refine mjT_go 1 (pc' := 42) (L' := [some (.ref 0), some (.int (nI p)), some (.int (nI c)), some (.int (nI (S.o.chair p)))]) (st' := [.int (nI (S.o.chair p))]) (w1 := (KM, I2, J, GM)) rfl ?_
    refine mjT_ret rfl rfl rfl ?_
    exact ⟨rfl, _, _, rfl, mw_o hM hV hO2 hf2.1 (fun k hk => hf2.2 k (by omega))⟩
theorem sim_sit {x y : Int32} : SimO 75 147 [.int x, .int y] := fun S _ _ _ _ hV hC hM => ⟨_, _, vs_sit hV, cc_sit hV hC, mm_sit hV hM⟩
/-! dry -/
def setB (d c b : Nat) : Nat := d + b * 2 ^ c - bitN d c * 2 ^ c
theorem setB_lt : ∀ d, d < 256 → ∀ c, c < 8 → ∀ b, b < 2 → setB d c b < 256 := by decide +kernel
theorem setB_c : ∀ d, d < 256 → ∀ c, c < 8 → ∀ b, b < 2 → nI d &&& (nI 1 <<< (nI c &&& 31) ^^^ -1) ||| nI b <<< (nI c &&& 31) = nI (setB d c b) := by decide +kernel
theorem setB_m : ∀ d, d < 256 → ∀ c, c < 8 → ∀ b, b < 2 → nI d + (nI b - nI (bitN d c)) <<< (nI c &&& 31) = nI (setB d c b) := by decide +kernel
def aDry (S : Sta) (x y : Int32) : Int32 := if iR x 0 7 = 1 ∧ iR y 0 1 = 1 then nI (bitN S.o.dry (nn x)) else -1
def sDry (S : Sta) (x y : Int32) : Sta := if iR x 0 7 = 1 ∧ iR y 0 1 = 1 then setO S (dryO S.o (setB S.o.dry (nn x) (nn y))) else S
theorem vs_dry (hV : VS S) {x y : Int32} : VS (sDry S x y) := by
  unfold sDry
  by_cases h : iR x 0 7 = 1 ∧ iR y 0 1 = 1
  · rw [if_pos h]
    obtain ⟨h1, h2⟩ := h
    obtain ⟨c, _, hc, rfl⟩ := iR_1 h1 (by omega) (by omega)
    obtain ⟨b, _, hb, rfl⟩ := iR_1 h2 (by omega) (by omega)
    rw [nn_N (by omega), nn_N (by omega)]
    exact vs_o hV (v_dry hV.o (setB_lt _ hV.o.dry _ (by omega) _ (by omega))) hV.day rfl
  · rw [if_neg h]; exact hV
theorem cc_dry (hV : VS S) (hC : CW I J S) {x y : Int32} : mj_E 77 [.ref 0, .int x, .int y] (KC, I, J, GC) (fun w' r => r = some (.int (aDry S x y)) ∧ ∃ I' J', w' = (KC, I', J', GC) ∧ CW I' J' (sDry S x y)) := by
  have hn := hV.o.n
  have hd := hV.o.dry
  have hp01 := ir01 x 0 7
  have hr01 := ir01 y 0 1
  unfold aDry sDry
  refine mjT_go 1 (pc' := 1) (L' := [some (.ref 0), some (.int x), some (.int y), none]) (st' := [.int x]) (w1 := (KC, I, J, GC)) rfl ?_
  refine mjT_callE (as := [.int x]) (rest := []) (r1 := some (.int (nI (iR x 0 7)))) rfl rfl rfl rfl rfl ⟨rfl, rfl⟩ c_isChair ?_
  refine mjT_go 1 (pc' := if nI (iR x 0 7) = 0 then 16 else 7) (L' := [some (.ref 0), some (.int x), some (.int y), none]) (st' := []) (w1 := (KC, I, J, GC)) rfl ?_
  refine mjT_if_eq (u := iR x 0 7) (v := 0) rfl nI_0.symm (by omega) (by omega) (fun h1 => ?_) (fun h1 => ?_)
  · rw [if_neg (by omega), if_neg (by omega)]
    refine mjT_go 1 (pc' := 17) (L' := [some (.ref 0), some (.int x), some (.int y), none]) (st' := [.int (-1)]) (w1 := (KC, I, J, GC)) rfl ?_
    refine mjT_ret rfl rfl rfl ?_
    exact ⟨rfl, _, _, rfl, hC⟩
  refine mjT_go 3 (pc' := 10) (L' := [some (.ref 0), some (.int x), some (.int y), none]) (st' := [.int (nI 1), .int (nI 0), .int y]) (w1 := (KC, I, J, GC)) rfl ?_
  refine mjT_callE (as := [.int y, .int (nI 0), .int (nI 1)]) (rest := []) (r1 := some (.int (nI (iR y 0 1)))) rfl rfl rfl rfl rfl ⟨rfl, rfl⟩ c_within ?_
  refine mjT_go 1 (pc' := if ¬ nI (iR y 0 1) = 0 then 18 else 16) (L' := [some (.ref 0), some (.int x), some (.int y), none]) (st' := []) (w1 := (KC, I, J, GC)) rfl ?_
  refine mjT_if_ne (u := iR y 0 1) (v := 0) rfl nI_0.symm (by omega) (by omega) (fun h2 => ?_) (fun h2 => ?_)
  rotate_left
  · rw [if_neg (by omega), if_neg (by omega)]
    refine mjT_go 1 (pc' := 17) (L' := [some (.ref 0), some (.int x), some (.int y), none]) (st' := [.int (-1)]) (w1 := (KC, I, J, GC)) rfl ?_
    refine mjT_ret rfl rfl rfl ?_
    exact ⟨rfl, _, _, rfl, hC⟩
  rw [if_pos (by omega), if_pos (by omega)]
  obtain ⟨c, _, hc, rfl⟩ := iR_1 (x := x) (a := 0) (b := 7) (by omega) (by omega) (by omega)
  obtain ⟨b, _, hb, rfl⟩ := iR_1 (x := y) (a := 0) (b := 1) (by omega) (by omega) (by omega)
  rw [nn_N (by omega), nn_N (by omega)]
  refine mjT_go 2 (pc' := 22) (L' := [some (.ref 0), some (.int (nI c)), some (.int (nI b)), none]) (st' := [.ref 1]) (w1 := (KC, I, J, GC)) rfl ?_
  refine mjT_gfi (v := nI S.o.dry) rfl (Or.inl rfl) (pc' := 25) rfl rfl (mo_at (hC.o.dry) (by omega) (by omega)) ?_
  refine mjT_go 3 (pc' := 28) (L' := [some (.ref 0), some (.int (nI c)), some (.int (nI b)), none]) (st' := [.int (nI 1), .int ((nI S.o.dry) >>> ((nI c) &&& 31))]) (w1 := (KC, I, J, GC)) rfl ?_
  refine mjT_go 1 (pc' := 29) (L' := [some (.ref 0), some (.int (nI c)), some (.int (nI b)), none]) (st' := [.int (((nI S.o.dry) >>> ((nI c) &&& 31)) &&& (nI 1))]) (w1 := (KC, I, J, GC)) rfl ?_
  rw [bit_at (by omega) (by omega)]
  refine mjT_go 5 (pc' := 38) (L' := [some (.ref 0), some (.int (nI c)), some (.int (nI b)), some (.int (nI (bitN S.o.dry c)))]) (st' := [.ref 1, .ref 1]) (w1 := (KC, I, J, GC)) rfl ?_
  refine mjT_gfi (v := nI S.o.dry) rfl (Or.inl rfl) (pc' := 41) rfl rfl (mo_at (hC.o.dry) (by omega) (by omega)) ?_
  refine mjT_go 9 (pc' := 50) (L' := [some (.ref 0), some (.int (nI c)), some (.int (nI b)), some (.int (nI (bitN S.o.dry c)))]) (st' := [.int ((nI b) <<< ((nI c) &&& 31)), .int ((nI S.o.dry) &&& (((nI 1) <<< ((nI c) &&& 31)) ^^^ (-1))), .ref 1]) (w1 := (KC, I, J, GC)) rfl ?_
  refine mjT_go 1 (pc' := 51) (L' := [some (.ref 0), some (.int (nI c)), some (.int (nI b)), some (.int (nI (bitN S.o.dry c)))]) (st' := [.int (((nI S.o.dry) &&& (((nI 1) <<< ((nI c) &&& 31)) ^^^ (-1))) ||| ((nI b) <<< ((nI c) &&& 31))), .ref 1]) (w1 := (KC, I, J, GC)) rfl ?_
  rw [setB_c _ hd _ (by omega) _ (by omega)]
  obtain ⟨V1, eV1⟩ : ∃ z, z = mj_row I 1 (va_up (I 1) 1 (nI (setB S.o.dry c b))) := ⟨_, rfl⟩
  refine mjT_pfi (I' := V1) rfl (pc' := 54) rfl rfl eV1.symm ?_
  refine mjT_go 1 (pc' := 55) (L' := [some (.ref 0), some (.int (nI c)), some (.int (nI b)), some (.int (nI (bitN S.o.dry c)))]) (st' := [.int (nI (bitN S.o.dry c))]) (w1 := (KC, V1, J, GC)) rfl ?_
  refine mjT_ret rfl rfl rfl ?_
  exact ⟨rfl, _, _, rfl, cw_o hC (ro_dry hC.o eV1) (fun h hh => st_h eV1 (by omega))⟩
theorem mm_dry (hV : VS S) (hM : MW I J S) {x y : Int32} : mj_E 149 [.ref 0, .int x, .int y] (KM, I, J, GM) (fun w' r => r = some (.int (aDry S x y)) ∧ ∃ I' J', w' = (KM, I', J', GM) ∧ MW I' J' (sDry S x y)) := by
  have hn := hV.o.n
  have hd := hV.o.dry
  have hp01 := ir01 x 0 7
  have hr01 := ir01 y 0 1
  unfold aDry sDry
  refine mjT_go 1 (pc' := 1) (L' := [some (.ref 0), some (.int x), some (.int y), none]) (st' := [.int x]) (w1 := (KM, I, J, GM)) rfl ?_
  refine mjT_callE (as := [.int x]) (rest := []) (r1 := some (.int (nI (iR x 0 7)))) rfl rfl rfl rfl rfl ⟨rfl, rfl⟩ m_isChair ?_
  refine mjT_go 1 (pc' := if nI (iR x 0 7) = 0 then 17 else 7) (L' := [some (.ref 0), some (.int x), some (.int y), none]) (st' := []) (w1 := (KM, I, J, GM)) rfl ?_
  refine mjT_if_eq (u := iR x 0 7) (v := 0) rfl nI_0.symm (by omega) (by omega) (fun h1 => ?_) (fun h1 => ?_)
  · rw [if_neg (by omega), if_neg (by omega)]
    refine mjT_go 1 (pc' := 18) (L' := [some (.ref 0), some (.int x), some (.int y), none]) (st' := [.int (-1)]) (w1 := (KM, I, J, GM)) rfl ?_
    refine mjT_ret rfl rfl rfl ?_
    exact ⟨rfl, _, _, rfl, hM⟩
  refine mjT_go 4 (pc' := 11) (L' := [some (.ref 0), some (.int x), some (.int y), none]) (st' := [.long (lN 1), .long (lN 0), .long y.toInt64]) (w1 := (KM, I, J, GM)) rfl ?_
  refine mjT_callE (as := [.long y.toInt64, .long (lN 0), .long (lN 1)]) (rest := []) (r1 := some (.int (nI (iR y 0 1)))) rfl rfl rfl rfl rfl ⟨rfl, rfl⟩ (m_inR (by decide) (by decide)) ?_
  refine mjT_go 1 (pc' := if ¬ nI (iR y 0 1) = 0 then 19 else 17) (L' := [some (.ref 0), some (.int x), some (.int y), none]) (st' := []) (w1 := (KM, I, J, GM)) rfl ?_
  refine mjT_if_ne (u := iR y 0 1) (v := 0) rfl nI_0.symm (by omega) (by omega) (fun h2 => ?_) (fun h2 => ?_)
  rotate_left
  · rw [if_neg (by omega), if_neg (by omega)]
    refine mjT_go 1 (pc' := 18) (L' := [some (.ref 0), some (.int x), some (.int y), none]) (st' := [.int (-1)]) (w1 := (KM, I, J, GM)) rfl ?_
    refine mjT_ret rfl rfl rfl ?_
    exact ⟨rfl, _, _, rfl, hM⟩
  rw [if_pos (by omega), if_pos (by omega)]
  obtain ⟨c, _, hc, rfl⟩ := iR_1 (x := x) (a := 0) (b := 7) (by omega) (by omega) (by omega)
  obtain ⟨b, _, hb, rfl⟩ := iR_1 (x := y) (a := 0) (b := 1) (by omega) (by omega) (by omega)
  rw [nn_N (by omega), nn_N (by omega)]
  refine mjT_go 3 (pc' := 26) (L' := [some (.ref 0), some (.int (nI c)), some (.int (nI b)), none]) (st' := [.int (nI 150), .ref 1]) (w1 := (KM, I, J, GM)) rfl ?_
  refine mjT_ial (v := nI S.o.dry) 150 1840 rfl (pc' := 27) rfl rfl rfl (by omega) (by omega) (mo_at hM.o.dry rfl (by omega)) ?_
  refine mjT_go 3 (pc' := 30) (L' := [some (.ref 0), some (.int (nI c)), some (.int (nI b)), none]) (st' := [.int (nI 1), .int ((nI S.o.dry) >>> ((nI c) &&& 31))]) (w1 := (KM, I, J, GM)) rfl ?_
  refine mjT_go 1 (pc' := 31) (L' := [some (.ref 0), some (.int (nI c)), some (.int (nI b)), none]) (st' := [.int (((nI S.o.dry) >>> ((nI c) &&& 31)) &&& (nI 1))]) (w1 := (KM, I, J, GM)) rfl ?_
  rw [bit_at (by omega) (by omega)]
  refine mjT_go 5 (pc' := 40) (L' := [some (.ref 0), some (.int (nI c)), some (.int (nI b)), some (.int (nI (bitN S.o.dry c)))]) (st' := [.int (nI 150), .ref 1, .int (nI 150), .ref 1]) (w1 := (KM, I, J, GM)) rfl ?_
  refine mjT_ial (v := nI S.o.dry) 150 1840 rfl (pc' := 41) rfl rfl rfl (by omega) (by omega) (mo_at hM.o.dry rfl (by omega)) ?_
  refine mjT_go 5 (pc' := 46) (L' := [some (.ref 0), some (.int (nI c)), some (.int (nI b)), some (.int (nI (bitN S.o.dry c)))]) (st' := [.int (((nI b) - (nI (bitN S.o.dry c))) <<< ((nI c) &&& 31)), .int (nI S.o.dry), .int (nI 150), .ref 1]) (w1 := (KM, I, J, GM)) rfl ?_
  refine mjT_go 1 (pc' := 47) (L' := [some (.ref 0), some (.int (nI c)), some (.int (nI b)), some (.int (nI (bitN S.o.dry c)))]) (st' := [.int ((nI S.o.dry) + (((nI b) - (nI (bitN S.o.dry c))) <<< ((nI c) &&& 31))), .int (nI 150), .ref 1]) (w1 := (KM, I, J, GM)) rfl ?_
  rw [setB_m _ hd _ (by omega) _ (by omega)]
  obtain ⟨V1, eV1⟩ : ∃ z, z = mj_row I 1 (va_up (I 1) 150 (nI (setB S.o.dry c b))) := ⟨_, rfl⟩
  refine mjT_ias (I' := V1) 150 1840 rfl (pc' := 48) rfl rfl rfl (by omega) (by omega) eV1.symm ?_
  refine mjT_go 1 (pc' := 49) (L' := [some (.ref 0), some (.int (nI c)), some (.int (nI b)), some (.int (nI (bitN S.o.dry c)))]) (st' := [.int (nI (bitN S.o.dry c))]) (w1 := (KM, V1, J, GM)) rfl ?_
  refine mjT_ret rfl rfl rfl ?_
  exact ⟨rfl, _, _, rfl, mw_o hM hV (mo_dry eV1 (by omega) hM.o hn) (fun h a _ => st_h eV1 a) (fun k hk => st_ne eV1 (by omega))⟩
theorem sim_dry {x y : Int32} : SimO 77 149 [.int x, .int y] := fun S _ _ _ _ hV hC hM => ⟨_, _, vs_dry hV, cc_dry hV hC, mm_dry hV hM⟩
/-! type -/
def typS (S : Sta) (v : Nat) : Sta := mkS S.o S.kn S.pa S.im S.io S.ikn S.ipa (S.tl + 1) (fun j => if j = S.tl then v else S.tp j) S.sz S.ln S.it
def aType (S : Sta) (x : Int32) : Int32 := if iR x 32 126 = 1 then (if S.tl < 130 then nI (S.tl + 1) else -3) else -1
def sType (S : Sta) (x : Int32) : Sta := if iR x 32 126 = 1 then (if S.tl < 130 then typS S (nn x) else S) else S
theorem vs_type (hV : VS S) {x : Int32} : VS (sType S x) := by
  unfold sType
  by_cases h : iR x 32 126 = 1
  · rw [if_pos h]
    by_cases ht : S.tl < 130
    · rw [if_pos ht]
      obtain ⟨v, hv1, hv2, rfl⟩ := iR_1 h (by omega) (by omega)
      rw [nn_N (by omega)]
      refine ⟨hV.o, hV.day, hV.kn, hV.pa, hV.im, hV.io, by show S.tl + 1 ≤ 130; omega, fun j (hj : j < S.tl + 1) => ?_, hV.sz, hV.ln⟩
      show 32 ≤ (if j = S.tl then v else S.tp j) ∧ (if j = S.tl then v else S.tp j) ≤ 126
      by_cases e : j = S.tl
      · rw [if_pos e]; exact ⟨hv1, hv2⟩
      · rw [if_neg e]; exact hV.tp j (by omega)
    · rw [if_neg ht]; exact hV
  · rw [if_neg h]; exact hV
theorem iR_both {x : Int32} {a b : Nat} : iR x a b = 1 ↔ ¬ x < nI a ∧ x ≤ nI b := by
  unfold iR
  rw [i32_nlt]
  by_cases h : nI a ≤ x ∧ x ≤ nI b
  · rw [if_pos h]; exact ⟨fun _ => h, fun _ => rfl⟩
  · rw [if_neg h]; exact ⟨fun q => absurd q (by omega), fun q => absurd q h⟩
theorem c_append (hV : VS S) (hC : CW I J S) {x : Int32} : mj_E 42 [.ref 86, .int x] (KC, I, J, GC) (fun w' r => r = some (.int (aType S x)) ∧ ∃ I' J', w' = (KC, I', J', GC) ∧ CW I' J' (sType S x)) := by
  have htl := hV.tl
  unfold aType sType
  refine mjT_go 3 (pc' := if x < nI 32 then 12 else 6) (L' := [some (.ref 86), some (.int x)]) (st' := []) (w1 := (KC, I, J, GC)) rfl ?_
  refine mjT_if (fun h1 => ?_) (fun h1 => ?_)
  · rw [if_neg (fun q => (iR_both.mp q).1 h1), if_neg (fun q => (iR_both.mp q).1 h1)]
    refine mjT_go 1 (pc' := 13) (L' := [some (.ref 86), some (.int x)]) (st' := [.int (-1)]) (w1 := (KC, I, J, GC)) rfl ?_
    refine mjT_ret rfl rfl rfl ?_
    exact ⟨rfl, _, _, rfl, hC⟩
  · refine mjT_go 3 (pc' := if x ≤ nI 126 then 14 else 12) (L' := [some (.ref 86), some (.int x)]) (st' := []) (w1 := (KC, I, J, GC)) rfl ?_
    refine mjT_if (fun h2 => ?_) (fun h2 => ?_)
    rotate_left
    · rw [if_neg (fun q => h2 (iR_both.mp q).2), if_neg (fun q => h2 (iR_both.mp q).2)]
      refine mjT_go 1 (pc' := 13) (L' := [some (.ref 86), some (.int x)]) (st' := [.int (-1)]) (w1 := (KC, I, J, GC)) rfl ?_
      refine mjT_ret rfl rfl rfl ?_
      exact ⟨rfl, _, _, rfl, hC⟩
    have hok : iR x 32 126 = 1 := iR_both.mpr ⟨h1, h2⟩
    rw [if_pos hok, if_pos hok]
    obtain ⟨v, hv1, hv2, rfl⟩ := iR_1 hok (by omega) (by omega)
    rw [nn_N (by omega)]
    refine mjT_go 1 (pc' := 15) (L' := [some (.ref 86), some (.int (nI v))]) (st' := [.ref 86]) (w1 := (KC, I, J, GC)) rfl ?_
    refine mjT_gfi (v := nI S.tl) rfl (Or.inl rfl) (pc' := 18) rfl rfl (show I 86 1 = nI S.tl from hC.tl) ?_
    refine mjT_go 2 (pc' := if nI S.tl < nI 130 then 27 else 24) (L' := [some (.ref 86), some (.int (nI v))]) (st' := []) (w1 := (KC, I, J, GC)) rfl ?_
    refine mjT_if_lt (u := S.tl) (v := 130) rfl rfl (by omega) (by omega) (fun h3 => ?_) (fun h3 => ?_)
    rotate_left
    · rw [if_neg (by omega), if_neg (by omega)]
      refine mjT_go 1 (pc' := 26) (L' := [some (.ref 86), some (.int (nI v))]) (st' := [.int (-3)]) (w1 := (KC, I, J, GC)) rfl ?_
      refine mjT_ret rfl rfl rfl ?_
      exact ⟨rfl, _, _, rfl, hC⟩
    rw [if_pos h3, if_pos h3]
    refine mjT_go 3 (pc' := 32) (L' := [some (.ref 86), some (.int (nI v))]) (st' := [.ref 86, .ref 87]) (w1 := (KC, I, J, GC)) rfl ?_
    refine mjT_gfi (v := nI S.tl) rfl (Or.inl rfl) (pc' := 35) rfl rfl (show I 86 1 = nI S.tl from hC.tl) ?_
    refine mjT_go 1 (pc' := 36) (L' := [some (.ref 86), some (.int (nI v))]) (st' := [.int (nI v), .int (nI S.tl), .ref 87]) (w1 := (KC, I, J, GC)) rfl ?_
    obtain ⟨V1, eV1⟩ : ∃ z, z = mj_row I 87 (va_up (I 87) S.tl (nI v)) := ⟨_, rfl⟩
    refine mjT_ias (I' := V1) S.tl 130 rfl (pc' := 37) rfl rfl rfl (by omega) (by omega) eV1.symm ?_
    refine mjT_go 2 (pc' := 39) (L' := [some (.ref 86), some (.int (nI v))]) (st' := [.ref 86, .ref 86]) (w1 := (KC, V1, J, GC)) rfl ?_
    refine mjT_gfi (v := nI S.tl) rfl (Or.inl rfl) (pc' := 42) rfl rfl (show V1 86 1 = nI S.tl from ((congrFun (st_h eV1 (by omega)) 1).trans hC.tl)) ?_
    refine mjT_go 2 (pc' := 44) (L' := [some (.ref 86), some (.int (nI v))]) (st' := [.int ((nI S.tl) + (nI 1)), .ref 86]) (w1 := (KC, V1, J, GC)) rfl ?_
    obtain ⟨V2, eV2⟩ : ∃ z, z = mj_row V1 86 (va_up (V1 86) 1 ((nI S.tl) + (nI 1))) := ⟨_, rfl⟩
    refine mjT_pfi (I' := V2) rfl (pc' := 47) rfl rfl eV2.symm ?_
    rw [nI_add] at eV2
    refine mjT_go 1 (pc' := 48) (L' := [some (.ref 86), some (.int (nI v))]) (st' := [.ref 86]) (w1 := (KC, V2, J, GC)) rfl ?_
    refine mjT_gfi (v := nI (S.tl + 1)) rfl (Or.inl rfl) (pc' := 51) rfl rfl (show V2 86 1 = nI (S.tl + 1) from (st_at eV2)) ?_
    refine mjT_ret rfl rfl rfl ?_
    have f : ∀ h, h ≠ 86 → h ≠ 87 → V2 h = I h := fun h a b => (st_h eV2 a).trans (st_h eV1 b)
    refine ⟨rfl, _, _, rfl, ro_cong hC.o (fun k hk => f _ (by omega) (by omega)), pc_cong hC.past (f _ (by omega) (by omega)) (fun k hk => f _ (by omega) (by omega)), by rw [f 0 (by omega) (by omega)]; exact hC.im, fun hi => ⟨ro_cong (hC.io hi).1 (fun k hk => f _ (by omega) (by omega)), pc_cong (hC.io hi).2 (f _ (by omega) (by omega)) (fun k hk => f _ (by omega) (by omega))⟩, st_at eV2, fun j (hj : j < S.tl + 1) => ?_, ?_, ?_, hC.it⟩
    · rw [st_h eV2 (by omega)]
      show V1 87 j = nI (if j = S.tl then v else S.tp j)
      by_cases e : j = S.tl
      · subst e; rw [if_pos rfl]; exact st_at eV1
      · rw [if_neg e, st_ne eV1 e]; exact hC.tp j (by omega)
    · rw [f _ (by omega) (by omega)]; exact hC.sz
    · rw [f _ (by omega) (by omega)]; exact hC.ln
theorem cc_type (hV : VS S) (hC : CW I J S) {x : Int32} : mj_E 80 [.ref 0, .int x] (KC, I, J, GC) (fun w' r => r = some (.int (aType S x)) ∧ ∃ I' J', w' = (KC, I', J', GC) ∧ CW I' J' (sType S x)) := by
  refine mjT_go 3 (pc' := 5) (L' := [some (.ref 0), some (.int x)]) (st' := [.int x, .ref 86]) (w1 := (KC, I, J, GC)) rfl ?_
  refine mjT_call (as := [.ref 86, .int x]) (rest := []) rfl rfl rfl rfl rfl ⟨rfl, rfl⟩ (c_append hV hC) ?_
  rintro _ _ ⟨rfl, I2, J2, rfl, hC2⟩
  refine mjT_ret rfl rfl rfl ?_
  exact ⟨rfl, _, _, rfl, hC2⟩
theorem mm_type (hV : VS S) (hM : MW I J S) {x : Int32} : mj_E 153 [.ref 0, .int x] (KM, I, J, GM) (fun w' r => r = some (.int (aType S x)) ∧ ∃ I' J', w' = (KM, I', J', GM) ∧ MW I' J' (sType S x)) := by
  have htl := hV.tl
  have hk8 := hV.kn
  have hn := hV.o.n
  have hr01 := ir01 x 32 126
  unfold aType sType
  refine mjT_go 4 (pc' := 8) (L' := [some (.ref 0), some (.int x)]) (st' := [.long (lN 126), .long (lN 32), .long x.toInt64]) (w1 := (KM, I, J, GM)) rfl ?_
  refine mjT_callE (as := [.long x.toInt64, .long (lN 32), .long (lN 126)]) (rest := []) (r1 := some (.int (nI (iR x 32 126)))) rfl rfl rfl rfl rfl ⟨rfl, rfl⟩ (m_inR (by decide) (by decide)) ?_
  refine mjT_go 1 (pc' := if ¬ nI (iR x 32 126) = 0 then 16 else 14) (L' := [some (.ref 0), some (.int x)]) (st' := []) (w1 := (KM, I, J, GM)) rfl ?_
  refine mjT_if_ne (u := iR x 32 126) (v := 0) rfl nI_0.symm (by omega) (by omega) (fun h1 => ?_) (fun h1 => ?_)
  rotate_left
  · rw [if_neg (by omega), if_neg (by omega)]
    refine mjT_go 1 (pc' := 15) (L' := [some (.ref 0), some (.int x)]) (st' := [.int (-1)]) (w1 := (KM, I, J, GM)) rfl ?_
    refine mjT_ret rfl rfl rfl ?_
    exact ⟨rfl, _, _, rfl, hM⟩
  rw [if_pos (show iR x 32 126 = 1 by omega), if_pos (show iR x 32 126 = 1 by omega)]
  obtain ⟨v, hv1, hv2, rfl⟩ := iR_1 (x := x) (a := 32) (b := 126) (by omega) (by omega) (by omega)
  rw [nn_N (by omega)]
  refine mjT_go 1 (pc' := 17) (L' := [some (.ref 0), some (.int (nI v))]) (st' := [.ref 0]) (w1 := (KM, I, J, GM)) rfl ?_
  refine mjT_gfi (v := nI S.tl) rfl (Or.inl rfl) (pc' := 20) rfl rfl (show I 0 3 = nI S.tl from hM.tl) ?_
  refine mjT_go 2 (pc' := if ¬ nI S.tl = nI 130 then 29 else 26) (L' := [some (.ref 0), some (.int (nI v))]) (st' := []) (w1 := (KM, I, J, GM)) rfl ?_
  refine mjT_if_ne (u := S.tl) (v := 130) rfl rfl (by omega) (by omega) (fun h3 => ?_) (fun h3 => ?_)
  rotate_left
  · rw [if_neg (show ¬ S.tl < 130 by omega), if_neg (show ¬ S.tl < 130 by omega)]
    refine mjT_go 1 (pc' := 28) (L' := [some (.ref 0), some (.int (nI v))]) (st' := [.int (-3)]) (w1 := (KM, I, J, GM)) rfl ?_
    refine mjT_ret rfl rfl rfl ?_
    exact ⟨rfl, _, _, rfl, hM⟩
  rw [if_pos (show S.tl < 130 by omega), if_pos (show S.tl < 130 by omega)]
  refine mjT_go 3 (pc' := 34) (L' := [some (.ref 0), some (.int (nI v))]) (st' := [.ref 0, .ref 2]) (w1 := (KM, I, J, GM)) rfl ?_
  refine mjT_gfi (v := nI S.tl) rfl (Or.inl rfl) (pc' := 37) rfl rfl (show I 0 3 = nI S.tl from hM.tl) ?_
  refine mjT_go 1 (pc' := 38) (L' := [some (.ref 0), some (.int (nI v))]) (st' := [.int (nI v), .int (nI S.tl), .ref 2]) (w1 := (KM, I, J, GM)) rfl ?_
  obtain ⟨V1, eV1⟩ : ∃ z, z = mj_row I 2 (va_up (I 2) S.tl (nI v)) := ⟨_, rfl⟩
  refine mjT_ias (I' := V1) S.tl 130 rfl (pc' := 39) rfl rfl rfl (by omega) (by omega) eV1.symm ?_
  refine mjT_go 2 (pc' := 41) (L' := [some (.ref 0), some (.int (nI v))]) (st' := [.ref 0, .ref 0]) (w1 := (KM, V1, J, GM)) rfl ?_
  refine mjT_gfi (v := nI S.tl) rfl (Or.inl rfl) (pc' := 44) rfl rfl (show V1 0 3 = nI S.tl from ((congrFun (st_h eV1 (by omega)) 3).trans hM.tl)) ?_
  refine mjT_go 2 (pc' := 46) (L' := [some (.ref 0), some (.int (nI v))]) (st' := [.int ((nI S.tl) + (nI 1)), .ref 0]) (w1 := (KM, V1, J, GM)) rfl ?_
  obtain ⟨V2, eV2⟩ : ∃ z, z = mj_row V1 0 (va_up (V1 0) 3 ((nI S.tl) + (nI 1))) := ⟨_, rfl⟩
  refine mjT_pfi (I' := V2) rfl (pc' := 49) rfl rfl eV2.symm ?_
  rw [nI_add] at eV2
  refine mjT_go 1 (pc' := 50) (L' := [some (.ref 0), some (.int (nI v))]) (st' := [.ref 0]) (w1 := (KM, V2, J, GM)) rfl ?_
  refine mjT_gfi (v := nI (S.tl + 1)) rfl (Or.inl rfl) (pc' := 53) rfl rfl (show V2 0 3 = nI (S.tl + 1) from (st_at eV2)) ?_
  refine mjT_ret rfl rfl rfl ?_
  have f : ∀ h, h ≠ 0 → h ≠ 2 → V2 h = I h := fun h a b => (st_h eV2 a).trans (st_h eV1 b)
  have f1 : V2 1 = I 1 := f 1 (by omega) (by omega)
  refine ⟨rfl, _, _, rfl, mo_cong hM.o hn (fun k _ _ => by rw [f1]), pm_cong hM.past hk8 hn hV.pa (fun k _ _ => by rw [f1]), ?_, fun hi => ?_, st_at eV2, fun j (hj : j < S.tl + 1) => ?_, ?_, ?_, hM.it⟩
  · rw [st_ne eV2 (by omega), st_h eV1 (by omega)]; exact hM.im
  · obtain ⟨v1, v2, v3, v4⟩ := hV.io hi
    exact ⟨mo_cong (hM.io hi).1 v1.n (fun k _ _ => by rw [f1]), pm_cong (hM.io hi).2 v3 v1.n v4 (fun k _ _ => by rw [f1])⟩
  · rw [st_h eV2 (by omega)]
    show V1 2 j = nI (if j = S.tl then v else S.tp j)
    by_cases e : j = S.tl
    · subst e; rw [if_pos rfl]; exact st_at eV1
    · rw [if_neg e, st_ne eV1 e]; exact hM.tp j (by omega)
  · rw [f _ (by omega) (by omega)]; exact hM.ln
  · rw [f _ (by omega) (by omega)]; exact hM.sz
theorem sim_type {x : Int32} : SimO 80 153 [.int x] := fun S _ _ _ _ hV hC hM => ⟨_, _, vs_type hV, cc_type hV hC, mm_type hV hM⟩
end SI
