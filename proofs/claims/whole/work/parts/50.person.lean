/-! a paper, a new person -/
def papN (x : Int32) : Nat := if iR x 0 777777 = 1 then okD (nn x) 6 else 0
theorem papN_lt (x : Int32) : papN x < 2 := by
  unfold papN
  split
  · exact okD_lt _ _
  · omega
theorem papN_1 {x : Int32} (h : papN x = 1) : ∃ m, m ≤ 777777 ∧ x = nI m ∧ okD m 6 = 1 ∧ dgo (dig m) ∧ nn x = m := by
  unfold papN at h
  by_cases h1 : iR x 0 777777 = 1
  · rw [if_pos h1] at h
    obtain ⟨m, _, hm, rfl⟩ := iR_1 h1 (by omega) (by omega)
    rw [nn_N (by omega)] at h
    exact ⟨m, hm, rfl, h, okD_1.mp h, nn_N (by omega)⟩
  · rw [if_neg h1] at h; exact absurd h (by omega)
section PE
variable {I : Nat → Nat → Int32} {J : Nat → Nat → Int64} {K : List (Nat × Nat)} {G : Nat → Nat → Option Nat} {S : Sta} {o x : Nat} {O : Off} {P : Nat → Prop}
noncomputable def pckI (x : Int32) : Int32 := if papN x = 1 then nI (rw6 (dig (nn x))) else -1
theorem pck_neg {x : Int32} : pckI x < 0 ↔ papN x = 0 := by
  unfold pckI
  have := papN_lt x
  by_cases h : papN x = 1
  · rw [if_pos h]
    obtain ⟨m, hm, rfl, _, hd, e⟩ := papN_1 h
    have := rw6_lt hd
    rw [e]
    exact ⟨fun q => absurd q (nI_pos (by omega)), fun q => by omega⟩
  · rw [if_neg h]; exact ⟨fun _ => by omega, fun _ => by decide⟩
theorem c_packedP {x : Int32} : mj_Ev 54 [.int x] (K, I, J, G) (K, I, J, G) (some (.int (pckI x))) := by
  unfold pckI papN
  have h01 := ir01 x 0 777777
  by_cases h1 : iR x 0 777777 = 1
  · rw [if_pos h1]
    obtain ⟨m, _, hm, rfl⟩ := iR_1 h1 (by omega) (by omega)
    rw [nn_N (by omega)]
    exact c_packed hm
  · rw [if_neg h1, if_neg (by omega)]
    exact c_packed_out (by omega)
theorem m_isPaperI {x : Int32} : mj_Ev 137 [.long x.toInt64] (K, I, J, G) (K, I, J, G) (some (.int (nI (papN x)))) := by
  unfold papN
  by_cases h1 : iR x 0 777777 = 1
  · rw [if_pos h1]
    obtain ⟨m, _, hm, rfl⟩ := iR_1 h1 (by omega) (by omega)
    rw [nn_N (by omega), nI_l (by omega)]
    exact m_isPaper_in hm
  · rw [if_neg h1]
    refine m_isPaper_out (fun q => h1 ?_)
    unfold iR
    exact if_pos ⟨(l_leN (by omega)).mp q.1, (l_Nle (by omega)).mp q.2⟩
def updF (f : Nat → Nat → Nat) (p : Nat) (g : Nat → Nat) : Nat → Nat → Nat := fun a => if a = p then g else f a
/-- one more -/
def addO (O : Off) (k s : Nat) (d : Nat → Nat) (c : Nat) : Off := mkO (O.n + 1) O.day O.wet O.dry O.las O.draw (upd1 O.kind O.n k) (upd1 O.str O.n s) (upd1 O.chair O.n c) (updF O.own O.n d) (updF O.wr O.n d) (updF O.till O.n (fun _ => 0))
theorem u1_at {f : Nat → Nat} {p v : Nat} : upd1 f p v p = v := if_pos rfl
theorem u1_ne {f : Nat → Nat} {p v q : Nat} (h : q ≠ p) : upd1 f p v q = f q := if_neg h
theorem uF_at {f : Nat → Nat → Nat} {p : Nat} {g : Nat → Nat} : updF f p g p = g := if_pos rfl
theorem uF_ne {f : Nat → Nat → Nat} {p q : Nat} {g : Nat → Nat} (h : q ≠ p) : updF f p g q = f q := if_neg h
theorem v_add {O : Off} (hV : VO O) {k s c : Nat} {d : Nat → Nat} (hn : O.n ≤ 6) (hk : k < 4) (hs : s < 10) (hd : dgo d) (hc : c < 8) (hf : sitr O c = 0) : VO (addO O k s d c) := by
  have hne : ∀ p, p < O.n → O.chair p ≠ c := sitL_none hf
  have cas : ∀ p, p < O.n + 1 → p = O.n ∨ (p ≠ O.n ∧ p < O.n) := fun p hp => by omega
  refine ⟨by show O.n + 1 ≤ 7; omega, hV.day, hV.wet, hV.dry, hV.las, hV.draw, fun p hp => ?_, fun p hp => ?_, fun p hp => ?_, fun p q hp hq => ?_, fun p hp => ?_, fun p hp => ?_, fun p hp => ?_⟩
  · show upd1 O.kind O.n k p < 4
    rcases cas p hp with rfl | ⟨h1, h2⟩
    · rw [u1_at]; exact hk
    · rw [u1_ne h1]; exact hV.kind p h2
  · show upd1 O.str O.n s p < 10
    rcases cas p hp with rfl | ⟨h1, h2⟩
    · rw [u1_at]; exact hs
    · rw [u1_ne h1]; exact hV.str p h2
  · show upd1 O.chair O.n c p < 8
    rcases cas p hp with rfl | ⟨h1, h2⟩
    · rw [u1_at]; exact hc
    · rw [u1_ne h1]; exact hV.chair p h2
  · show upd1 O.chair O.n c p = upd1 O.chair O.n c q → p = q
    rcases cas p hp with rfl | ⟨h1, h2⟩
    · rcases cas q hq with rfl | ⟨h3, h4⟩
      · intro _; rfl
      · rw [u1_at, u1_ne h3]; intro e; exact absurd e.symm (hne q h4)
    · rcases cas q hq with rfl | ⟨h3, h4⟩
      · rw [u1_at, u1_ne h1]; intro e; exact absurd e (hne p h2)
      · rw [u1_ne h1, u1_ne h3]; exact hV.inj p q h2 h4
  · show dgo (updF O.own O.n d p)
    rcases cas p hp with rfl | ⟨h1, h2⟩
    · rw [uF_at]; exact hd
    · rw [uF_ne h1]; exact hV.own p h2
  · show dgo (updF O.wr O.n d p)
    rcases cas p hp with rfl | ⟨h1, h2⟩
    · rw [uF_at]; exact hd
    · rw [uF_ne h1]; exact hV.wr p h2
  · show ∀ k, k < 6 → updF O.till O.n (fun _ => 0) p k ≤ 30000
    rcases cas p hp with rfl | ⟨h1, h2⟩
    · rw [uF_at]; exact fun _ _ => by omega
    · rw [uF_ne h1]; exact hV.till p h2
theorem sitL_add {O : Off} {k s c : Nat} {d : Nat → Nat} (a : Nat) : ∀ q, q ≤ O.n → sitL (addO O k s d c) a q = sitL O a q
  | 0, _ => rfl
  | q + 1, h => by
    show (if upd1 O.chair O.n c q = a then q + 1 else sitL (addO O k s d c) a q) = (if O.chair q = a then q + 1 else sitL O a q)
    rw [u1_ne (show q ≠ O.n by omega), sitL_add a q (by omega)]
theorem sitr_add {O : Off} {k s c : Nat} {d : Nat → Nat} (a : Nat) : sitr (addO O k s d c) a = if a = c then O.n + 1 else sitr O a := by
  show (if upd1 O.chair O.n c O.n = a then O.n + 1 else sitL (addO O k s d c) a O.n) = _
  rw [u1_at, sitL_add a _ (Nat.le_refl _)]
  by_cases h : c = a
  · rw [if_pos h, if_pos h.symm]
  · rw [if_neg h, if_neg (fun q => h q.symm)]; rfl
theorem c_begin {q p : Nat} (hG : HaG q) (hp : p < 7) {v : Int32} : mj_E 2 [.ref q, .int (nI p), .int v] (KC, I, J, GC) (fun w' r => r = none ∧ ∃ I', w' = (KC, I', J, GC) ∧ I' (q + 1) p = v ∧ (∀ a, a ≠ p → I' (q + 1) a = I (q + 1) a) ∧ (∀ k, k < 6 → I' (q + 2) (6 * p + k) = -4) ∧ (∀ a, (a < 6 * p ∨ 6 * p + 6 ≤ a) → I' (q + 2) a = I (q + 2) a) ∧ ∀ h, h ≠ q + 1 → h ≠ q + 2 → I' h = I h) := by
  refine mjT_go 1 (pc' := 1) (L' := [some (.ref q), some (.int (nI p)), some (.int v), none]) (st' := [.ref q]) (w1 := (KC, I, J, GC)) rfl ?_
  refine mjT_gfr (h' := (q + 1)) rfl (pc' := 4) rfl hG.k0 hG.r1 ?_
  refine mjT_go 2 (pc' := 6) (L' := [some (.ref q), some (.int (nI p)), some (.int v), none]) (st' := [.int v, .int (nI p), .ref (q + 1)]) (w1 := (KC, I, J, GC)) rfl ?_
  obtain ⟨V1, eV1⟩ : ∃ z, z = mj_row I (q + 1) (va_up (I (q + 1)) p v) := ⟨_, rfl⟩
  refine mjT_ias (I' := V1) p 7 rfl (pc' := 7) rfl hG.k1 rfl (by omega) (by omega) eV1.symm ?_
  refine mjT_go 2 (pc' := 9) (L' := [some (.ref q), some (.int (nI p)), some (.int v), some (.int (nI 0))]) (st' := []) (w1 := (KC, V1, J, GC)) rfl ?_
  refine mj_loop (fun k L w => ∃ I', L = [some (.ref q), some (.int (nI p)), some (.int v), some (.int (nI k))] ∧ w = (KC, I', J, GC) ∧ (∀ j, j < k → I' (q + 2) (6 * p + j) = -4) ∧ (∀ a, (a < 6 * p ∨ 6 * p + 6 ≤ a) → I' (q + 2) a = I (q + 2) a) ∧ ∀ h, h ≠ q + 2 → I' h = V1 h) 6 (k0 := 0) (Nat.zero_le _) ?_ ?_ ?_
  · exact ⟨_, rfl, rfl, fun _ h => absurd h (by omega), fun a _ => congrFun (st_h eV1 (by omega)) a, fun _ _ => rfl⟩
  · rintro k _ _ hk ⟨I2, rfl, rfl, g1, g2, g3⟩ hc
    refine mjT_go 3 (pc' := if nI 6 ≤ nI k then 34 else 15) (L' := [some (.ref q), some (.int (nI p)), some (.int v), some (.int (nI k))]) (st' := []) (w1 := (KC, I2, J, GC)) rfl ?_
    refine mjT_ifF (nI_ge (by omega) (by omega)) ?_
    refine mjT_go 1 (pc' := 16) (L' := [some (.ref q), some (.int (nI p)), some (.int v), some (.int (nI k))]) (st' := [.ref q]) (w1 := (KC, I2, J, GC)) rfl ?_
    refine mjT_gfr (h' := (q + 2)) rfl (pc' := 19) rfl hG.k0 hG.r2 ?_
    refine mjT_go 6 (pc' := 27) (L' := [some (.ref q), some (.int (nI p)), some (.int v), some (.int (nI k))]) (st' := [.int (-4), .int (((nI p) * (nI 6)) + (nI k)), .ref (q + 2)]) (w1 := (KC, I2, J, GC)) rfl ?_
    obtain ⟨V2, eV2⟩ : ∃ z, z = mj_row I2 (q + 2) (va_up (I2 (q + 2)) ((p * 6) + k) (-4)) := ⟨_, rfl⟩
    refine mjT_ias (I' := V2) ((p * 6) + k) 42 rfl (pc' := 28) rfl hG.k2 (by simp only [nI_add, pk_mul]) (by omega) (by omega) eV2.symm ?_
    refine mjT_go 2 (pc' := 9) (L' := [some (.ref q), some (.int (nI p)), some (.int v), some (.int ((nI k) + (nI 1)))]) (st' := []) (w1 := (KC, V2, J, GC)) rfl ?_
    rw [nI_add]
    refine hc _ _ ⟨_, rfl, rfl, fun j hj => ?_, fun a ha => (st_ne eV2 (by omega)).trans (g2 a ha), fun h hh => (st_h eV2 hh).trans (g3 h hh)⟩
    by_cases e : j = k
    · subst e; exact mo_at (st_at eV2) rfl (by omega)
    · exact (st_ne eV2 (by omega)).trans (g1 j (by omega))
  · rintro _ _ ⟨I2, rfl, rfl, g1, g2, g3⟩
    refine mjT_go 3 (pc' := if nI 6 ≤ nI 6 then 34 else 15) (L' := [some (.ref q), some (.int (nI p)), some (.int v), some (.int (nI 6))]) (st' := []) (w1 := (KC, I2, J, GC)) rfl ?_
    refine mjT_ifT (Int32.le_refl _) ?_
    refine mjT_ret rfl rfl rfl ?_
    exact ⟨rfl, _, rfl, by rw [g3 _ (by omega)]; exact st_at eV1, fun a ha => by rw [g3 _ (by omega)]; exact st_ne eV1 ha, g1, g2, fun h h1 h2 => (g3 h h2).trans (st_h eV1 h1)⟩
theorem c_forget : mj_E 37 [.ref 12] (KC, I, J, GC) (fun w' r => r = none ∧ ∃ I', w' = (KC, I', J, GC) ∧ I' = mj_row I 12 (va_up (I 12) 2 (nI 0))) := by
  refine mjT_go 2 (pc' := 2) (L' := [some (.ref 12)]) (st' := [.int (nI 0), .ref 12]) (w1 := (KC, I, J, GC)) rfl ?_
  obtain ⟨V1, eV1⟩ : ∃ z, z = mj_row I 12 (va_up (I 12) 2 (nI 0)) := ⟨_, rfl⟩
  refine mjT_pfi (I' := V1) rfl (pc' := 5) rfl pg_12.k0 eV1.symm ?_
  refine mjT_ret rfl rfl rfl ?_
  exact ⟨rfl, _, rfl, eV1⟩
theorem c_add (hn : O.n ≤ 7) (hG : OfG o) (hO : RO I o O TT) {k s c : Nat} {d : Nat → Nat} (hc : c < 8) (hn6 : O.n ≤ 6) : mj_E 11 [.ref o, .int (nI k), .int (nI s), .int (nI (rw6 d)), .int (nI c)] (KC, I, J, GC) (fun w' r => r = some (.int (nI O.n)) ∧ ∃ I', w' = (KC, I', J, GC) ∧ RO I' o (addO O k s d c) TT ∧ ∀ h, (h < o ∨ o + 7 < h) → I' h = I h) := by
  refine mjT_go 1 (pc' := 1) (L' := [some (.ref o), some (.int (nI k)), some (.int (nI s)), some (.int (nI (rw6 d))), some (.int (nI c)), none]) (st' := [.ref o]) (w1 := (KC, I, J, GC)) rfl ?_
  refine mjT_gfi (v := nI O.n) rfl (Or.inl rfl) (pc' := 4) rfl hG.k0 (show I o 0 = nI O.n from hO.n) ?_
  refine mjT_go 4 (pc' := if nI O.n < nI 7 then 16 else 13) (L' := [some (.ref o), some (.int (nI k)), some (.int (nI s)), some (.int (nI (rw6 d))), some (.int (nI c)), some (.int (nI O.n))]) (st' := []) (w1 := (KC, I, J, GC)) rfl ?_
  refine mjT_ifT (nI_lt (by omega) (by omega)) ?_
  refine mjT_go 1 (pc' := 17) (L' := [some (.ref o), some (.int (nI k)), some (.int (nI s)), some (.int (nI (rw6 d))), some (.int (nI c)), some (.int (nI O.n))]) (st' := [.ref o]) (w1 := (KC, I, J, GC)) rfl ?_
  refine mjT_gfr (h' := (o + 4)) rfl (pc' := 20) rfl hG.k0 hG.r4 ?_
  refine mjT_go 2 (pc' := 23) (L' := [some (.ref o), some (.int (nI k)), some (.int (nI s)), some (.int (nI (rw6 d))), some (.int (nI c)), some (.int (nI O.n))]) (st' := [.int (nI k), .int (nI O.n), .ref (o + 4)]) (w1 := (KC, I, J, GC)) rfl ?_
  obtain ⟨V1, eV1⟩ : ∃ z, z = mj_row I (o + 4) (va_up (I (o + 4)) O.n (nI k)) := ⟨_, rfl⟩
  refine mjT_ias (I' := V1) O.n 7 rfl (pc' := 24) rfl hG.k4 rfl (by omega) (by omega) eV1.symm ?_
  refine mjT_go 1 (pc' := 25) (L' := [some (.ref o), some (.int (nI k)), some (.int (nI s)), some (.int (nI (rw6 d))), some (.int (nI c)), some (.int (nI O.n))]) (st' := [.ref o]) (w1 := (KC, V1, J, GC)) rfl ?_
  refine mjT_gfr (h' := (o + 5)) rfl (pc' := 28) rfl hG.k0 hG.r5 ?_
  refine mjT_go 2 (pc' := 31) (L' := [some (.ref o), some (.int (nI k)), some (.int (nI s)), some (.int (nI (rw6 d))), some (.int (nI c)), some (.int (nI O.n))]) (st' := [.int (nI s), .int (nI O.n), .ref (o + 5)]) (w1 := (KC, V1, J, GC)) rfl ?_
  obtain ⟨V2, eV2⟩ : ∃ z, z = mj_row V1 (o + 5) (va_up (V1 (o + 5)) O.n (nI s)) := ⟨_, rfl⟩
  refine mjT_ias (I' := V2) O.n 7 rfl (pc' := 32) rfl hG.k5 rfl (by omega) (by omega) eV2.symm ?_
  refine mjT_go 1 (pc' := 33) (L' := [some (.ref o), some (.int (nI k)), some (.int (nI s)), some (.int (nI (rw6 d))), some (.int (nI c)), some (.int (nI O.n))]) (st' := [.ref o]) (w1 := (KC, V2, J, GC)) rfl ?_
  refine mjT_gfr (h' := (o + 6)) rfl (pc' := 36) rfl hG.k0 hG.r6 ?_
  refine mjT_go 2 (pc' := 39) (L' := [some (.ref o), some (.int (nI k)), some (.int (nI s)), some (.int (nI (rw6 d))), some (.int (nI c)), some (.int (nI O.n))]) (st' := [.int (nI (rw6 d)), .int (nI O.n), .ref (o + 6)]) (w1 := (KC, V2, J, GC)) rfl ?_
  obtain ⟨V3, eV3⟩ : ∃ z, z = mj_row V2 (o + 6) (va_up (V2 (o + 6)) O.n (nI (rw6 d))) := ⟨_, rfl⟩
  refine mjT_ias (I' := V3) O.n 7 rfl (pc' := 40) rfl hG.k6 rfl (by omega) (by omega) eV3.symm ?_
  refine mjT_go 1 (pc' := 41) (L' := [some (.ref o), some (.int (nI k)), some (.int (nI s)), some (.int (nI (rw6 d))), some (.int (nI c)), some (.int (nI O.n))]) (st' := [.ref o]) (w1 := (KC, V3, J, GC)) rfl ?_
  refine mjT_gfr (h' := (o + 1)) rfl (pc' := 44) rfl hG.k0 hG.r1 ?_
  refine mjT_go 2 (pc' := 47) (L' := [some (.ref o), some (.int (nI k)), some (.int (nI s)), some (.int (nI (rw6 d))), some (.int (nI c)), some (.int (nI O.n))]) (st' := [.int (nI (rw6 d)), .int (nI O.n), .ref (o + 1)]) (w1 := (KC, V3, J, GC)) rfl ?_
  refine mjT_call (as := [.ref (o + 1), .int (nI O.n), .int (nI (rw6 d))]) (rest := []) rfl rfl rfl (mj_callI rfl rfl hG.k1) rfl ⟨rfl, rfl⟩ (c_begin (ha_of hG) (by omega)) ?_
  rintro _ _ ⟨rfl, I4, rfl, b1, b2, b3, b4, b5⟩
  refine mjT_go 1 (pc' := 51) (L' := [some (.ref o), some (.int (nI k)), some (.int (nI s)), some (.int (nI (rw6 d))), some (.int (nI c)), some (.int (nI O.n))]) (st' := [.ref o]) (w1 := (KC, I4, J, GC)) rfl ?_
  refine mjT_gfr (h' := (o + 7)) rfl (pc' := 54) rfl hG.k0 hG.r7 ?_
  refine mjT_go 2 (pc' := 58) (L' := [some (.ref o), some (.int (nI k)), some (.int (nI s)), some (.int (nI (rw6 d))), some (.int (nI c)), some (.int (nI O.n))]) (st' := [.int (nI O.n), .int (nI c), .ref (o + 7)]) (w1 := (KC, I4, J, GC)) rfl ?_
  obtain ⟨V4, eV4⟩ : ∃ z, z = mj_row I4 (o + 7) (va_up (I4 (o + 7)) c (nI O.n)) := ⟨_, rfl⟩
  refine mjT_ias (I' := V4) c 8 rfl (pc' := 59) rfl hG.k7 rfl (by omega) (by omega) eV4.symm ?_
  refine mjT_go 4 (pc' := 64) (L' := [some (.ref o), some (.int (nI k)), some (.int (nI s)), some (.int (nI (rw6 d))), some (.int (nI c)), some (.int (nI O.n))]) (st' := [.int ((nI O.n) + (nI 1)), .ref o]) (w1 := (KC, V4, J, GC)) rfl ?_
  obtain ⟨V5, eV5⟩ : ∃ z, z = mj_row V4 o (va_up (V4 o) 0 ((nI O.n) + (nI 1))) := ⟨_, rfl⟩
  refine mjT_pfi (I' := V5) rfl (pc' := 67) rfl hG.k0 eV5.symm ?_
  rw [nI_add] at eV5
  refine mjT_go 1 (pc' := 69) (L' := [some (.ref o), some (.int (nI k)), some (.int (nI s)), some (.int (nI (rw6 d))), some (.int (nI c)), some (.int (nI O.n))]) (st' := [.int (nI O.n)]) (w1 := (KC, V5, J, GC)) rfl ?_
  refine mjT_ret rfl rfl rfl ?_
  have e3 : ∀ h, h ≠ o + 4 → h ≠ o + 5 → h ≠ o + 6 → V3 h = I h := fun h a b c => by rw [st_h eV3 c, st_h eV2 b, st_h eV1 a]
  have e5 : ∀ h, h ≠ o → h ≠ o + 7 → V5 h = I4 h := fun h a b => by rw [st_h eV5 a, st_h eV4 b]
  have ff : ∀ h, (h < o ∨ o + 7 < h) → V5 h = I h := fun h hh => by rw [e5 h (by omega) (by omega), b5 h (by omega) (by omega), e3 h (by omega) (by omega) (by omega)]
  have i0 : ∀ a, a ≠ 0 → V5 o a = I o a := fun a ha => by rw [st_ne eV5 ha, st_h eV4 (by omega), b5 _ (by omega) (by omega), e3 _ (by omega) (by omega) (by omega)]
  have cas : ∀ p, p < O.n + 1 → p = O.n ∨ (p ≠ O.n ∧ p < O.n) := fun p hp => by omega
  have f4 : V5 (o + 4) = V3 (o + 4) := by rw [e5 _ (by omega) (by omega), b5 _ (by omega) (by omega)]
  have f5 : V5 (o + 5) = V3 (o + 5) := by rw [e5 _ (by omega) (by omega), b5 _ (by omega) (by omega)]
  have f6 : V5 (o + 6) = V3 (o + 6) := by rw [e5 _ (by omega) (by omega), b5 _ (by omega) (by omega)]
  refine ⟨rfl, _, rfl, ⟨st_at eV5, (i0 1 (by omega)).trans hO.dry, (i0 2 (by omega)).trans hO.wet, (i0 3 (by omega)).trans hO.las, (i0 4 (by omega)).trans hO.draw, ?_, fun p hp => ?_, fun p hp => ?_, fun p hp => ?_, fun a ha => ?_, fun p hp _ => ?_, fun p hp _ => ?_⟩, ff⟩
  · rw [e5 _ (by omega) (by omega), b5 _ (by omega) (by omega), e3 _ (by omega) (by omega) (by omega)]; exact hO.day
  · rw [f4, st_h eV3 (by omega), st_h eV2 (by omega)]
    show V1 (o + 4) p = nI (upd1 O.kind O.n k p)
    rcases cas p hp with rfl | ⟨h1, h2⟩
    · rw [u1_at]; exact st_at eV1
    · rw [u1_ne h1, st_ne eV1 h1]; exact hO.kind p h2
  · rw [f5, st_h eV3 (by omega)]
    show V2 (o + 5) p = nI (upd1 O.str O.n s p)
    rcases cas p hp with rfl | ⟨h1, h2⟩
    · rw [u1_at]; exact st_at eV2
    · rw [u1_ne h1, st_ne eV2 h1, st_h eV1 (by omega)]; exact hO.str p h2
  · rw [f6]
    show V3 (o + 6) p = nI (rw6 (updF O.own O.n d p))
    rcases cas p hp with rfl | ⟨h1, h2⟩
    · rw [uF_at]; exact st_at eV3
    · rw [uF_ne h1, st_ne eV3 h1, st_h eV2 (by omega), st_h eV1 (by omega)]; exact hO.own p h2
  · rw [st_h eV5 (by omega), sitr_add]
    by_cases e : a = c
    · subst e; rw [if_pos rfl, sI_s]; exact st_at eV4
    · rw [if_neg e, st_ne eV4 e, b5 _ (by omega) (by omega), e3 _ (by omega) (by omega) (by omega)]; exact hO.sit a ha
  · rw [e5 _ (by omega) (by omega)]
    show I4 (o + 1 + 1) p = nI (rw6 (updF O.wr O.n d p))
    rcases cas p hp with rfl | ⟨h1, h2⟩
    · rw [uF_at]; exact b1
    · rw [uF_ne h1, b2 p h1, e3 _ (by omega) (by omega) (by omega)]; exact hO.wr p h2 trivial
  · intro j hj
    rw [e5 _ (by omega) (by omega)]
    show I4 (o + 1 + 2) (6 * p + j) = tI (updF O.till O.n (fun _ => 0) p j)
    rcases cas p hp with rfl | ⟨h1, h2⟩
    · rw [uF_at]; exact b3 j hj
    · rw [uF_ne h1, b4 _ (by omega), e3 _ (by omega) (by omega) (by omega)]; exact hO.till p h2 trivial j hj
def perS (S : Sta) (k s : Nat) (d : Nat → Nat) (c : Nat) : Sta := mkS (addO S.o k s d c) 0 S.pa S.im S.io S.ikn S.ipa S.tl S.tp S.sz S.ln S.it
noncomputable def aPerson (S : Sta) (x y z u : Int32) : Int32 := if iR x 0 3 = 1 ∧ iR y 0 9 = 1 ∧ papN z = 1 ∧ iR u 0 7 = 1 then (if sitr S.o (nn u) = 0 then (if S.o.n = 7 then -3 else nI S.o.n) else -2) else -1
def sPerson (S : Sta) (x y z u : Int32) : Sta := if iR x 0 3 = 1 ∧ iR y 0 9 = 1 ∧ papN z = 1 ∧ iR u 0 7 = 1 then (if sitr S.o (nn u) = 0 then (if S.o.n = 7 then S else perS S (nn x) (nn y) (dig (nn z)) (nn u)) else S) else S
theorem vs_person (hV : VS S) {x y z u : Int32} : VS (sPerson S x y z u) := by
  unfold sPerson
  by_cases h : iR x 0 3 = 1 ∧ iR y 0 9 = 1 ∧ papN z = 1 ∧ iR u 0 7 = 1
  · rw [if_pos h]
    obtain ⟨h1, h2, h3, h4⟩ := h
    obtain ⟨k, _, hk, rfl⟩ := iR_1 h1 (by omega) (by omega)
    obtain ⟨s, _, hs, rfl⟩ := iR_1 h2 (by omega) (by omega)
    obtain ⟨m, hm, rfl, _, hd, e⟩ := papN_1 h3
    obtain ⟨c, _, hc, rfl⟩ := iR_1 h4 (by omega) (by omega)
    rw [nn_N (by omega), nn_N (by omega), nn_N (by omega), nn_N (by omega)]
    by_cases h5 : sitr S.o c = 0
    · rw [if_pos h5]
      by_cases h6 : S.o.n = 7
      · rw [if_pos h6]; exact hV
      · rw [if_neg h6]
        have := hV.o.n
        exact ⟨v_add hV.o (by omega) (by omega) (by omega) hd (by omega) h5, hV.day, by show 0 ≤ 8; omega, fun j hj => absurd (show j < 0 from hj) (by omega), hV.im, hV.io, hV.tl, hV.tp, hV.sz, hV.ln⟩
    · rw [if_neg h5]; exact hV
  · rw [if_neg h]; exact hV
theorem cc_person (hV : VS S) (hC : CW I J S) {x y z u : Int32} : mj_E 72 [.ref 0, .int x, .int y, .int z, .int u] (KC, I, J, GC) (fun w' r => r = some (.int (aPerson S x y z u)) ∧ ∃ I' J', w' = (KC, I', J', GC) ∧ CW I' J' (sPerson S x y z u)) := by
  have hn := hV.o.n
  have hr1 := ir01 x 0 3
  have hr2 := ir01 y 0 9
  have hr3 := papN_lt z
  have hr4 := ir01 u 0 7
  unfold aPerson sPerson
  refine mjT_go 1 (pc' := 1) (L' := [some (.ref 0), some (.int x), some (.int y), some (.int z), some (.int u), none]) (st' := [.int z]) (w1 := (KC, I, J, GC)) rfl ?_
  refine mjT_callE (as := [.int z]) (rest := []) (r1 := some (.int (pckI z))) rfl rfl rfl rfl rfl ⟨rfl, rfl⟩ c_packedP ?_
  refine mjT_go 4 (pc' := 9) (L' := [some (.ref 0), some (.int x), some (.int y), some (.int z), some (.int u), some (.int (pckI z))]) (st' := [.int (nI 3), .int (nI 0), .int x]) (w1 := (KC, I, J, GC)) rfl ?_
  refine mjT_callE (as := [.int x, .int (nI 0), .int (nI 3)]) (rest := []) (r1 := some (.int (nI (iR x 0 3)))) rfl rfl rfl rfl rfl ⟨rfl, rfl⟩ c_within ?_
  refine mjT_go 1 (pc' := if nI (iR x 0 3) = 0 then 38 else 15) (L' := [some (.ref 0), some (.int x), some (.int y), some (.int z), some (.int u), some (.int (pckI z))]) (st' := []) (w1 := (KC, I, J, GC)) rfl ?_
  refine mjT_if_eq (u := iR x 0 3) (v := 0) rfl nI_0.symm (by omega) (by omega) (fun h1 => ?_) (fun h1 => ?_)
  · rw [if_neg (by omega), if_neg (by omega)]
    refine mjT_go 1 (pc' := 39) (L' := [some (.ref 0), some (.int x), some (.int y), some (.int z), some (.int u), some (.int (pckI z))]) (st' := [.int (-1)]) (w1 := (KC, I, J, GC)) rfl ?_
    refine mjT_ret rfl rfl rfl ?_
    exact ⟨rfl, _, _, rfl, hC⟩
  refine mjT_go 3 (pc' := 19) (L' := [some (.ref 0), some (.int x), some (.int y), some (.int z), some (.int u), some (.int (pckI z))]) (st' := [.int (nI 9), .int (nI 0), .int y]) (w1 := (KC, I, J, GC)) rfl ?_
  refine mjT_callE (as := [.int y, .int (nI 0), .int (nI 9)]) (rest := []) (r1 := some (.int (nI (iR y 0 9)))) rfl rfl rfl rfl rfl ⟨rfl, rfl⟩ c_within ?_
  refine mjT_go 1 (pc' := if nI (iR y 0 9) = 0 then 38 else 25) (L' := [some (.ref 0), some (.int x), some (.int y), some (.int z), some (.int u), some (.int (pckI z))]) (st' := []) (w1 := (KC, I, J, GC)) rfl ?_
  refine mjT_if_eq (u := iR y 0 9) (v := 0) rfl nI_0.symm (by omega) (by omega) (fun h2 => ?_) (fun h2 => ?_)
  · rw [if_neg (by omega), if_neg (by omega)]
    refine mjT_go 1 (pc' := 39) (L' := [some (.ref 0), some (.int x), some (.int y), some (.int z), some (.int u), some (.int (pckI z))]) (st' := [.int (-1)]) (w1 := (KC, I, J, GC)) rfl ?_
    refine mjT_ret rfl rfl rfl ?_
    exact ⟨rfl, _, _, rfl, hC⟩
  refine mjT_go 2 (pc' := if pckI z < 0 then 38 else 30) (L' := [some (.ref 0), some (.int x), some (.int y), some (.int z), some (.int u), some (.int (pckI z))]) (st' := []) (w1 := (KC, I, J, GC)) rfl ?_
  refine mjT_if (fun h3 => ?_) (fun h3 => ?_)
  · rw [pck_neg] at h3
    rw [if_neg (by omega), if_neg (by omega)]
    refine mjT_go 1 (pc' := 39) (L' := [some (.ref 0), some (.int x), some (.int y), some (.int z), some (.int u), some (.int (pckI z))]) (st' := [.int (-1)]) (w1 := (KC, I, J, GC)) rfl ?_
    refine mjT_ret rfl rfl rfl ?_
    exact ⟨rfl, _, _, rfl, hC⟩
  rw [pck_neg] at h3
  refine mjT_go 1 (pc' := 32) (L' := [some (.ref 0), some (.int x), some (.int y), some (.int z), some (.int u), some (.int (pckI z))]) (st' := [.int u]) (w1 := (KC, I, J, GC)) rfl ?_
  refine mjT_callE (as := [.int u]) (rest := []) (r1 := some (.int (nI (iR u 0 7)))) rfl rfl rfl rfl rfl ⟨rfl, rfl⟩ c_isChair ?_
  refine mjT_go 1 (pc' := if ¬ nI (iR u 0 7) = 0 then 40 else 38) (L' := [some (.ref 0), some (.int x), some (.int y), some (.int z), some (.int u), some (.int (pckI z))]) (st' := []) (w1 := (KC, I, J, GC)) rfl ?_
  refine mjT_if_ne (u := iR u 0 7) (v := 0) rfl nI_0.symm (by omega) (by omega) (fun h4 => ?_) (fun h4 => ?_)
  rotate_left
  · rw [if_neg (by omega), if_neg (by omega)]
    refine mjT_go 1 (pc' := 39) (L' := [some (.ref 0), some (.int x), some (.int y), some (.int z), some (.int u), some (.int (pckI z))]) (st' := [.int (-1)]) (w1 := (KC, I, J, GC)) rfl ?_
    refine mjT_ret rfl rfl rfl ?_
    exact ⟨rfl, _, _, rfl, hC⟩
  rw [if_pos (show iR x 0 3 = 1 ∧ iR y 0 9 = 1 ∧ papN z = 1 ∧ iR u 0 7 = 1 by omega), if_pos (show iR x 0 3 = 1 ∧ iR y 0 9 = 1 ∧ papN z = 1 ∧ iR u 0 7 = 1 by omega)]
  obtain ⟨k, _, hk, rfl⟩ := iR_1 (x := x) (a := 0) (b := 3) (by omega) (by omega) (by omega)
  obtain ⟨s, _, hs, rfl⟩ := iR_1 (x := y) (a := 0) (b := 9) (by omega) (by omega) (by omega)
  obtain ⟨m, hm, rfl, _, hd, e⟩ := papN_1 (x := z) (by omega)
  obtain ⟨c, _, hc, rfl⟩ := iR_1 (x := u) (a := 0) (b := 7) (by omega) (by omega) (by omega)
  rw [show pckI (nI m) = nI (rw6 (dig m)) by unfold pckI; rw [if_pos (by omega), e]]
  rw [nn_N (by omega), nn_N (by omega), nn_N (by omega), nn_N (by omega)]
  have hsr := sitr_le S.o c
  refine mjT_go 3 (pc' := 46) (L' := [some (.ref 0), some (.int (nI k)), some (.int (nI s)), some (.int (nI m)), some (.int (nI c)), some (.int (nI (rw6 (dig m))))]) (st' := [.int (nI c), .ref 1]) (w1 := (KC, I, J, GC)) rfl ?_
  refine mjT_callE (as := [.ref 1, .int (nI c)]) (rest := []) (r1 := some (.int (sI (sitr S.o c)))) rfl rfl rfl rfl rfl ⟨rfl, rfl⟩ (c_sitterOn hV.o og_1 hC.o (by omega)) ?_
  refine mjT_go 2 (pc' := if sI (sitr S.o c) = (-1) then 56 else 53) (L' := [some (.ref 0), some (.int (nI k)), some (.int (nI s)), some (.int (nI m)), some (.int (nI c)), some (.int (nI (rw6 (dig m))))]) (st' := []) (w1 := (KC, I, J, GC)) rfl ?_
  refine mjT_if (fun h5 => ?_) (fun h5 => ?_)
  rotate_left
  · rw [sI_m1 (by omega)] at h5
    rw [if_neg h5, if_neg h5]
    refine mjT_go 1 (pc' := 55) (L' := [some (.ref 0), some (.int (nI k)), some (.int (nI s)), some (.int (nI m)), some (.int (nI c)), some (.int (nI (rw6 (dig m))))]) (st' := [.int (-2)]) (w1 := (KC, I, J, GC)) rfl ?_
    refine mjT_ret rfl rfl rfl ?_
    exact ⟨rfl, _, _, rfl, hC⟩
  rw [sI_m1 (by omega)] at h5
  rw [if_pos h5, if_pos h5]
  refine mjT_go 2 (pc' := 60) (L' := [some (.ref 0), some (.int (nI k)), some (.int (nI s)), some (.int (nI m)), some (.int (nI c)), some (.int (nI (rw6 (dig m))))]) (st' := [.ref 1]) (w1 := (KC, I, J, GC)) rfl ?_
  refine mjT_gfi (v := nI S.o.n) rfl (Or.inl rfl) (pc' := 63) rfl rfl (mo_at (hC.o.n) (by omega) (by omega)) ?_
  refine mjT_go 2 (pc' := if nI S.o.n < nI 7 then 71 else 68) (L' := [some (.ref 0), some (.int (nI k)), some (.int (nI s)), some (.int (nI m)), some (.int (nI c)), some (.int (nI (rw6 (dig m))))]) (st' := []) (w1 := (KC, I, J, GC)) rfl ?_
  refine mjT_if_lt (u := S.o.n) (v := 7) rfl rfl (by omega) (by omega) (fun h6 => ?_) (fun h6 => ?_)
  rotate_left
  · rw [if_pos (show S.o.n = 7 by omega), if_pos (show S.o.n = 7 by omega)]
    refine mjT_go 1 (pc' := 70) (L' := [some (.ref 0), some (.int (nI k)), some (.int (nI s)), some (.int (nI m)), some (.int (nI c)), some (.int (nI (rw6 (dig m))))]) (st' := [.int (-3)]) (w1 := (KC, I, J, GC)) rfl ?_
    refine mjT_ret rfl rfl rfl ?_
    exact ⟨rfl, _, _, rfl, hC⟩
  rw [if_neg (show ¬ S.o.n = 7 by omega), if_neg (show ¬ S.o.n = 7 by omega)]
  refine mjT_go 2 (pc' := 75) (L' := [some (.ref 0), some (.int (nI k)), some (.int (nI s)), some (.int (nI m)), some (.int (nI c)), some (.int (nI (rw6 (dig m))))]) (st' := [.ref 12]) (w1 := (KC, I, J, GC)) rfl ?_
  refine mjT_call (as := [.ref 12]) (rest := []) rfl rfl rfl rfl rfl ⟨rfl, rfl⟩ (c_forget) ?_
  rintro _ _ ⟨rfl, I2, rfl, e2⟩
  have hO2 : RO I2 1 S.o TT := ro_cong hC.o (fun k hk => st_h e2 (by omega))
  refine mjT_go 6 (pc' := 88) (L' := [some (.ref 0), some (.int (nI k)), some (.int (nI s)), some (.int (nI m)), some (.int (nI c)), some (.int (nI (rw6 (dig m))))]) (st' := [.int (nI c), .int (nI (rw6 (dig m))), .int (nI s), .int (nI k), .ref 1]) (w1 := (KC, I2, J, GC)) rfl ?_
  refine mjT_call (as := [.ref 1, .int (nI k), .int (nI s), .int (nI (rw6 (dig m))), .int (nI c)]) (rest := []) rfl rfl rfl rfl rfl ⟨rfl, rfl⟩ (c_add hV.o.n og_1 hO2 (show c < 8 by omega) (by omega)) ?_
  rintro _ _ ⟨rfl, I3, rfl, hO3, hf3⟩
  refine mjT_ret rfl rfl rfl ?_
  have f : ∀ h, (h < 1 ∨ 8 < h) → h ≠ 12 → I3 h = I h := fun h a b => (hf3 h (by omega)).trans (st_h e2 b)
  obtain ⟨nx, g1, g2, g3, g4⟩ := hC.past
  refine ⟨rfl, _, _, rfl, hO3, ⟨nx, g1, ?_, ?_, fun j hj => absurd (show j < 0 from hj) (by omega)⟩, by rw [f 0 (by omega) (by omega)]; exact hC.im, fun hi => ⟨ro_cong (hC.io hi).1 (fun k hk => f _ (by omega) (by omega)), pc_cong (hC.io hi).2 (f _ (by omega) (by omega)) (fun k hk => f _ (by omega) (by omega))⟩, ?_, ?_, ?_, ?_, hC.it⟩
  · rw [hf3 _ (by omega), st_ne e2 (by omega)]; exact g2
  · rw [hf3 _ (by omega)]; exact st_at e2
  · rw [f _ (by omega) (by omega)]; exact hC.tl
  · rw [f _ (by omega) (by omega)]; exact hC.tp
  · rw [f _ (by omega) (by omega)]; exact hC.sz
  · rw [f _ (by omega) (by omega)]; exact hC.ln
theorem m_add (hn : O.n ≤ 7) (hO : MO I 0 O) {kd s m c : Nat} (hm : m ≤ 777777) (hn6 : O.n ≤ 6) : mj_E 140 [.ref 0, .int (nI kd), .int (nI s), .int (nI m), .int (nI c)] (KM, I, J, GM) (fun w' r => r = none ∧ ∃ I', w' = (KM, I', J, GM) ∧ MO I' 0 (addO O kd s (dig m) c) ∧ I' 1 153 = nI 0 ∧ (∀ a, 154 ≤ a → I' 1 a = I 1 a) ∧ ∀ h, h ≠ 1 → I' h = I h) := by
  refine mjT_go 4 (pc' := 9) (L' := [some (.ref 0), some (.int (nI kd)), some (.int (nI s)), some (.int (nI m)), some (.int (nI c)), none, none]) (st' := [.int (nI 147), .ref 1, .int (nI 21)]) (w1 := (KM, I, J, GM)) rfl ?_
  refine mjT_ial (v := nI O.n) 147 1840 rfl (pc' := 10) rfl rfl rfl (by omega) (by omega) (show I 1 147 = nI O.n from hO.n) ?_
  refine mjT_go 8 (pc' := 22) (L' := [some (.ref 0), some (.int (nI kd)), some (.int (nI s)), some (.int (nI m)), some (.int (nI c)), some (.int ((nI 21) * (nI O.n))), none]) (st' := [.int (nI kd), .int (((nI 21) * (nI O.n)) + (nI 0)), .ref 1]) (w1 := (KM, I, J, GM)) rfl ?_
  obtain ⟨V1, eV1⟩ : ∃ z, z = mj_row I 1 (va_up (I 1) ((21 * O.n) + 0) (nI kd)) := ⟨_, rfl⟩
  refine mjT_ias (I' := V1) ((21 * O.n) + 0) 1840 rfl (pc' := 23) rfl rfl (by simp only [nI_add, pk_mul]) (by omega) (by omega) eV1.symm ?_
  refine mjT_go 6 (pc' := 32) (L' := [some (.ref 0), some (.int (nI kd)), some (.int (nI s)), some (.int (nI m)), some (.int (nI c)), some (.int ((nI 21) * (nI O.n))), none]) (st' := [.int (nI s), .int (((nI 21) * (nI O.n)) + (nI 1)), .ref 1]) (w1 := (KM, V1, J, GM)) rfl ?_
  obtain ⟨V2, eV2⟩ : ∃ z, z = mj_row V1 1 (va_up (V1 1) ((21 * O.n) + 1) (nI s)) := ⟨_, rfl⟩
  refine mjT_ias (I' := V2) ((21 * O.n) + 1) 1840 rfl (pc' := 33) rfl rfl (by simp only [nI_add, pk_mul]) (by omega) (by omega) eV2.symm ?_
  refine mjT_go 6 (pc' := 43) (L' := [some (.ref 0), some (.int (nI kd)), some (.int (nI s)), some (.int (nI m)), some (.int (nI c)), some (.int ((nI 21) * (nI O.n))), none]) (st' := [.int (nI c), .int (((nI 21) * (nI O.n)) + (nI 2)), .ref 1]) (w1 := (KM, V2, J, GM)) rfl ?_
  obtain ⟨V3, eV3⟩ : ∃ z, z = mj_row V2 1 (va_up (V2 1) ((21 * O.n) + 2) (nI c)) := ⟨_, rfl⟩
  refine mjT_ias (I' := V3) ((21 * O.n) + 2) 1840 rfl (pc' := 44) rfl rfl (by simp only [nI_add, pk_mul]) (by omega) (by omega) eV3.symm ?_
  refine mjT_go 2 (pc' := 47) (L' := [some (.ref 0), some (.int (nI kd)), some (.int (nI s)), some (.int (nI m)), some (.int (nI c)), some (.int ((nI 21) * (nI O.n))), some (.int (nI 0))]) (st' := []) (w1 := (KM, V3, J, GM)) rfl ?_
  simp only [nI_add, pk_mul] at eV1 eV2 eV3 ⊢
  refine mj_loop (fun k L w => ∃ I', L = [some (.ref 0), some (.int (nI kd)), some (.int (nI s)), some (.int (nI m)), some (.int (nI c)), some (.int (nI (21 * O.n))), some (.int (nI k))] ∧ w = (KM, I', J, GM) ∧ (∀ j, j < k → I' 1 (21 * O.n + 3 + j) = nI (dig m j) ∧ I' 1 (21 * O.n + 9 + j) = nI (dig m j) ∧ I' 1 (21 * O.n + 15 + j) = -4) ∧ (∀ a, (a < 21 * O.n + 3 ∨ 21 * O.n + 21 ≤ a) → I' 1 a = V3 1 a) ∧ ∀ h, h ≠ 1 → I' h = I h) 6 (k0 := 0) (Nat.zero_le _) ?_ ?_ ?_
  · exact ⟨_, rfl, rfl, fun _ h => absurd h (by omega), fun _ _ => rfl, fun h hh => by rw [st_h eV3 hh, st_h eV2 hh, st_h eV1 hh]⟩
  · rintro j _ _ hj ⟨I4, rfl, rfl, g1, g2, g3⟩ hc
    refine mjT_go 3 (pc' := if nI 6 ≤ nI j then 112 else 54) (L' := [some (.ref 0), some (.int (nI kd)), some (.int (nI s)), some (.int (nI m)), some (.int (nI c)), some (.int (nI (21 * O.n))), some (.int (nI j))]) (st' := []) (w1 := (KM, I4, J, GM)) rfl ?_
    refine mjT_ifF (nI_ge (by omega) (by omega)) ?_
    refine mjT_go 9 (pc' := 68) (L' := [some (.ref 0), some (.int (nI kd)), some (.int (nI s)), some (.int (nI m)), some (.int (nI c)), some (.int (nI (21 * O.n))), some (.int (nI j))]) (st' := [.int (nI j), .int (nI m), .int (((nI (21 * O.n)) + (nI 3)) + (nI j)), .ref 1]) (w1 := (KM, I4, J, GM)) rfl ?_
    refine mjT_callE (as := [.int (nI m), .int (nI j)]) (rest := [.int (((nI (21 * O.n)) + (nI 3)) + (nI j)), .ref 1]) (r1 := some (.int (nI (dig m j)))) rfl rfl rfl rfl rfl ⟨rfl, rfl⟩ (m_figure (by omega) hj) ?_
    obtain ⟨V4, eV4⟩ : ∃ z, z = mj_row I4 1 (va_up (I4 1) (((21 * O.n) + 3) + j) (nI (dig m j))) := ⟨_, rfl⟩
    refine mjT_ias (I' := V4) (((21 * O.n) + 3) + j) 1840 rfl (pc' := 72) rfl rfl (by simp only [nI_add, pk_mul]) (by omega) (by omega) eV4.symm ?_
    refine mjT_go 9 (pc' := 87) (L' := [some (.ref 0), some (.int (nI kd)), some (.int (nI s)), some (.int (nI m)), some (.int (nI c)), some (.int (nI (21 * O.n))), some (.int (nI j))]) (st' := [.int (nI j), .int (nI m), .int (((nI (21 * O.n)) + (nI 9)) + (nI j)), .ref 1]) (w1 := (KM, V4, J, GM)) rfl ?_
    refine mjT_callE (as := [.int (nI m), .int (nI j)]) (rest := [.int (((nI (21 * O.n)) + (nI 9)) + (nI j)), .ref 1]) (r1 := some (.int (nI (dig m j)))) rfl rfl rfl rfl rfl ⟨rfl, rfl⟩ (m_figure (by omega) hj) ?_
    obtain ⟨V5, eV5⟩ : ∃ z, z = mj_row V4 1 (va_up (V4 1) (((21 * O.n) + 9) + j) (nI (dig m j))) := ⟨_, rfl⟩
    refine mjT_ias (I' := V5) (((21 * O.n) + 9) + j) 1840 rfl (pc' := 91) rfl rfl (by simp only [nI_add, pk_mul]) (by omega) (by omega) eV5.symm ?_
    refine mjT_go 8 (pc' := 105) (L' := [some (.ref 0), some (.int (nI kd)), some (.int (nI s)), some (.int (nI m)), some (.int (nI c)), some (.int (nI (21 * O.n))), some (.int (nI j))]) (st' := [.int (-4), .int (((nI (21 * O.n)) + (nI 15)) + (nI j)), .ref 1]) (w1 := (KM, V5, J, GM)) rfl ?_
    obtain ⟨V6, eV6⟩ : ∃ z, z = mj_row V5 1 (va_up (V5 1) (((21 * O.n) + 15) + j) (-4)) := ⟨_, rfl⟩
    refine mjT_ias (I' := V6) (((21 * O.n) + 15) + j) 1840 rfl (pc' := 106) rfl rfl (by simp only [nI_add, pk_mul]) (by omega) (by omega) eV6.symm ?_
    refine mjT_go 2 (pc' := 47) (L' := [some (.ref 0), some (.int (nI kd)), some (.int (nI s)), some (.int (nI m)), some (.int (nI c)), some (.int (nI (21 * O.n))), some (.int ((nI j) + (nI 1)))]) (st' := []) (w1 := (KM, V6, J, GM)) rfl ?_
    rw [nI_add]
    refine hc _ _ ⟨_, rfl, rfl, fun i hi => ?_, fun a ha => by rw [st_ne eV6 (by omega), st_ne eV5 (by omega), st_ne eV4 (by omega)]; exact g2 a ha, fun h hh => by rw [st_h eV6 hh, st_h eV5 hh, st_h eV4 hh]; exact g3 h hh⟩
    by_cases e : i = j
    · subst e
      refine ⟨?_, ?_, st_at eV6⟩
      · rw [st_ne eV6 (by omega), st_ne eV5 (by omega)]; exact st_at eV4
      · rw [st_ne eV6 (by omega)]; exact st_at eV5
    · obtain ⟨q1, q2, q3⟩ := g1 i (by omega)
      refine ⟨?_, ?_, ?_⟩
      · rw [st_ne eV6 (by omega), st_ne eV5 (by omega), st_ne eV4 (by omega)]; exact q1
      · rw [st_ne eV6 (by omega), st_ne eV5 (by omega), st_ne eV4 (by omega)]; exact q2
      · rw [st_ne eV6 (by omega), st_ne eV5 (by omega), st_ne eV4 (by omega)]; exact q3
  · rintro _ _ ⟨I4, rfl, rfl, g1, g2, g3⟩
    have b3 : ∀ a, a ≠ 21 * O.n → a ≠ 21 * O.n + 1 → a ≠ 21 * O.n + 2 → V3 1 a = I 1 a := fun a h1 h2 h3 => by rw [st_ne eV3 (by omega), st_ne eV2 (by omega), st_ne eV1 (by omega)]
    refine mjT_go 3 (pc' := if nI 6 ≤ nI 6 then 112 else 54) (L' := [some (.ref 0), some (.int (nI kd)), some (.int (nI s)), some (.int (nI m)), some (.int (nI c)), some (.int (nI (21 * O.n))), some (.int (nI 6))]) (st' := []) (w1 := (KM, I4, J, GM)) rfl ?_
    refine mjT_ifT (Int32.le_refl _) ?_
    refine mjT_go 4 (pc' := 120) (L' := [some (.ref 0), some (.int (nI kd)), some (.int (nI s)), some (.int (nI m)), some (.int (nI c)), some (.int (nI (21 * O.n))), some (.int (nI 6))]) (st' := [.int (nI 147), .ref 1, .int (nI 147), .ref 1]) (w1 := (KM, I4, J, GM)) rfl ?_
    refine mjT_ial (v := nI O.n) 147 1840 rfl (pc' := 121) rfl rfl rfl (by omega) (by omega) (show I4 1 147 = nI O.n from ((g2 _ (by omega)).trans ((b3 _ (by omega) (by omega) (by omega)).trans hO.n))) ?_
    refine mjT_go 2 (pc' := 123) (L' := [some (.ref 0), some (.int (nI kd)), some (.int (nI s)), some (.int (nI m)), some (.int (nI c)), some (.int (nI (21 * O.n))), some (.int (nI 6))]) (st' := [.int ((nI O.n) + (nI 1)), .int (nI 147), .ref 1]) (w1 := (KM, I4, J, GM)) rfl ?_
    obtain ⟨V7, eV7⟩ : ∃ z, z = mj_row I4 1 (va_up (I4 1) 147 ((nI O.n) + (nI 1))) := ⟨_, rfl⟩
    refine mjT_ias (I' := V7) 147 1840 rfl (pc' := 124) rfl rfl rfl (by omega) (by omega) eV7.symm ?_
    refine mjT_go 4 (pc' := 132) (L' := [some (.ref 0), some (.int (nI kd)), some (.int (nI s)), some (.int (nI m)), some (.int (nI c)), some (.int (nI (21 * O.n))), some (.int (nI 6))]) (st' := [.int (nI 0), .int (nI 153), .ref 1]) (w1 := (KM, V7, J, GM)) rfl ?_
    obtain ⟨V8, eV8⟩ : ∃ z, z = mj_row V7 1 (va_up (V7 1) 153 (nI 0)) := ⟨_, rfl⟩
    refine mjT_ias (I' := V8) 153 1840 rfl (pc' := 133) rfl rfl rfl (by omega) (by omega) eV8.symm ?_
    refine mjT_ret rfl rfl rfl ?_
    have up : ∀ a, a ≠ 147 → a ≠ 153 → V8 1 a = I4 1 a := fun a h1 h2 => by rw [st_ne eV8 h2, st_ne eV7 h1]
    have old : ∀ a, (a < 21 * O.n ∨ 21 * O.n + 21 ≤ a) → a ≠ 147 → a ≠ 153 → V8 1 a = I 1 a := fun a h1 h2 h3 => by rw [up a h2 h3, g2 a (by omega), b3 a (by omega) (by omega) (by omega)]
    have ha0 : V8 1 (21 * O.n) = nI kd := by rw [up _ (by omega) (by omega), g2 _ (by omega), st_ne eV3 (by omega), st_ne eV2 (by omega)]; exact mo_at (st_at eV1) rfl (by omega)
    have ha1 : V8 1 (21 * O.n + 1) = nI s := by rw [up _ (by omega) (by omega), g2 _ (by omega), st_ne eV3 (by omega)]; exact st_at eV2
    have ha2 : V8 1 (21 * O.n + 2) = nI c := by rw [up _ (by omega) (by omega), g2 _ (by omega)]; exact st_at eV3
    have cas : ∀ p, p < O.n + 1 → p = O.n ∨ (p ≠ O.n ∧ p < O.n) := fun p hp => by omega
    refine ⟨rfl, _, rfl, ⟨?_, ?_, ?_, ?_, ?_, ?_, fun p hp => ?_, fun p hp => ?_, fun p hp => ?_, fun p hp => ?_, fun p hp => ?_, fun p hp => ?_⟩, st_at eV8, fun a ha => old a (by omega) (by omega) (by omega), fun h hh => by rw [st_h eV8 hh, st_h eV7 hh]; exact g3 h hh⟩
    · rw [st_ne eV8 (by omega)]; exact (st_at eV7).trans (nI_add _ _)
    · exact (old _ (by omega) (by omega) (by omega)).trans hO.day
    · exact (old _ (by omega) (by omega) (by omega)).trans hO.wet
    · exact (old _ (by omega) (by omega) (by omega)).trans hO.dry
    · exact (old _ (by omega) (by omega) (by omega)).trans hO.las
    · exact (old _ (by omega) (by omega) (by omega)).trans hO.draw
    · show V8 1 (0 + 21 * p) = nI (upd1 O.kind O.n kd p)
      rcases cas p hp with rfl | ⟨h1, h2⟩
      · rw [u1_at]; exact mo_at ha0 rfl (by omega)
      · rw [u1_ne h1]; exact (old _ (by omega) (by omega) (by omega)).trans (hO.kind p h2)
    · show V8 1 (0 + 21 * p + 1) = nI (upd1 O.str O.n s p)
      rcases cas p hp with rfl | ⟨h1, h2⟩
      · rw [u1_at]; exact mo_at ha1 rfl (by omega)
      · rw [u1_ne h1]; exact (old _ (by omega) (by omega) (by omega)).trans (hO.str p h2)
    · show V8 1 (0 + 21 * p + 2) = nI (upd1 O.chair O.n c p)
      rcases cas p hp with rfl | ⟨h1, h2⟩
      · rw [u1_at]; exact mo_at ha2 rfl (by omega)
      · rw [u1_ne h1]; exact (old _ (by omega) (by omega) (by omega)).trans (hO.chair p h2)
    · intro j hj
      show V8 1 (0 + 21 * p + 3 + j) = nI (updF O.own O.n (dig m) p j)
      rcases cas p hp with rfl | ⟨h1, h2⟩
      · rw [uF_at, up _ (by omega) (by omega)]; exact mo_at (g1 j hj).1 rfl (by omega)
      · rw [uF_ne h1]; exact (old _ (by omega) (by omega) (by omega)).trans (hO.own p h2 j hj)
    · intro j hj
      show V8 1 (0 + 21 * p + 9 + j) = nI (updF O.wr O.n (dig m) p j)
      rcases cas p hp with rfl | ⟨h1, h2⟩
      · rw [uF_at, up _ (by omega) (by omega)]; exact mo_at (g1 j hj).2.1 rfl (by omega)
      · rw [uF_ne h1]; exact (old _ (by omega) (by omega) (by omega)).trans (hO.wr p h2 j hj)
    · intro j hj
      show V8 1 (0 + 21 * p + 15 + j) = tI (updF O.till O.n (fun _ => 0) p j)
      rcases cas p hp with rfl | ⟨h1, h2⟩
      · rw [uF_at, up _ (by omega) (by omega)]; exact mo_at (g1 j hj).2.2 rfl (by omega)
      · rw [uF_ne h1]; exact (old _ (by omega) (by omega) (by omega)).trans (hO.till p h2 j hj)
theorem mm_person (hV : VS S) (hM : MW I J S) {x y z u : Int32} : mj_E 141 [.ref 0, .int x, .int y, .int z, .int u] (KM, I, J, GM) (fun w' r => r = some (.int (aPerson S x y z u)) ∧ ∃ I' J', w' = (KM, I', J', GM) ∧ MW I' J' (sPerson S x y z u)) := by
  have hn := hV.o.n
  have hr1 := ir01 x 0 3
  have hr2 := ir01 y 0 9
  have hr3 := papN_lt z
  have hr4 := ir01 u 0 7
  unfold aPerson sPerson
  refine mjT_go 4 (pc' := 6) (L' := [some (.ref 0), some (.int x), some (.int y), some (.int z), some (.int u)]) (st' := [.long (lN 3), .long (lN 0), .long x.toInt64]) (w1 := (KM, I, J, GM)) rfl ?_
  refine mjT_callE (as := [.long x.toInt64, .long (lN 0), .long (lN 3)]) (rest := []) (r1 := some (.int (nI (iR x 0 3)))) rfl rfl rfl rfl rfl ⟨rfl, rfl⟩ (m_inR (by decide) (by decide)) ?_
  refine mjT_go 1 (pc' := if nI (iR x 0 3) = 0 then 40 else 12) (L' := [some (.ref 0), some (.int x), some (.int y), some (.int z), some (.int u)]) (st' := []) (w1 := (KM, I, J, GM)) rfl ?_
  refine mjT_if_eq (u := iR x 0 3) (v := 0) rfl nI_0.symm (by omega) (by omega) (fun h1 => ?_) (fun h1 => ?_)
  · rw [if_neg (by omega), if_neg (by omega)]
    refine mjT_go 1 (pc' := 41) (L' := [some (.ref 0), some (.int x), some (.int y), some (.int z), some (.int u)]) (st' := [.int (-1)]) (w1 := (KM, I, J, GM)) rfl ?_
    refine mjT_ret rfl rfl rfl ?_
    exact ⟨rfl, _, _, rfl, hM⟩
  refine mjT_go 4 (pc' := 18) (L' := [some (.ref 0), some (.int x), some (.int y), some (.int z), some (.int u)]) (st' := [.long (lN 9), .long (lN 0), .long y.toInt64]) (w1 := (KM, I, J, GM)) rfl ?_
  refine mjT_callE (as := [.long y.toInt64, .long (lN 0), .long (lN 9)]) (rest := []) (r1 := some (.int (nI (iR y 0 9)))) rfl rfl rfl rfl rfl ⟨rfl, rfl⟩ (m_inR (by decide) (by decide)) ?_
  refine mjT_go 1 (pc' := if nI (iR y 0 9) = 0 then 40 else 24) (L' := [some (.ref 0), some (.int x), some (.int y), some (.int z), some (.int u)]) (st' := []) (w1 := (KM, I, J, GM)) rfl ?_
  refine mjT_if_eq (u := iR y 0 9) (v := 0) rfl nI_0.symm (by omega) (by omega) (fun h2 => ?_) (fun h2 => ?_)
  · rw [if_neg (by omega), if_neg (by omega)]
    refine mjT_go 1 (pc' := 41) (L' := [some (.ref 0), some (.int x), some (.int y), some (.int z), some (.int u)]) (st' := [.int (-1)]) (w1 := (KM, I, J, GM)) rfl ?_
    refine mjT_ret rfl rfl rfl ?_
    exact ⟨rfl, _, _, rfl, hM⟩
  refine mjT_go 2 (pc' := 26) (L' := [some (.ref 0), some (.int x), some (.int y), some (.int z), some (.int u)]) (st' := [.long z.toInt64]) (w1 := (KM, I, J, GM)) rfl ?_
  refine mjT_callE (as := [.long z.toInt64]) (rest := []) (r1 := some (.int (nI (papN z)))) rfl rfl rfl rfl rfl ⟨rfl, rfl⟩ m_isPaperI ?_
  refine mjT_go 1 (pc' := if nI (papN z) = 0 then 40 else 32) (L' := [some (.ref 0), some (.int x), some (.int y), some (.int z), some (.int u)]) (st' := []) (w1 := (KM, I, J, GM)) rfl ?_
  refine mjT_if_eq (u := papN z) (v := 0) rfl nI_0.symm (by omega) (by omega) (fun h3 => ?_) (fun h3 => ?_)
  · rw [if_neg (by omega), if_neg (by omega)]
    refine mjT_go 1 (pc' := 41) (L' := [some (.ref 0), some (.int x), some (.int y), some (.int z), some (.int u)]) (st' := [.int (-1)]) (w1 := (KM, I, J, GM)) rfl ?_
    refine mjT_ret rfl rfl rfl ?_
    exact ⟨rfl, _, _, rfl, hM⟩
  refine mjT_go 1 (pc' := 34) (L' := [some (.ref 0), some (.int x), some (.int y), some (.int z), some (.int u)]) (st' := [.int u]) (w1 := (KM, I, J, GM)) rfl ?_
  refine mjT_callE (as := [.int u]) (rest := []) (r1 := some (.int (nI (iR u 0 7)))) rfl rfl rfl rfl rfl ⟨rfl, rfl⟩ m_isChair ?_
  refine mjT_go 1 (pc' := if ¬ nI (iR u 0 7) = 0 then 42 else 40) (L' := [some (.ref 0), some (.int x), some (.int y), some (.int z), some (.int u)]) (st' := []) (w1 := (KM, I, J, GM)) rfl ?_
  refine mjT_if_ne (u := iR u 0 7) (v := 0) rfl nI_0.symm (by omega) (by omega) (fun h4 => ?_) (fun h4 => ?_)
  rotate_left
  · rw [if_neg (by omega), if_neg (by omega)]
    refine mjT_go 1 (pc' := 41) (L' := [some (.ref 0), some (.int x), some (.int y), some (.int z), some (.int u)]) (st' := [.int (-1)]) (w1 := (KM, I, J, GM)) rfl ?_
    refine mjT_ret rfl rfl rfl ?_
    exact ⟨rfl, _, _, rfl, hM⟩
  rw [if_pos (show iR x 0 3 = 1 ∧ iR y 0 9 = 1 ∧ papN z = 1 ∧ iR u 0 7 = 1 by omega), if_pos (show iR x 0 3 = 1 ∧ iR y 0 9 = 1 ∧ papN z = 1 ∧ iR u 0 7 = 1 by omega)]
  obtain ⟨k, _, hk, rfl⟩ := iR_1 (x := x) (a := 0) (b := 3) (by omega) (by omega) (by omega)
  obtain ⟨s, _, hs, rfl⟩ := iR_1 (x := y) (a := 0) (b := 9) (by omega) (by omega) (by omega)
  obtain ⟨m, hm, rfl, _, hd, e⟩ := papN_1 (x := z) (by omega)
  obtain ⟨c, _, hc, rfl⟩ := iR_1 (x := u) (a := 0) (b := 7) (by omega) (by omega) (by omega)
  rw [nn_N (by omega), nn_N (by omega), nn_N (by omega), nn_N (by omega)]
  have hsr := sitr_le S.o c
  refine mjT_go 3 (pc' := 46) (L' := [some (.ref 0), some (.int (nI k)), some (.int (nI s)), some (.int (nI m)), some (.int (nI c))]) (st' := [.int (nI c), .int (nI 0), .ref 0]) (w1 := (KM, I, J, GM)) rfl ?_
  refine mjT_callE (as := [.ref 0, .int (nI 0), .int (nI c)]) (rest := []) (r1 := some (.int (tI (sitr S.o c)))) rfl rfl rfl rfl rfl ⟨rfl, rfl⟩ (m_sitsOn hV.o hM.o (by omega) (by omega)) ?_
  refine mjT_go 1 (pc' := if tI (sitr S.o c) < 0 then 55 else 52) (L' := [some (.ref 0), some (.int (nI k)), some (.int (nI s)), some (.int (nI m)), some (.int (nI c))]) (st' := []) (w1 := (KM, I, J, GM)) rfl ?_
  refine mjT_if (fun h5 => ?_) (fun h5 => ?_)
  rotate_left
  · rw [tI_neg (by omega)] at h5
    rw [if_neg h5, if_neg h5]
    refine mjT_go 1 (pc' := 54) (L' := [some (.ref 0), some (.int (nI k)), some (.int (nI s)), some (.int (nI m)), some (.int (nI c))]) (st' := [.int (-2)]) (w1 := (KM, I, J, GM)) rfl ?_
    refine mjT_ret rfl rfl rfl ?_
    exact ⟨rfl, _, _, rfl, hM⟩
  rw [tI_neg (by omega)] at h5
  rw [if_pos h5, if_pos h5]
  refine mjT_go 3 (pc' := 62) (L' := [some (.ref 0), some (.int (nI k)), some (.int (nI s)), some (.int (nI m)), some (.int (nI c))]) (st' := [.int (nI 147), .ref 1]) (w1 := (KM, I, J, GM)) rfl ?_
  refine mjT_ial (v := nI S.o.n) 147 1840 rfl (pc' := 63) rfl rfl rfl (by omega) (by omega) (mo_at hM.o.n rfl (by omega)) ?_
  refine mjT_go 2 (pc' := if ¬ nI S.o.n = nI 7 then 71 else 68) (L' := [some (.ref 0), some (.int (nI k)), some (.int (nI s)), some (.int (nI m)), some (.int (nI c))]) (st' := []) (w1 := (KM, I, J, GM)) rfl ?_
  refine mjT_if_ne (u := S.o.n) (v := 7) rfl rfl (by omega) (by omega) (fun h6 => ?_) (fun h6 => ?_)
  rotate_left
  · rw [if_pos h6, if_pos h6]
    refine mjT_go 1 (pc' := 70) (L' := [some (.ref 0), some (.int (nI k)), some (.int (nI s)), some (.int (nI m)), some (.int (nI c))]) (st' := [.int (-3)]) (w1 := (KM, I, J, GM)) rfl ?_
    refine mjT_ret rfl rfl rfl ?_
    exact ⟨rfl, _, _, rfl, hM⟩
  rw [if_neg h6, if_neg h6]
  refine mjT_go 5 (pc' := 77) (L' := [some (.ref 0), some (.int (nI k)), some (.int (nI s)), some (.int (nI m)), some (.int (nI c))]) (st' := [.int (nI c), .int (nI m), .int (nI s), .int (nI k), .ref 0]) (w1 := (KM, I, J, GM)) rfl ?_
  refine mjT_call (as := [.ref 0, .int (nI k), .int (nI s), .int (nI m), .int (nI c)]) (rest := []) rfl rfl rfl rfl rfl ⟨rfl, rfl⟩ (m_add hV.o.n hM.o hm (by omega)) ?_
  rintro _ _ ⟨rfl, I2, rfl, hO2, hk2, hf2, hg2⟩
  refine mjT_go 3 (pc' := 87) (L' := [some (.ref 0), some (.int (nI k)), some (.int (nI s)), some (.int (nI m)), some (.int (nI c))]) (st' := [.int (nI 147), .ref 1]) (w1 := (KM, I2, J, GM)) rfl ?_
  refine mjT_ial (v := nI (S.o.n + 1)) 147 1840 rfl (pc' := 88) rfl rfl rfl (by omega) (by omega) (show I2 1 147 = nI (S.o.n + 1) from hO2.n) ?_
  refine mjT_go 1 (pc' := 89) (L' := [some (.ref 0), some (.int (nI k)), some (.int (nI s)), some (.int (nI m)), some (.int (nI c))]) (st' := [.int (nI 1), .int (nI (S.o.n + 1))]) (w1 := (KM, I2, J, GM)) rfl ?_
  refine mjT_go 1 (pc' := 90) (L' := [some (.ref 0), some (.int (nI k)), some (.int (nI s)), some (.int (nI m)), some (.int (nI c))]) (st' := [.int ((nI (S.o.n + 1)) - (nI 1))]) (w1 := (KM, I2, J, GM)) rfl ?_
  rw [nI_sub1]
  refine mjT_ret rfl rfl rfl ?_
  refine ⟨rfl, _, _, rfl, hO2, ⟨hk2, fun j hj => absurd (show j < 0 from hj) (by omega)⟩, by rw [hg2 0 (by omega)]; exact hM.im, fun hi => ?_, ?_, ?_, ?_, ?_, hM.it⟩
  · obtain ⟨v1, v2, v3, v4⟩ := hV.io hi
    exact ⟨mo_cong (hM.io hi).1 v1.n (fun k a b => hf2 k (by omega)), pm_cong (hM.io hi).2 v3 v1.n v4 (fun k a b => hf2 k (by omega))⟩
  · rw [hg2 _ (by omega)]; exact hM.tl
  · rw [hg2 _ (by omega)]; exact hM.tp
  · rw [hg2 _ (by omega)]; exact hM.ln
  · rw [hg2 _ (by omega)]; exact hM.sz
theorem sim_person {x y z u : Int32} : SimO 72 141 [.int x, .int y, .int z, .int u] := fun S _ _ _ _ hV hC hM => ⟨_, _, vs_person hV, cc_person hV hC, mm_person hV hM⟩
end PE
